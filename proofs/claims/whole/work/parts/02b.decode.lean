theorem dX0_init_0 : decode cX0_init 0 = .ok (.aload_n 0, 1) := by decide +kernel
theorem dX0_init_1 : decode cX0_init 1 = .ok (.invokespecial 1, 3) := by decide +kernel
theorem dX0_init_4 : decode cX0_init 4 = .ok (.aload_n 0, 1) := by decide +kernel
theorem dX0_init_5 : decode cX0_init 5 = .ok (.iload_n 1, 1) := by decide +kernel
theorem dX0_init_6 : decode cX0_init 6 = .ok (.putfield 7, 3) := by decide +kernel
theorem dX0_init_9 : decode cX0_init 9 = .ok (.aload_n 0, 1) := by decide +kernel
theorem dX0_init_10 : decode cX0_init 10 = .ok (.aload_n 2, 1) := by decide +kernel
theorem dX0_init_11 : decode cX0_init 11 = .ok (.putfield 13, 3) := by decide +kernel
theorem dX0_init_14 : decode cX0_init 14 = .ok (.return_, 1) := by decide +kernel
theorem dX1_init_0 : decode cX1_init 0 = .ok (.aload_n 0, 1) := by decide +kernel
theorem dX1_init_1 : decode cX1_init 1 = .ok (.invokespecial 3, 3) := by decide +kernel
theorem dX1_init_4 : decode cX1_init 4 = .ok (.aload_n 0, 1) := by decide +kernel
theorem dX1_init_5 : decode cX1_init 5 = .ok (.iconst 0, 1) := by decide +kernel
theorem dX1_init_6 : decode cX1_init 6 = .ok (.putfield 9, 3) := by decide +kernel
theorem dX1_init_9 : decode cX1_init 9 = .ok (.aload_n 0, 1) := by decide +kernel
theorem dX1_init_10 : decode cX1_init 10 = .ok (.aload_n 1, 1) := by decide +kernel
theorem dX1_init_11 : decode cX1_init 11 = .ok (.putfield 15, 3) := by decide +kernel
theorem dX1_init_14 : decode cX1_init 14 = .ok (.aload_n 0, 1) := by decide +kernel
theorem dX1_init_15 : decode cX1_init 15 = .ok (.aload_n 2, 1) := by decide +kernel
theorem dX1_init_16 : decode cX1_init 16 = .ok (.putfield 19, 3) := by decide +kernel
theorem dX1_init_19 : decode cX1_init 19 = .ok (.aload_n 0, 1) := by decide +kernel
theorem dX1_init_20 : decode cX1_init 20 = .ok (.iload_n 3, 1) := by decide +kernel
theorem dX1_init_21 : decode cX1_init 21 = .ok (.putfield 23, 3) := by decide +kernel
theorem dX1_init_24 : decode cX1_init 24 = .ok (.aload_n 0, 1) := by decide +kernel
theorem dX1_init_25 : decode cX1_init 25 = .ok (.iload_n 3, 1) := by decide +kernel
theorem dX1_init_26 : decode cX1_init 26 = .ok (.putfield 26, 3) := by decide +kernel
theorem dX1_init_29 : decode cX1_init 29 = .ok (.return_, 1) := by decide +kernel
theorem dX1_blockEnd_0 : decode cX1_blockEnd 0 = .ok (.aload_n 0, 1) := by decide +kernel
theorem dX1_blockEnd_1 : decode cX1_blockEnd 1 = .ok (.getfield 15, 3) := by decide +kernel
theorem dX1_blockEnd_4 : decode cX1_blockEnd 4 = .ok (.getfield 29, 3) := by decide +kernel
theorem dX1_blockEnd_7 : decode cX1_blockEnd 7 = .ok (.ifCond .lt 13, 3) := by decide +kernel
theorem dX1_blockEnd_10 : decode cX1_blockEnd 10 = .ok (.aload_n 0, 1) := by decide +kernel
theorem dX1_blockEnd_11 : decode cX1_blockEnd 11 = .ok (.getfield 15, 3) := by decide +kernel
theorem dX1_blockEnd_14 : decode cX1_blockEnd 14 = .ok (.getfield 29, 3) := by decide +kernel
theorem dX1_blockEnd_17 : decode cX1_blockEnd 17 = .ok (.goto 7, 3) := by decide +kernel
theorem dX1_blockEnd_20 : decode cX1_blockEnd 20 = .ok (.aload_n 0, 1) := by decide +kernel
theorem dX1_blockEnd_21 : decode cX1_blockEnd 21 = .ok (.getfield 23, 3) := by decide +kernel
theorem dX1_blockEnd_24 : decode cX1_blockEnd 24 = .ok (.ireturn, 1) := by decide +kernel
theorem dX1_placeBehind_0 : decode cX1_placeBehind 0 = .ok (.aload_n 0, 1) := by decide +kernel
theorem dX1_placeBehind_1 : decode cX1_placeBehind 1 = .ok (.getfield 15, 3) := by decide +kernel
theorem dX1_placeBehind_4 : decode cX1_placeBehind 4 = .ok (.getfield 29, 3) := by decide +kernel
theorem dX1_placeBehind_7 : decode cX1_placeBehind 7 = .ok (.ifCond .lt 15, 3) := by decide +kernel
theorem dX1_placeBehind_10 : decode cX1_placeBehind 10 = .ok (.aload_n 0, 1) := by decide +kernel
theorem dX1_placeBehind_11 : decode cX1_placeBehind 11 = .ok (.getfield 15, 3) := by decide +kernel
theorem dX1_placeBehind_14 : decode cX1_placeBehind 14 = .ok (.getfield 29, 3) := by decide +kernel
theorem dX1_placeBehind_17 : decode cX1_placeBehind 17 = .ok (.iconst 1, 1) := by decide +kernel
theorem dX1_placeBehind_18 : decode cX1_placeBehind 18 = .ok (.iadd, 1) := by decide +kernel
theorem dX1_placeBehind_19 : decode cX1_placeBehind 19 = .ok (.goto 7, 3) := by decide +kernel
theorem dX1_placeBehind_22 : decode cX1_placeBehind 22 = .ok (.aload_n 0, 1) := by decide +kernel
theorem dX1_placeBehind_23 : decode cX1_placeBehind 23 = .ok (.getfield 23, 3) := by decide +kernel
theorem dX1_placeBehind_26 : decode cX1_placeBehind 26 = .ok (.ireturn, 1) := by decide +kernel
theorem dX1_takerEnd_0 : decode cX1_takerEnd 0 = .ok (.aload_n 0, 1) := by decide +kernel
theorem dX1_takerEnd_1 : decode cX1_takerEnd 1 = .ok (.getfield 15, 3) := by decide +kernel
theorem dX1_takerEnd_4 : decode cX1_takerEnd 4 = .ok (.getfield 34, 3) := by decide +kernel
theorem dX1_takerEnd_7 : decode cX1_takerEnd 7 = .ok (.ifCond .lt 13, 3) := by decide +kernel
theorem dX1_takerEnd_10 : decode cX1_takerEnd 10 = .ok (.aload_n 0, 1) := by decide +kernel
theorem dX1_takerEnd_11 : decode cX1_takerEnd 11 = .ok (.getfield 15, 3) := by decide +kernel
theorem dX1_takerEnd_14 : decode cX1_takerEnd 14 = .ok (.getfield 34, 3) := by decide +kernel
theorem dX1_takerEnd_17 : decode cX1_takerEnd 17 = .ok (.goto 7, 3) := by decide +kernel
theorem dX1_takerEnd_20 : decode cX1_takerEnd 20 = .ok (.aload_n 0, 1) := by decide +kernel
theorem dX1_takerEnd_21 : decode cX1_takerEnd 21 = .ok (.invokevirtual 37, 3) := by decide +kernel
theorem dX1_takerEnd_24 : decode cX1_takerEnd 24 = .ok (.ireturn, 1) := by decide +kernel
theorem dX1_bodyEnd_0 : decode cX1_bodyEnd 0 = .ok (.aload_n 0, 1) := by decide +kernel
theorem dX1_bodyEnd_1 : decode cX1_bodyEnd 1 = .ok (.getfield 15, 3) := by decide +kernel
theorem dX1_bodyEnd_4 : decode cX1_bodyEnd 4 = .ok (.getfield 41, 3) := by decide +kernel
theorem dX1_bodyEnd_7 : decode cX1_bodyEnd 7 = .ok (.ifCond .lt 13, 3) := by decide +kernel
theorem dX1_bodyEnd_10 : decode cX1_bodyEnd 10 = .ok (.aload_n 0, 1) := by decide +kernel
theorem dX1_bodyEnd_11 : decode cX1_bodyEnd 11 = .ok (.getfield 15, 3) := by decide +kernel
theorem dX1_bodyEnd_14 : decode cX1_bodyEnd 14 = .ok (.getfield 41, 3) := by decide +kernel
theorem dX1_bodyEnd_17 : decode cX1_bodyEnd 17 = .ok (.goto 7, 3) := by decide +kernel
theorem dX1_bodyEnd_20 : decode cX1_bodyEnd 20 = .ok (.aload_n 0, 1) := by decide +kernel
theorem dX1_bodyEnd_21 : decode cX1_bodyEnd 21 = .ok (.invokevirtual 44, 3) := by decide +kernel
theorem dX1_bodyEnd_24 : decode cX1_bodyEnd 24 = .ok (.ireturn, 1) := by decide +kernel
theorem dX2_init_0 : decode cX2_init 0 = .ok (.aload_n 0, 1) := by decide +kernel
theorem dX2_init_1 : decode cX2_init 1 = .ok (.invokespecial 3, 3) := by decide +kernel
theorem dX2_init_4 : decode cX2_init 4 = .ok (.aload_n 0, 1) := by decide +kernel
theorem dX2_init_5 : decode cX2_init 5 = .ok (.bipush 49, 2) := by decide +kernel
theorem dX2_init_7 : decode cX2_init 7 = .ok (.newarray .int, 2) := by decide +kernel
theorem dX2_init_9 : decode cX2_init 9 = .ok (.putfield 9, 3) := by decide +kernel
theorem dX2_init_12 : decode cX2_init 12 = .ok (.return_, 1) := by decide +kernel
theorem dX2_make_0 : decode cX2_make 0 = .ok (.aload_n 0, 1) := by decide +kernel
theorem dX2_make_1 : decode cX2_make 1 = .ok (.iconst 1, 1) := by decide +kernel
theorem dX2_make_2 : decode cX2_make 2 = .ok (.putfield 15, 3) := by decide +kernel
theorem dX2_make_5 : decode cX2_make 5 = .ok (.aload_n 0, 1) := by decide +kernel
theorem dX2_make_6 : decode cX2_make 6 = .ok (.iload_n 1, 1) := by decide +kernel
theorem dX2_make_7 : decode cX2_make 7 = .ok (.putfield 19, 3) := by decide +kernel
theorem dX2_make_10 : decode cX2_make 10 = .ok (.aload_n 0, 1) := by decide +kernel
theorem dX2_make_11 : decode cX2_make 11 = .ok (.iload_n 2, 1) := by decide +kernel
theorem dX2_make_12 : decode cX2_make 12 = .ok (.putfield 23, 3) := by decide +kernel
theorem dX2_make_15 : decode cX2_make 15 = .ok (.aload_n 0, 1) := by decide +kernel
theorem dX2_make_16 : decode cX2_make 16 = .ok (.getfield 9, 3) := by decide +kernel
theorem dX2_make_19 : decode cX2_make 19 = .ok (.iconst 0, 1) := by decide +kernel
theorem dX2_make_20 : decode cX2_make 20 = .ok (.invokestatic 26, 3) := by decide +kernel
theorem dX2_make_23 : decode cX2_make 23 = .ok (.return_, 1) := by decide +kernel
theorem dX2_has_0 : decode cX2_has 0 = .ok (.iload_n 1, 1) := by decide +kernel
theorem dX2_has_1 : decode cX2_has 1 = .ok (.ifCond .lt 27, 3) := by decide +kernel
theorem dX2_has_4 : decode cX2_has 4 = .ok (.iload_n 1, 1) := by decide +kernel
theorem dX2_has_5 : decode cX2_has 5 = .ok (.aload_n 0, 1) := by decide +kernel
theorem dX2_has_6 : decode cX2_has 6 = .ok (.getfield 19, 3) := by decide +kernel
theorem dX2_has_9 : decode cX2_has 9 = .ok (.if_icmp .ge 19, 3) := by decide +kernel
theorem dX2_has_12 : decode cX2_has 12 = .ok (.iload_n 2, 1) := by decide +kernel
theorem dX2_has_13 : decode cX2_has 13 = .ok (.ifCond .lt 15, 3) := by decide +kernel
theorem dX2_has_16 : decode cX2_has 16 = .ok (.iload_n 2, 1) := by decide +kernel
theorem dX2_has_17 : decode cX2_has 17 = .ok (.aload_n 0, 1) := by decide +kernel
theorem dX2_has_18 : decode cX2_has 18 = .ok (.getfield 23, 3) := by decide +kernel
theorem dX2_has_21 : decode cX2_has 21 = .ok (.if_icmp .ge 7, 3) := by decide +kernel
theorem dX2_has_24 : decode cX2_has 24 = .ok (.iconst 1, 1) := by decide +kernel
theorem dX2_has_25 : decode cX2_has 25 = .ok (.goto 4, 3) := by decide +kernel
theorem dX2_has_28 : decode cX2_has 28 = .ok (.iconst 0, 1) := by decide +kernel
theorem dX2_has_29 : decode cX2_has 29 = .ok (.ireturn, 1) := by decide +kernel
theorem dX2_cellAt_0 : decode cX2_cellAt 0 = .ok (.iload_n 1, 1) := by decide +kernel
theorem dX2_cellAt_1 : decode cX2_cellAt 1 = .ok (.bipush 7, 2) := by decide +kernel
theorem dX2_cellAt_3 : decode cX2_cellAt 3 = .ok (.imul, 1) := by decide +kernel
theorem dX2_cellAt_4 : decode cX2_cellAt 4 = .ok (.iload_n 2, 1) := by decide +kernel
theorem dX2_cellAt_5 : decode cX2_cellAt 5 = .ok (.iadd, 1) := by decide +kernel
theorem dX2_cellAt_6 : decode cX2_cellAt 6 = .ok (.istore_n 3, 1) := by decide +kernel
theorem dX2_cellAt_7 : decode cX2_cellAt 7 = .ok (.iload_n 3, 1) := by decide +kernel
theorem dX2_cellAt_8 : decode cX2_cellAt 8 = .ok (.ifCond .lt 21, 3) := by decide +kernel
theorem dX2_cellAt_11 : decode cX2_cellAt 11 = .ok (.iload_n 3, 1) := by decide +kernel
theorem dX2_cellAt_12 : decode cX2_cellAt 12 = .ok (.aload_n 0, 1) := by decide +kernel
theorem dX2_cellAt_13 : decode cX2_cellAt 13 = .ok (.getfield 9, 3) := by decide +kernel
theorem dX2_cellAt_16 : decode cX2_cellAt 16 = .ok (.arraylength, 1) := by decide +kernel
theorem dX2_cellAt_17 : decode cX2_cellAt 17 = .ok (.if_icmp .ge 12, 3) := by decide +kernel
theorem dX2_cellAt_20 : decode cX2_cellAt 20 = .ok (.aload_n 0, 1) := by decide +kernel
theorem dX2_cellAt_21 : decode cX2_cellAt 21 = .ok (.getfield 9, 3) := by decide +kernel
theorem dX2_cellAt_24 : decode cX2_cellAt 24 = .ok (.iload_n 3, 1) := by decide +kernel
theorem dX2_cellAt_25 : decode cX2_cellAt 25 = .ok (.iaload, 1) := by decide +kernel
theorem dX2_cellAt_26 : decode cX2_cellAt 26 = .ok (.goto 4, 3) := by decide +kernel
theorem dX2_cellAt_29 : decode cX2_cellAt 29 = .ok (.iconst 0, 1) := by decide +kernel
theorem dX2_cellAt_30 : decode cX2_cellAt 30 = .ok (.ireturn, 1) := by decide +kernel
theorem dX2_putCell_0 : decode cX2_putCell 0 = .ok (.iload_n 1, 1) := by decide +kernel
theorem dX2_putCell_1 : decode cX2_putCell 1 = .ok (.bipush 7, 2) := by decide +kernel
theorem dX2_putCell_3 : decode cX2_putCell 3 = .ok (.imul, 1) := by decide +kernel
theorem dX2_putCell_4 : decode cX2_putCell 4 = .ok (.iload_n 2, 1) := by decide +kernel
theorem dX2_putCell_5 : decode cX2_putCell 5 = .ok (.iadd, 1) := by decide +kernel
theorem dX2_putCell_6 : decode cX2_putCell 6 = .ok (.istore 4, 2) := by decide +kernel
theorem dX2_putCell_8 : decode cX2_putCell 8 = .ok (.iload 4, 2) := by decide +kernel
theorem dX2_putCell_10 : decode cX2_putCell 10 = .ok (.ifCond .lt 21, 3) := by decide +kernel
theorem dX2_putCell_13 : decode cX2_putCell 13 = .ok (.iload 4, 2) := by decide +kernel
theorem dX2_putCell_15 : decode cX2_putCell 15 = .ok (.aload_n 0, 1) := by decide +kernel
theorem dX2_putCell_16 : decode cX2_putCell 16 = .ok (.getfield 9, 3) := by decide +kernel
theorem dX2_putCell_19 : decode cX2_putCell 19 = .ok (.arraylength, 1) := by decide +kernel
theorem dX2_putCell_20 : decode cX2_putCell 20 = .ok (.if_icmp .ge 11, 3) := by decide +kernel
theorem dX2_putCell_23 : decode cX2_putCell 23 = .ok (.aload_n 0, 1) := by decide +kernel
theorem dX2_putCell_24 : decode cX2_putCell 24 = .ok (.getfield 9, 3) := by decide +kernel
theorem dX2_putCell_27 : decode cX2_putCell 27 = .ok (.iload 4, 2) := by decide +kernel
theorem dX2_putCell_29 : decode cX2_putCell 29 = .ok (.iload_n 3, 1) := by decide +kernel
theorem dX2_putCell_30 : decode cX2_putCell 30 = .ok (.iastore, 1) := by decide +kernel
theorem dX2_putCell_31 : decode cX2_putCell 31 = .ok (.return_, 1) := by decide +kernel
theorem dX3_init_0 : decode cX3_init 0 = .ok (.aload_n 0, 1) := by decide +kernel
theorem dX3_init_1 : decode cX3_init 1 = .ok (.invokespecial 3, 3) := by decide +kernel
theorem dX3_init_4 : decode cX3_init 4 = .ok (.aload_n 0, 1) := by decide +kernel
theorem dX3_init_5 : decode cX3_init 5 = .ok (.bipush 8, 2) := by decide +kernel
theorem dX3_init_7 : decode cX3_init 7 = .ok (.newarray .long, 2) := by decide +kernel
theorem dX3_init_9 : decode cX3_init 9 = .ok (.putfield 9, 3) := by decide +kernel
theorem dX3_init_12 : decode cX3_init 12 = .ok (.aload_n 0, 1) := by decide +kernel
theorem dX3_init_13 : decode cX3_init 13 = .ok (.bipush 8, 2) := by decide +kernel
theorem dX3_init_15 : decode cX3_init 15 = .ok (.anewarray 15, 3) := by decide +kernel
theorem dX3_init_18 : decode cX3_init 18 = .ok (.putfield 17, 3) := by decide +kernel
theorem dX3_init_21 : decode cX3_init 21 = .ok (.aload_n 0, 1) := by decide +kernel
theorem dX3_init_22 : decode cX3_init 22 = .ok (.bipush 64, 2) := by decide +kernel
theorem dX3_init_24 : decode cX3_init 24 = .ok (.anewarray 21, 3) := by decide +kernel
theorem dX3_init_27 : decode cX3_init 27 = .ok (.putfield 23, 3) := by decide +kernel
theorem dX3_init_30 : decode cX3_init 30 = .ok (.aload_n 0, 1) := by decide +kernel
theorem dX3_init_31 : decode cX3_init 31 = .ok (.new 27, 3) := by decide +kernel
theorem dX3_init_34 : decode cX3_init 34 = .ok (.dup, 1) := by decide +kernel
theorem dX3_init_35 : decode cX3_init 35 = .ok (.invokespecial 29, 3) := by decide +kernel
theorem dX3_init_38 : decode cX3_init 38 = .ok (.putfield 30, 3) := by decide +kernel
theorem dX3_init_41 : decode cX3_init 41 = .ok (.return_, 1) := by decide +kernel
theorem dX3_numberOf_0 : decode cX3_numberOf 0 = .ok (.aload_n 0, 1) := by decide +kernel
theorem dX3_numberOf_1 : decode cX3_numberOf 1 = .ok (.getfield 9, 3) := by decide +kernel
theorem dX3_numberOf_4 : decode cX3_numberOf 4 = .ok (.iload_n 1, 1) := by decide +kernel
theorem dX3_numberOf_5 : decode cX3_numberOf 5 = .ok (.bipush 7, 2) := by decide +kernel
theorem dX3_numberOf_7 : decode cX3_numberOf 7 = .ok (.iand, 1) := by decide +kernel
theorem dX3_numberOf_8 : decode cX3_numberOf 8 = .ok (.laload, 1) := by decide +kernel
theorem dX3_numberOf_9 : decode cX3_numberOf 9 = .ok (.lreturn, 1) := by decide +kernel
theorem dX3_setNumber_0 : decode cX3_setNumber 0 = .ok (.aload_n 0, 1) := by decide +kernel
theorem dX3_setNumber_1 : decode cX3_setNumber 1 = .ok (.getfield 9, 3) := by decide +kernel
theorem dX3_setNumber_4 : decode cX3_setNumber 4 = .ok (.iload_n 1, 1) := by decide +kernel
theorem dX3_setNumber_5 : decode cX3_setNumber 5 = .ok (.bipush 7, 2) := by decide +kernel
theorem dX3_setNumber_7 : decode cX3_setNumber 7 = .ok (.iand, 1) := by decide +kernel
theorem dX3_setNumber_8 : decode cX3_setNumber 8 = .ok (.lload_n 2, 1) := by decide +kernel
theorem dX3_setNumber_9 : decode cX3_setNumber 9 = .ok (.lastore, 1) := by decide +kernel
theorem dX3_setNumber_10 : decode cX3_setNumber 10 = .ok (.return_, 1) := by decide +kernel
theorem dX3_thingOf_0 : decode cX3_thingOf 0 = .ok (.aload_n 0, 1) := by decide +kernel
theorem dX3_thingOf_1 : decode cX3_thingOf 1 = .ok (.getfield 17, 3) := by decide +kernel
theorem dX3_thingOf_4 : decode cX3_thingOf 4 = .ok (.iload_n 1, 1) := by decide +kernel
theorem dX3_thingOf_5 : decode cX3_thingOf 5 = .ok (.bipush 7, 2) := by decide +kernel
theorem dX3_thingOf_7 : decode cX3_thingOf 7 = .ok (.iand, 1) := by decide +kernel
theorem dX3_thingOf_8 : decode cX3_thingOf 8 = .ok (.aaload, 1) := by decide +kernel
theorem dX3_thingOf_9 : decode cX3_thingOf 9 = .ok (.areturn, 1) := by decide +kernel
theorem dX3_rowOf_0 : decode cX3_rowOf 0 = .ok (.aload_n 0, 1) := by decide +kernel
theorem dX3_rowOf_1 : decode cX3_rowOf 1 = .ok (.getfield 23, 3) := by decide +kernel
theorem dX3_rowOf_4 : decode cX3_rowOf 4 = .ok (.iload_n 1, 1) := by decide +kernel
theorem dX3_rowOf_5 : decode cX3_rowOf 5 = .ok (.bipush 7, 2) := by decide +kernel
theorem dX3_rowOf_7 : decode cX3_rowOf 7 = .ok (.iand, 1) := by decide +kernel
theorem dX3_rowOf_8 : decode cX3_rowOf 8 = .ok (.iconst 3, 1) := by decide +kernel
theorem dX3_rowOf_9 : decode cX3_rowOf 9 = .ok (.ishl, 1) := by decide +kernel
theorem dX3_rowOf_10 : decode cX3_rowOf 10 = .ok (.iload_n 2, 1) := by decide +kernel
theorem dX3_rowOf_11 : decode cX3_rowOf 11 = .ok (.bipush 7, 2) := by decide +kernel
theorem dX3_rowOf_13 : decode cX3_rowOf 13 = .ok (.iand, 1) := by decide +kernel
theorem dX3_rowOf_14 : decode cX3_rowOf 14 = .ok (.ior, 1) := by decide +kernel
theorem dX3_rowOf_15 : decode cX3_rowOf 15 = .ok (.aaload, 1) := by decide +kernel
theorem dX3_rowOf_16 : decode cX3_rowOf 16 = .ok (.areturn, 1) := by decide +kernel
theorem dX3_intOf_0 : decode cX3_intOf 0 = .ok (.aload_n 0, 1) := by decide +kernel
theorem dX3_intOf_1 : decode cX3_intOf 1 = .ok (.iload_n 1, 1) := by decide +kernel
theorem dX3_intOf_2 : decode cX3_intOf 2 = .ok (.invokevirtual 34, 3) := by decide +kernel
theorem dX3_intOf_5 : decode cX3_intOf 5 = .ok (.l2i, 1) := by decide +kernel
theorem dX3_intOf_6 : decode cX3_intOf 6 = .ok (.ireturn, 1) := by decide +kernel
theorem dX3_workStep_0 : decode cX3_workStep 0 = .ok (.aload_n 1, 1) := by decide +kernel
theorem dX3_workStep_1 : decode cX3_workStep 1 = .ok (.getfield 38, 3) := by decide +kernel
theorem dX3_workStep_4 : decode cX3_workStep 4 = .ok (.bipush 6, 2) := by decide +kernel
theorem dX3_workStep_6 : decode cX3_workStep 6 = .ok (.if_icmp .gt 9, 3) := by decide +kernel
theorem dX3_workStep_9 : decode cX3_workStep 9 = .ok (.aload_n 0, 1) := by decide +kernel
theorem dX3_workStep_10 : decode cX3_workStep 10 = .ok (.aload_n 1, 1) := by decide +kernel
theorem dX3_workStep_11 : decode cX3_workStep 11 = .ok (.invokevirtual 44, 3) := by decide +kernel
theorem dX3_workStep_14 : decode cX3_workStep 14 = .ok (.ireturn, 1) := by decide +kernel
theorem dX3_workStep_15 : decode cX3_workStep 15 = .ok (.aload_n 1, 1) := by decide +kernel
theorem dX3_workStep_16 : decode cX3_workStep 16 = .ok (.getfield 38, 3) := by decide +kernel
theorem dX3_workStep_19 : decode cX3_workStep 19 = .ok (.bipush 7, 2) := by decide +kernel
theorem dX3_workStep_21 : decode cX3_workStep 21 = .ok (.if_icmp .ne 9, 3) := by decide +kernel
theorem dX3_workStep_24 : decode cX3_workStep 24 = .ok (.aload_n 0, 1) := by decide +kernel
theorem dX3_workStep_25 : decode cX3_workStep 25 = .ok (.aload_n 1, 1) := by decide +kernel
theorem dX3_workStep_26 : decode cX3_workStep 26 = .ok (.invokevirtual 48, 3) := by decide +kernel
theorem dX3_workStep_29 : decode cX3_workStep 29 = .ok (.ireturn, 1) := by decide +kernel
theorem dX3_workStep_30 : decode cX3_workStep 30 = .ok (.aload_n 1, 1) := by decide +kernel
theorem dX3_workStep_31 : decode cX3_workStep 31 = .ok (.getfield 38, 3) := by decide +kernel
theorem dX3_workStep_34 : decode cX3_workStep 34 = .ok (.bipush 10, 2) := by decide +kernel
theorem dX3_workStep_36 : decode cX3_workStep 36 = .ok (.if_icmp .gt 9, 3) := by decide +kernel
theorem dX3_workStep_39 : decode cX3_workStep 39 = .ok (.aload_n 0, 1) := by decide +kernel
theorem dX3_workStep_40 : decode cX3_workStep 40 = .ok (.aload_n 1, 1) := by decide +kernel
theorem dX3_workStep_41 : decode cX3_workStep 41 = .ok (.invokevirtual 51, 3) := by decide +kernel
theorem dX3_workStep_44 : decode cX3_workStep 44 = .ok (.ireturn, 1) := by decide +kernel
theorem dX3_workStep_45 : decode cX3_workStep 45 = .ok (.aload_n 1, 1) := by decide +kernel
theorem dX3_workStep_46 : decode cX3_workStep 46 = .ok (.getfield 38, 3) := by decide +kernel
theorem dX3_workStep_49 : decode cX3_workStep 49 = .ok (.bipush 13, 2) := by decide +kernel
theorem dX3_workStep_51 : decode cX3_workStep 51 = .ok (.if_icmp .gt 9, 3) := by decide +kernel
theorem dX3_workStep_54 : decode cX3_workStep 54 = .ok (.aload_n 0, 1) := by decide +kernel
theorem dX3_workStep_55 : decode cX3_workStep 55 = .ok (.aload_n 1, 1) := by decide +kernel
theorem dX3_workStep_56 : decode cX3_workStep 56 = .ok (.invokevirtual 54, 3) := by decide +kernel
theorem dX3_workStep_59 : decode cX3_workStep 59 = .ok (.ireturn, 1) := by decide +kernel
theorem dX3_workStep_60 : decode cX3_workStep 60 = .ok (.aload_n 1, 1) := by decide +kernel
theorem dX3_workStep_61 : decode cX3_workStep 61 = .ok (.getfield 38, 3) := by decide +kernel
theorem dX3_workStep_64 : decode cX3_workStep 64 = .ok (.bipush 18, 2) := by decide +kernel
theorem dX3_workStep_66 : decode cX3_workStep 66 = .ok (.if_icmp .gt 9, 3) := by decide +kernel
theorem dX3_workStep_69 : decode cX3_workStep 69 = .ok (.aload_n 0, 1) := by decide +kernel
theorem dX3_workStep_70 : decode cX3_workStep 70 = .ok (.aload_n 1, 1) := by decide +kernel
theorem dX3_workStep_71 : decode cX3_workStep 71 = .ok (.invokevirtual 57, 3) := by decide +kernel
theorem dX3_workStep_74 : decode cX3_workStep 74 = .ok (.ireturn, 1) := by decide +kernel
theorem dX3_workStep_75 : decode cX3_workStep 75 = .ok (.aload_n 0, 1) := by decide +kernel
theorem dX3_workStep_76 : decode cX3_workStep 76 = .ok (.aload_n 1, 1) := by decide +kernel
theorem dX3_workStep_77 : decode cX3_workStep 77 = .ok (.invokevirtual 60, 3) := by decide +kernel
theorem dX3_workStep_80 : decode cX3_workStep 80 = .ok (.ireturn, 1) := by decide +kernel
theorem dX3_reckon_0 : decode cX3_reckon 0 = .ok (.aload_n 0, 1) := by decide +kernel
theorem dX3_reckon_1 : decode cX3_reckon 1 = .ok (.aload_n 1, 1) := by decide +kernel
theorem dX3_reckon_2 : decode cX3_reckon 2 = .ok (.getfield 63, 3) := by decide +kernel
theorem dX3_reckon_5 : decode cX3_reckon 5 = .ok (.invokevirtual 34, 3) := by decide +kernel
theorem dX3_reckon_8 : decode cX3_reckon 8 = .ok (.lstore_n 2, 1) := by decide +kernel
theorem dX3_reckon_9 : decode cX3_reckon 9 = .ok (.aload_n 0, 1) := by decide +kernel
theorem dX3_reckon_10 : decode cX3_reckon 10 = .ok (.aload_n 1, 1) := by decide +kernel
theorem dX3_reckon_11 : decode cX3_reckon 11 = .ok (.getfield 66, 3) := by decide +kernel
theorem dX3_reckon_14 : decode cX3_reckon 14 = .ok (.invokevirtual 34, 3) := by decide +kernel
theorem dX3_reckon_17 : decode cX3_reckon 17 = .ok (.lstore 4, 2) := by decide +kernel
theorem dX3_reckon_19 : decode cX3_reckon 19 = .ok (.lload 4, 2) := by decide +kernel
theorem dX3_reckon_21 : decode cX3_reckon 21 = .ok (.lconst 0, 1) := by decide +kernel
theorem dX3_reckon_22 : decode cX3_reckon 22 = .ok (.lcmp, 1) := by decide +kernel
theorem dX3_reckon_23 : decode cX3_reckon 23 = .ok (.ifCond .ne 13, 3) := by decide +kernel
theorem dX3_reckon_26 : decode cX3_reckon 26 = .ok (.aload_n 1, 1) := by decide +kernel
theorem dX3_reckon_27 : decode cX3_reckon 27 = .ok (.getfield 38, 3) := by decide +kernel
theorem dX3_reckon_30 : decode cX3_reckon 30 = .ok (.iconst 5, 1) := by decide +kernel
theorem dX3_reckon_31 : decode cX3_reckon 31 = .ok (.if_icmp .lt 5, 3) := by decide +kernel
theorem dX3_reckon_34 : decode cX3_reckon 34 = .ok (.iconst 4, 1) := by decide +kernel
theorem dX3_reckon_35 : decode cX3_reckon 35 = .ok (.ireturn, 1) := by decide +kernel
theorem dX3_reckon_36 : decode cX3_reckon 36 = .ok (.aload_n 0, 1) := by decide +kernel
theorem dX3_reckon_37 : decode cX3_reckon 37 = .ok (.aload_n 1, 1) := by decide +kernel
theorem dX3_reckon_38 : decode cX3_reckon 38 = .ok (.getfield 69, 3) := by decide +kernel
theorem dX3_reckon_41 : decode cX3_reckon 41 = .ok (.aload_n 1, 1) := by decide +kernel
theorem dX3_reckon_42 : decode cX3_reckon 42 = .ok (.lload_n 2, 1) := by decide +kernel
theorem dX3_reckon_43 : decode cX3_reckon 43 = .ok (.lload 4, 2) := by decide +kernel
theorem dX3_reckon_45 : decode cX3_reckon 45 = .ok (.invokestatic 72, 3) := by decide +kernel
theorem dX3_reckon_48 : decode cX3_reckon 48 = .ok (.invokevirtual 76, 3) := by decide +kernel
theorem dX3_reckon_51 : decode cX3_reckon 51 = .ok (.iconst (-1), 1) := by decide +kernel
theorem dX3_reckon_52 : decode cX3_reckon 52 = .ok (.ireturn, 1) := by decide +kernel
theorem dX3_reckoned_0 : decode cX3_reckoned 0 = .ok (.aload_n 0, 1) := by decide +kernel
theorem dX3_reckoned_1 : decode cX3_reckoned 1 = .ok (.getfield 38, 3) := by decide +kernel
theorem dX3_reckoned_4 : decode cX3_reckoned 4 = .ok (.tableswitch 68 1 5 #[36, 42, 46, 50, 54], 36) := by decide +kernel
theorem dX3_reckoned_40 : decode cX3_reckoned 40 = .ok (.aload_n 0, 1) := by decide +kernel
theorem dX3_reckoned_41 : decode cX3_reckoned 41 = .ok (.getfield 63, 3) := by decide +kernel
theorem dX3_reckoned_44 : decode cX3_reckoned 44 = .ok (.i2l, 1) := by decide +kernel
theorem dX3_reckoned_45 : decode cX3_reckoned 45 = .ok (.lreturn, 1) := by decide +kernel
theorem dX3_reckoned_46 : decode cX3_reckoned 46 = .ok (.lload_n 1, 1) := by decide +kernel
theorem dX3_reckoned_47 : decode cX3_reckoned 47 = .ok (.lload_n 3, 1) := by decide +kernel
theorem dX3_reckoned_48 : decode cX3_reckoned 48 = .ok (.ladd, 1) := by decide +kernel
theorem dX3_reckoned_49 : decode cX3_reckoned 49 = .ok (.lreturn, 1) := by decide +kernel
theorem dX3_reckoned_50 : decode cX3_reckoned 50 = .ok (.lload_n 1, 1) := by decide +kernel
theorem dX3_reckoned_51 : decode cX3_reckoned 51 = .ok (.lload_n 3, 1) := by decide +kernel
theorem dX3_reckoned_52 : decode cX3_reckoned 52 = .ok (.lsub, 1) := by decide +kernel
theorem dX3_reckoned_53 : decode cX3_reckoned 53 = .ok (.lreturn, 1) := by decide +kernel
theorem dX3_reckoned_54 : decode cX3_reckoned 54 = .ok (.lload_n 1, 1) := by decide +kernel
theorem dX3_reckoned_55 : decode cX3_reckoned 55 = .ok (.lload_n 3, 1) := by decide +kernel
theorem dX3_reckoned_56 : decode cX3_reckoned 56 = .ok (.lmul, 1) := by decide +kernel
theorem dX3_reckoned_57 : decode cX3_reckoned 57 = .ok (.lreturn, 1) := by decide +kernel
theorem dX3_reckoned_58 : decode cX3_reckoned 58 = .ok (.lload_n 3, 1) := by decide +kernel
theorem dX3_reckoned_59 : decode cX3_reckoned 59 = .ok (.lconst 0, 1) := by decide +kernel
theorem dX3_reckoned_60 : decode cX3_reckoned 60 = .ok (.lcmp, 1) := by decide +kernel
theorem dX3_reckoned_61 : decode cX3_reckoned 61 = .ok (.ifCond .ne 7, 3) := by decide +kernel
theorem dX3_reckoned_64 : decode cX3_reckoned 64 = .ok (.lconst 0, 1) := by decide +kernel
theorem dX3_reckoned_65 : decode cX3_reckoned 65 = .ok (.goto 6, 3) := by decide +kernel
theorem dX3_reckoned_68 : decode cX3_reckoned 68 = .ok (.lload_n 1, 1) := by decide +kernel
theorem dX3_reckoned_69 : decode cX3_reckoned 69 = .ok (.lload_n 3, 1) := by decide +kernel
theorem dX3_reckoned_70 : decode cX3_reckoned 70 = .ok (.ldiv, 1) := by decide +kernel
theorem dX3_reckoned_71 : decode cX3_reckoned 71 = .ok (.lreturn, 1) := by decide +kernel
theorem dX3_reckoned_72 : decode cX3_reckoned 72 = .ok (.lload_n 3, 1) := by decide +kernel
theorem dX3_reckoned_73 : decode cX3_reckoned 73 = .ok (.lconst 0, 1) := by decide +kernel
theorem dX3_reckoned_74 : decode cX3_reckoned 74 = .ok (.lcmp, 1) := by decide +kernel
theorem dX3_reckoned_75 : decode cX3_reckoned 75 = .ok (.ifCond .ne 7, 3) := by decide +kernel
theorem dX3_reckoned_78 : decode cX3_reckoned 78 = .ok (.lconst 0, 1) := by decide +kernel
theorem dX3_reckoned_79 : decode cX3_reckoned 79 = .ok (.goto 6, 3) := by decide +kernel
theorem dX3_reckoned_82 : decode cX3_reckoned 82 = .ok (.lload_n 1, 1) := by decide +kernel
theorem dX3_reckoned_83 : decode cX3_reckoned 83 = .ok (.lload_n 3, 1) := by decide +kernel
theorem dX3_reckoned_84 : decode cX3_reckoned 84 = .ok (.lrem, 1) := by decide +kernel
theorem dX3_reckoned_85 : decode cX3_reckoned 85 = .ok (.lreturn, 1) := by decide +kernel
theorem dX3_workRow_0 : decode cX3_workRow 0 = .ok (.aload_n 1, 1) := by decide +kernel
theorem dX3_workRow_1 : decode cX3_workRow 1 = .ok (.getfield 69, 3) := by decide +kernel
theorem dX3_workRow_4 : decode cX3_workRow 4 = .ok (.iconst 3, 1) := by decide +kernel
theorem dX3_workRow_5 : decode cX3_workRow 5 = .ok (.ishr, 1) := by decide +kernel
theorem dX3_workRow_6 : decode cX3_workRow 6 = .ok (.bipush 7, 2) := by decide +kernel
theorem dX3_workRow_8 : decode cX3_workRow 8 = .ok (.iand, 1) := by decide +kernel
theorem dX3_workRow_9 : decode cX3_workRow 9 = .ok (.istore_n 2, 1) := by decide +kernel
theorem dX3_workRow_10 : decode cX3_workRow 10 = .ok (.aload_n 0, 1) := by decide +kernel
theorem dX3_workRow_11 : decode cX3_workRow 11 = .ok (.iload_n 2, 1) := by decide +kernel
theorem dX3_workRow_12 : decode cX3_workRow 12 = .ok (.aload_n 1, 1) := by decide +kernel
theorem dX3_workRow_13 : decode cX3_workRow 13 = .ok (.getfield 69, 3) := by decide +kernel
theorem dX3_workRow_16 : decode cX3_workRow 16 = .ok (.invokevirtual 80, 3) := by decide +kernel
theorem dX3_workRow_19 : decode cX3_workRow 19 = .ok (.astore_n 3, 1) := by decide +kernel
theorem dX3_workRow_20 : decode cX3_workRow 20 = .ok (.aload_n 3, 1) := by decide +kernel
theorem dX3_workRow_21 : decode cX3_workRow 21 = .ok (.ifnonnull 6, 3) := by decide +kernel
theorem dX3_workRow_24 : decode cX3_workRow 24 = .ok (.bipush 6, 2) := by decide +kernel
theorem dX3_workRow_26 : decode cX3_workRow 26 = .ok (.ireturn, 1) := by decide +kernel
theorem dX3_workRow_27 : decode cX3_workRow 27 = .ok (.aload_n 1, 1) := by decide +kernel
theorem dX3_workRow_28 : decode cX3_workRow 28 = .ok (.getfield 38, 3) := by decide +kernel
theorem dX3_workRow_31 : decode cX3_workRow 31 = .ok (.bipush 10, 2) := by decide +kernel
theorem dX3_workRow_33 : decode cX3_workRow 33 = .ok (.if_icmp .ne 18, 3) := by decide +kernel
theorem dX3_workRow_36 : decode cX3_workRow 36 = .ok (.aload_n 0, 1) := by decide +kernel
theorem dX3_workRow_37 : decode cX3_workRow 37 = .ok (.aload_n 1, 1) := by decide +kernel
theorem dX3_workRow_38 : decode cX3_workRow 38 = .ok (.getfield 63, 3) := by decide +kernel
theorem dX3_workRow_41 : decode cX3_workRow 41 = .ok (.aload_n 3, 1) := by decide +kernel
theorem dX3_workRow_42 : decode cX3_workRow 42 = .ok (.getfield 84, 3) := by decide +kernel
theorem dX3_workRow_45 : decode cX3_workRow 45 = .ok (.i2l, 1) := by decide +kernel
theorem dX3_workRow_46 : decode cX3_workRow 46 = .ok (.invokevirtual 76, 3) := by decide +kernel
theorem dX3_workRow_49 : decode cX3_workRow 49 = .ok (.iconst (-1), 1) := by decide +kernel
theorem dX3_workRow_50 : decode cX3_workRow 50 = .ok (.ireturn, 1) := by decide +kernel
theorem dX3_workRow_51 : decode cX3_workRow 51 = .ok (.aload_n 0, 1) := by decide +kernel
theorem dX3_workRow_52 : decode cX3_workRow 52 = .ok (.aload_n 1, 1) := by decide +kernel
theorem dX3_workRow_53 : decode cX3_workRow 53 = .ok (.getfield 63, 3) := by decide +kernel
theorem dX3_workRow_56 : decode cX3_workRow 56 = .ok (.invokevirtual 87, 3) := by decide +kernel
theorem dX3_workRow_59 : decode cX3_workRow 59 = .ok (.istore 4, 2) := by decide +kernel
theorem dX3_workRow_61 : decode cX3_workRow 61 = .ok (.aload_n 3, 1) := by decide +kernel
theorem dX3_workRow_62 : decode cX3_workRow 62 = .ok (.iload 4, 2) := by decide +kernel
theorem dX3_workRow_64 : decode cX3_workRow 64 = .ok (.invokevirtual 91, 3) := by decide +kernel
theorem dX3_workRow_67 : decode cX3_workRow 67 = .ok (.ifCond .ne 5, 3) := by decide +kernel
theorem dX3_workRow_70 : decode cX3_workRow 70 = .ok (.iconst 5, 1) := by decide +kernel
theorem dX3_workRow_71 : decode cX3_workRow 71 = .ok (.ireturn, 1) := by decide +kernel
theorem dX3_workRow_72 : decode cX3_workRow 72 = .ok (.iload_n 2, 1) := by decide +kernel
theorem dX3_workRow_73 : decode cX3_workRow 73 = .ok (.bipush 7, 2) := by decide +kernel
theorem dX3_workRow_75 : decode cX3_workRow 75 = .ok (.if_icmp .ne 38, 3) := by decide +kernel
theorem dX3_workRow_78 : decode cX3_workRow 78 = .ok (.aload_n 1, 1) := by decide +kernel
theorem dX3_workRow_79 : decode cX3_workRow 79 = .ok (.getfield 38, 3) := by decide +kernel
theorem dX3_workRow_82 : decode cX3_workRow 82 = .ok (.bipush 8, 2) := by decide +kernel
theorem dX3_workRow_84 : decode cX3_workRow 84 = .ok (.if_icmp .ne 17, 3) := by decide +kernel
theorem dX3_workRow_87 : decode cX3_workRow 87 = .ok (.aload_n 0, 1) := by decide +kernel
theorem dX3_workRow_88 : decode cX3_workRow 88 = .ok (.aload_n 3, 1) := by decide +kernel
theorem dX3_workRow_89 : decode cX3_workRow 89 = .ok (.iload 4, 2) := by decide +kernel
theorem dX3_workRow_91 : decode cX3_workRow 91 = .ok (.aload_n 1, 1) := by decide +kernel
theorem dX3_workRow_92 : decode cX3_workRow 92 = .ok (.getfield 66, 3) := by decide +kernel
theorem dX3_workRow_95 : decode cX3_workRow 95 = .ok (.invokevirtual 95, 3) := by decide +kernel
theorem dX3_workRow_98 : decode cX3_workRow 98 = .ok (.goto 14, 3) := by decide +kernel
theorem dX3_workRow_101 : decode cX3_workRow 101 = .ok (.aload_n 0, 1) := by decide +kernel
theorem dX3_workRow_102 : decode cX3_workRow 102 = .ok (.aload_n 3, 1) := by decide +kernel
theorem dX3_workRow_103 : decode cX3_workRow 103 = .ok (.iload 4, 2) := by decide +kernel
theorem dX3_workRow_105 : decode cX3_workRow 105 = .ok (.aload_n 1, 1) := by decide +kernel
theorem dX3_workRow_106 : decode cX3_workRow 106 = .ok (.getfield 66, 3) := by decide +kernel
theorem dX3_workRow_109 : decode cX3_workRow 109 = .ok (.invokevirtual 99, 3) := by decide +kernel
theorem dX3_workRow_112 : decode cX3_workRow 112 = .ok (.ireturn, 1) := by decide +kernel
theorem dX3_workRow_113 : decode cX3_workRow 113 = .ok (.aload_n 1, 1) := by decide +kernel
theorem dX3_workRow_114 : decode cX3_workRow 114 = .ok (.getfield 38, 3) := by decide +kernel
theorem dX3_workRow_117 : decode cX3_workRow 117 = .ok (.bipush 8, 2) := by decide +kernel
theorem dX3_workRow_119 : decode cX3_workRow 119 = .ok (.if_icmp .ne 20, 3) := by decide +kernel
theorem dX3_workRow_122 : decode cX3_workRow 122 = .ok (.aload_n 0, 1) := by decide +kernel
theorem dX3_workRow_123 : decode cX3_workRow 123 = .ok (.aload_n 1, 1) := by decide +kernel
theorem dX3_workRow_124 : decode cX3_workRow 124 = .ok (.getfield 66, 3) := by decide +kernel
theorem dX3_workRow_127 : decode cX3_workRow 127 = .ok (.aload_n 3, 1) := by decide +kernel
theorem dX3_workRow_128 : decode cX3_workRow 128 = .ok (.iload 4, 2) := by decide +kernel
theorem dX3_workRow_130 : decode cX3_workRow 130 = .ok (.invokevirtual 102, 3) := by decide +kernel
theorem dX3_workRow_133 : decode cX3_workRow 133 = .ok (.invokevirtual 76, 3) := by decide +kernel
theorem dX3_workRow_136 : decode cX3_workRow 136 = .ok (.goto 17, 3) := by decide +kernel
theorem dX3_workRow_139 : decode cX3_workRow 139 = .ok (.aload_n 3, 1) := by decide +kernel
theorem dX3_workRow_140 : decode cX3_workRow 140 = .ok (.iload 4, 2) := by decide +kernel
theorem dX3_workRow_142 : decode cX3_workRow 142 = .ok (.aload_n 0, 1) := by decide +kernel
theorem dX3_workRow_143 : decode cX3_workRow 143 = .ok (.aload_n 1, 1) := by decide +kernel
theorem dX3_workRow_144 : decode cX3_workRow 144 = .ok (.getfield 66, 3) := by decide +kernel
theorem dX3_workRow_147 : decode cX3_workRow 147 = .ok (.invokevirtual 34, 3) := by decide +kernel
theorem dX3_workRow_150 : decode cX3_workRow 150 = .ok (.invokevirtual 105, 3) := by decide +kernel
theorem dX3_workRow_153 : decode cX3_workRow 153 = .ok (.iconst (-1), 1) := by decide +kernel
theorem dX3_workRow_154 : decode cX3_workRow 154 = .ok (.ireturn, 1) := by decide +kernel
theorem dX3_makeRow_0 : decode cX3_makeRow 0 = .ok (.aload_n 1, 1) := by decide +kernel
theorem dX3_makeRow_1 : decode cX3_makeRow 1 = .ok (.getfield 69, 3) := by decide +kernel
theorem dX3_makeRow_4 : decode cX3_makeRow 4 = .ok (.iconst 3, 1) := by decide +kernel
theorem dX3_makeRow_5 : decode cX3_makeRow 5 = .ok (.ishr, 1) := by decide +kernel
theorem dX3_makeRow_6 : decode cX3_makeRow 6 = .ok (.bipush 7, 2) := by decide +kernel
theorem dX3_makeRow_8 : decode cX3_makeRow 8 = .ok (.iand, 1) := by decide +kernel
theorem dX3_makeRow_9 : decode cX3_makeRow 9 = .ok (.istore_n 2, 1) := by decide +kernel
theorem dX3_makeRow_10 : decode cX3_makeRow 10 = .ok (.aload_n 0, 1) := by decide +kernel
theorem dX3_makeRow_11 : decode cX3_makeRow 11 = .ok (.aload_n 1, 1) := by decide +kernel
theorem dX3_makeRow_12 : decode cX3_makeRow 12 = .ok (.getfield 63, 3) := by decide +kernel
theorem dX3_makeRow_15 : decode cX3_makeRow 15 = .ok (.invokevirtual 87, 3) := by decide +kernel
theorem dX3_makeRow_18 : decode cX3_makeRow 18 = .ok (.istore_n 3, 1) := by decide +kernel
theorem dX3_makeRow_19 : decode cX3_makeRow 19 = .ok (.iload_n 3, 1) := by decide +kernel
theorem dX3_makeRow_20 : decode cX3_makeRow 20 = .ok (.ifCond .ge 6, 3) := by decide +kernel
theorem dX3_makeRow_23 : decode cX3_makeRow 23 = .ok (.bipush 7, 2) := by decide +kernel
theorem dX3_makeRow_25 : decode cX3_makeRow 25 = .ok (.ireturn, 1) := by decide +kernel
theorem dX3_makeRow_26 : decode cX3_makeRow 26 = .ok (.aload_n 0, 1) := by decide +kernel
theorem dX3_makeRow_27 : decode cX3_makeRow 27 = .ok (.iload_n 2, 1) := by decide +kernel
theorem dX3_makeRow_28 : decode cX3_makeRow 28 = .ok (.aload_n 1, 1) := by decide +kernel
theorem dX3_makeRow_29 : decode cX3_makeRow 29 = .ok (.getfield 69, 3) := by decide +kernel
theorem dX3_makeRow_32 : decode cX3_makeRow 32 = .ok (.invokevirtual 80, 3) := by decide +kernel
theorem dX3_makeRow_35 : decode cX3_makeRow 35 = .ok (.astore 4, 2) := by decide +kernel
theorem dX3_makeRow_37 : decode cX3_makeRow 37 = .ok (.aload 4, 2) := by decide +kernel
theorem dX3_makeRow_39 : decode cX3_makeRow 39 = .ok (.ifnonnull 31, 3) := by decide +kernel
theorem dX3_makeRow_42 : decode cX3_makeRow 42 = .ok (.new 21, 3) := by decide +kernel
theorem dX3_makeRow_45 : decode cX3_makeRow 45 = .ok (.dup, 1) := by decide +kernel
theorem dX3_makeRow_46 : decode cX3_makeRow 46 = .ok (.iload_n 2, 1) := by decide +kernel
theorem dX3_makeRow_47 : decode cX3_makeRow 47 = .ok (.invokespecial 108, 3) := by decide +kernel
theorem dX3_makeRow_50 : decode cX3_makeRow 50 = .ok (.astore 4, 2) := by decide +kernel
theorem dX3_makeRow_52 : decode cX3_makeRow 52 = .ok (.aload_n 0, 1) := by decide +kernel
theorem dX3_makeRow_53 : decode cX3_makeRow 53 = .ok (.getfield 23, 3) := by decide +kernel
theorem dX3_makeRow_56 : decode cX3_makeRow 56 = .ok (.iload_n 2, 1) := by decide +kernel
theorem dX3_makeRow_57 : decode cX3_makeRow 57 = .ok (.iconst 3, 1) := by decide +kernel
theorem dX3_makeRow_58 : decode cX3_makeRow 58 = .ok (.ishl, 1) := by decide +kernel
theorem dX3_makeRow_59 : decode cX3_makeRow 59 = .ok (.aload_n 1, 1) := by decide +kernel
theorem dX3_makeRow_60 : decode cX3_makeRow 60 = .ok (.getfield 69, 3) := by decide +kernel
theorem dX3_makeRow_63 : decode cX3_makeRow 63 = .ok (.bipush 7, 2) := by decide +kernel
theorem dX3_makeRow_65 : decode cX3_makeRow 65 = .ok (.iand, 1) := by decide +kernel
theorem dX3_makeRow_66 : decode cX3_makeRow 66 = .ok (.ior, 1) := by decide +kernel
theorem dX3_makeRow_67 : decode cX3_makeRow 67 = .ok (.aload 4, 2) := by decide +kernel
theorem dX3_makeRow_69 : decode cX3_makeRow 69 = .ok (.aastore, 1) := by decide +kernel
theorem dX3_makeRow_70 : decode cX3_makeRow 70 = .ok (.aload 4, 2) := by decide +kernel
theorem dX3_makeRow_72 : decode cX3_makeRow 72 = .ok (.iload_n 3, 1) := by decide +kernel
theorem dX3_makeRow_73 : decode cX3_makeRow 73 = .ok (.bipush 63, 2) := by decide +kernel
theorem dX3_makeRow_75 : decode cX3_makeRow 75 = .ok (.iand, 1) := by decide +kernel
theorem dX3_makeRow_76 : decode cX3_makeRow 76 = .ok (.iload_n 2, 1) := by decide +kernel
theorem dX3_makeRow_77 : decode cX3_makeRow 77 = .ok (.bipush 7, 2) := by decide +kernel
theorem dX3_makeRow_79 : decode cX3_makeRow 79 = .ok (.if_icmp .ne 17, 3) := by decide +kernel
theorem dX3_makeRow_82 : decode cX3_makeRow 82 = .ok (.aload_n 1, 1) := by decide +kernel
theorem dX3_makeRow_83 : decode cX3_makeRow 83 = .ok (.getfield 66, 3) := by decide +kernel
theorem dX3_makeRow_86 : decode cX3_makeRow 86 = .ok (.iconst 1, 1) := by decide +kernel
theorem dX3_makeRow_87 : decode cX3_makeRow 87 = .ok (.iand, 1) := by decide +kernel
theorem dX3_makeRow_88 : decode cX3_makeRow 88 = .ok (.iconst 1, 1) := by decide +kernel
theorem dX3_makeRow_89 : decode cX3_makeRow 89 = .ok (.if_icmp .ne 7, 3) := by decide +kernel
theorem dX3_makeRow_92 : decode cX3_makeRow 92 = .ok (.iconst 1, 1) := by decide +kernel
theorem dX3_makeRow_93 : decode cX3_makeRow 93 = .ok (.goto 4, 3) := by decide +kernel
theorem dX3_makeRow_96 : decode cX3_makeRow 96 = .ok (.iconst 0, 1) := by decide +kernel
theorem dX3_makeRow_97 : decode cX3_makeRow 97 = .ok (.invokevirtual 111, 3) := by decide +kernel
theorem dX3_makeRow_100 : decode cX3_makeRow 100 = .ok (.iconst (-1), 1) := by decide +kernel
theorem dX3_makeRow_101 : decode cX3_makeRow 101 = .ok (.ireturn, 1) := by decide +kernel
theorem dX3_takeThing_0 : decode cX3_takeThing 0 = .ok (.aload_n 0, 1) := by decide +kernel
theorem dX3_takeThing_1 : decode cX3_takeThing 1 = .ok (.getfield 17, 3) := by decide +kernel
theorem dX3_takeThing_4 : decode cX3_takeThing 4 = .ok (.iload_n 3, 1) := by decide +kernel
theorem dX3_takeThing_5 : decode cX3_takeThing 5 = .ok (.bipush 7, 2) := by decide +kernel
theorem dX3_takeThing_7 : decode cX3_takeThing 7 = .ok (.iand, 1) := by decide +kernel
theorem dX3_takeThing_8 : decode cX3_takeThing 8 = .ok (.aload_n 1, 1) := by decide +kernel
theorem dX3_takeThing_9 : decode cX3_takeThing 9 = .ok (.iload_n 2, 1) := by decide +kernel
theorem dX3_takeThing_10 : decode cX3_takeThing 10 = .ok (.invokevirtual 115, 3) := by decide +kernel
theorem dX3_takeThing_13 : decode cX3_takeThing 13 = .ok (.aastore, 1) := by decide +kernel
theorem dX3_takeThing_14 : decode cX3_takeThing 14 = .ok (.iconst (-1), 1) := by decide +kernel
theorem dX3_takeThing_15 : decode cX3_takeThing 15 = .ok (.ireturn, 1) := by decide +kernel
theorem dX3_putThing_0 : decode cX3_putThing 0 = .ok (.aload_n 0, 1) := by decide +kernel
theorem dX3_putThing_1 : decode cX3_putThing 1 = .ok (.iload_n 3, 1) := by decide +kernel
theorem dX3_putThing_2 : decode cX3_putThing 2 = .ok (.invokevirtual 119, 3) := by decide +kernel
theorem dX3_putThing_5 : decode cX3_putThing 5 = .ok (.astore 4, 2) := by decide +kernel
theorem dX3_putThing_7 : decode cX3_putThing 7 = .ok (.aload_n 1, 1) := by decide +kernel
theorem dX3_putThing_8 : decode cX3_putThing 8 = .ok (.getfield 122, 3) := by decide +kernel
theorem dX3_putThing_11 : decode cX3_putThing 11 = .ok (.ifCond .eq 19, 3) := by decide +kernel
theorem dX3_putThing_14 : decode cX3_putThing 14 = .ok (.aload 4, 2) := by decide +kernel
theorem dX3_putThing_16 : decode cX3_putThing 16 = .ok (.ifnull 14, 3) := by decide +kernel
theorem dX3_putThing_19 : decode cX3_putThing 19 = .ok (.aload 4, 2) := by decide +kernel
theorem dX3_putThing_21 : decode cX3_putThing 21 = .ok (.getfield 126, 3) := by decide +kernel
theorem dX3_putThing_24 : decode cX3_putThing 24 = .ok (.ifCond .ne 6, 3) := by decide +kernel
theorem dX3_putThing_27 : decode cX3_putThing 27 = .ok (.bipush 9, 2) := by decide +kernel
theorem dX3_putThing_29 : decode cX3_putThing 29 = .ok (.ireturn, 1) := by decide +kernel
theorem dX3_putThing_30 : decode cX3_putThing 30 = .ok (.aload_n 1, 1) := by decide +kernel
theorem dX3_putThing_31 : decode cX3_putThing 31 = .ok (.iload_n 2, 1) := by decide +kernel
theorem dX3_putThing_32 : decode cX3_putThing 32 = .ok (.aload 4, 2) := by decide +kernel
theorem dX3_putThing_34 : decode cX3_putThing 34 = .ok (.invokevirtual 129, 3) := by decide +kernel
theorem dX3_putThing_37 : decode cX3_putThing 37 = .ok (.iconst (-1), 1) := by decide +kernel
theorem dX3_putThing_38 : decode cX3_putThing 38 = .ok (.ireturn, 1) := by decide +kernel
theorem dX3_workGrid_0 : decode cX3_workGrid 0 = .ok (.aload_n 0, 1) := by decide +kernel
theorem dX3_workGrid_1 : decode cX3_workGrid 1 = .ok (.aload_n 1, 1) := by decide +kernel
theorem dX3_workGrid_2 : decode cX3_workGrid 2 = .ok (.getfield 69, 3) := by decide +kernel
theorem dX3_workGrid_5 : decode cX3_workGrid 5 = .ok (.invokevirtual 87, 3) := by decide +kernel
theorem dX3_workGrid_8 : decode cX3_workGrid 8 = .ok (.istore_n 2, 1) := by decide +kernel
theorem dX3_workGrid_9 : decode cX3_workGrid 9 = .ok (.aload_n 0, 1) := by decide +kernel
theorem dX3_workGrid_10 : decode cX3_workGrid 10 = .ok (.aload_n 1, 1) := by decide +kernel
theorem dX3_workGrid_11 : decode cX3_workGrid 11 = .ok (.getfield 63, 3) := by decide +kernel
theorem dX3_workGrid_14 : decode cX3_workGrid 14 = .ok (.invokevirtual 87, 3) := by decide +kernel
theorem dX3_workGrid_17 : decode cX3_workGrid 17 = .ok (.istore_n 3, 1) := by decide +kernel
theorem dX3_workGrid_18 : decode cX3_workGrid 18 = .ok (.aload_n 1, 1) := by decide +kernel
theorem dX3_workGrid_19 : decode cX3_workGrid 19 = .ok (.getfield 38, 3) := by decide +kernel
theorem dX3_workGrid_22 : decode cX3_workGrid 22 = .ok (.bipush 11, 2) := by decide +kernel
theorem dX3_workGrid_24 : decode cX3_workGrid 24 = .ok (.if_icmp .ne 31, 3) := by decide +kernel
theorem dX3_workGrid_27 : decode cX3_workGrid 27 = .ok (.iload_n 2, 1) := by decide +kernel
theorem dX3_workGrid_28 : decode cX3_workGrid 28 = .ok (.ifCond .lt 7, 3) := by decide +kernel
theorem dX3_workGrid_31 : decode cX3_workGrid 31 = .ok (.iload_n 3, 1) := by decide +kernel
theorem dX3_workGrid_32 : decode cX3_workGrid 32 = .ok (.ifCond .ge 6, 3) := by decide +kernel
theorem dX3_workGrid_35 : decode cX3_workGrid 35 = .ok (.bipush 7, 2) := by decide +kernel
theorem dX3_workGrid_37 : decode cX3_workGrid 37 = .ok (.ireturn, 1) := by decide +kernel
theorem dX3_workGrid_38 : decode cX3_workGrid 38 = .ok (.aload_n 0, 1) := by decide +kernel
theorem dX3_workGrid_39 : decode cX3_workGrid 39 = .ok (.getfield 30, 3) := by decide +kernel
theorem dX3_workGrid_42 : decode cX3_workGrid 42 = .ok (.iload_n 2, 1) := by decide +kernel
theorem dX3_workGrid_43 : decode cX3_workGrid 43 = .ok (.bipush 7, 2) := by decide +kernel
theorem dX3_workGrid_45 : decode cX3_workGrid 45 = .ok (.iand, 1) := by decide +kernel
theorem dX3_workGrid_46 : decode cX3_workGrid 46 = .ok (.iload_n 3, 1) := by decide +kernel
theorem dX3_workGrid_47 : decode cX3_workGrid 47 = .ok (.bipush 7, 2) := by decide +kernel
theorem dX3_workGrid_49 : decode cX3_workGrid 49 = .ok (.iand, 1) := by decide +kernel
theorem dX3_workGrid_50 : decode cX3_workGrid 50 = .ok (.invokevirtual 132, 3) := by decide +kernel
theorem dX3_workGrid_53 : decode cX3_workGrid 53 = .ok (.iconst (-1), 1) := by decide +kernel
theorem dX3_workGrid_54 : decode cX3_workGrid 54 = .ok (.ireturn, 1) := by decide +kernel
theorem dX3_workGrid_55 : decode cX3_workGrid 55 = .ok (.aload_n 0, 1) := by decide +kernel
theorem dX3_workGrid_56 : decode cX3_workGrid 56 = .ok (.getfield 30, 3) := by decide +kernel
theorem dX3_workGrid_59 : decode cX3_workGrid 59 = .ok (.getfield 136, 3) := by decide +kernel
theorem dX3_workGrid_62 : decode cX3_workGrid 62 = .ok (.ifCond .ne 6, 3) := by decide +kernel
theorem dX3_workGrid_65 : decode cX3_workGrid 65 = .ok (.bipush 6, 2) := by decide +kernel
theorem dX3_workGrid_67 : decode cX3_workGrid 67 = .ok (.ireturn, 1) := by decide +kernel
theorem dX3_workGrid_68 : decode cX3_workGrid 68 = .ok (.aload_n 0, 1) := by decide +kernel
theorem dX3_workGrid_69 : decode cX3_workGrid 69 = .ok (.getfield 30, 3) := by decide +kernel
theorem dX3_workGrid_72 : decode cX3_workGrid 72 = .ok (.iload_n 2, 1) := by decide +kernel
theorem dX3_workGrid_73 : decode cX3_workGrid 73 = .ok (.iload_n 3, 1) := by decide +kernel
theorem dX3_workGrid_74 : decode cX3_workGrid 74 = .ok (.invokevirtual 139, 3) := by decide +kernel
theorem dX3_workGrid_77 : decode cX3_workGrid 77 = .ok (.ifCond .ne 5, 3) := by decide +kernel
theorem dX3_workGrid_80 : decode cX3_workGrid 80 = .ok (.iconst 5, 1) := by decide +kernel
theorem dX3_workGrid_81 : decode cX3_workGrid 81 = .ok (.ireturn, 1) := by decide +kernel
theorem dX3_workGrid_82 : decode cX3_workGrid 82 = .ok (.aload_n 1, 1) := by decide +kernel
theorem dX3_workGrid_83 : decode cX3_workGrid 83 = .ok (.getfield 38, 3) := by decide +kernel
theorem dX3_workGrid_86 : decode cX3_workGrid 86 = .ok (.bipush 12, 2) := by decide +kernel
theorem dX3_workGrid_88 : decode cX3_workGrid 88 = .ok (.if_icmp .ne 24, 3) := by decide +kernel
theorem dX3_workGrid_91 : decode cX3_workGrid 91 = .ok (.aload_n 0, 1) := by decide +kernel
theorem dX3_workGrid_92 : decode cX3_workGrid 92 = .ok (.aload_n 1, 1) := by decide +kernel
theorem dX3_workGrid_93 : decode cX3_workGrid 93 = .ok (.getfield 66, 3) := by decide +kernel
theorem dX3_workGrid_96 : decode cX3_workGrid 96 = .ok (.aload_n 0, 1) := by decide +kernel
theorem dX3_workGrid_97 : decode cX3_workGrid 97 = .ok (.getfield 30, 3) := by decide +kernel
theorem dX3_workGrid_100 : decode cX3_workGrid 100 = .ok (.iload_n 2, 1) := by decide +kernel
theorem dX3_workGrid_101 : decode cX3_workGrid 101 = .ok (.iload_n 3, 1) := by decide +kernel
theorem dX3_workGrid_102 : decode cX3_workGrid 102 = .ok (.invokevirtual 142, 3) := by decide +kernel
theorem dX3_workGrid_105 : decode cX3_workGrid 105 = .ok (.i2l, 1) := by decide +kernel
theorem dX3_workGrid_106 : decode cX3_workGrid 106 = .ok (.invokevirtual 76, 3) := by decide +kernel
theorem dX3_workGrid_109 : decode cX3_workGrid 109 = .ok (.goto 20, 3) := by decide +kernel
theorem dX3_workGrid_112 : decode cX3_workGrid 112 = .ok (.aload_n 0, 1) := by decide +kernel
theorem dX3_workGrid_113 : decode cX3_workGrid 113 = .ok (.getfield 30, 3) := by decide +kernel
theorem dX3_workGrid_116 : decode cX3_workGrid 116 = .ok (.iload_n 2, 1) := by decide +kernel
theorem dX3_workGrid_117 : decode cX3_workGrid 117 = .ok (.iload_n 3, 1) := by decide +kernel
theorem dX3_workGrid_118 : decode cX3_workGrid 118 = .ok (.aload_n 0, 1) := by decide +kernel
theorem dX3_workGrid_119 : decode cX3_workGrid 119 = .ok (.aload_n 1, 1) := by decide +kernel
theorem dX3_workGrid_120 : decode cX3_workGrid 120 = .ok (.getfield 66, 3) := by decide +kernel
theorem dX3_workGrid_123 : decode cX3_workGrid 123 = .ok (.invokevirtual 87, 3) := by decide +kernel
theorem dX3_workGrid_126 : decode cX3_workGrid 126 = .ok (.invokevirtual 146, 3) := by decide +kernel
theorem dX3_workGrid_129 : decode cX3_workGrid 129 = .ok (.iconst (-1), 1) := by decide +kernel
theorem dX3_workGrid_130 : decode cX3_workGrid 130 = .ok (.ireturn, 1) := by decide +kernel
theorem dX3_workHand_0 : decode cX3_workHand 0 = .ok (.aload_n 0, 1) := by decide +kernel
theorem dX3_workHand_1 : decode cX3_workHand 1 = .ok (.aload_n 1, 1) := by decide +kernel
theorem dX3_workHand_2 : decode cX3_workHand 2 = .ok (.getfield 69, 3) := by decide +kernel
theorem dX3_workHand_5 : decode cX3_workHand 5 = .ok (.invokevirtual 119, 3) := by decide +kernel
theorem dX3_workHand_8 : decode cX3_workHand 8 = .ok (.astore_n 2, 1) := by decide +kernel
theorem dX3_workHand_9 : decode cX3_workHand 9 = .ok (.aload_n 1, 1) := by decide +kernel
theorem dX3_workHand_10 : decode cX3_workHand 10 = .ok (.getfield 38, 3) := by decide +kernel
theorem dX3_workHand_13 : decode cX3_workHand 13 = .ok (.tableswitch 116 14 18 #[35, 66, 116, 116, 81], 35) := by decide +kernel
theorem dX3_workHand_48 : decode cX3_workHand 48 = .ok (.aload_n 0, 1) := by decide +kernel
theorem dX3_workHand_49 : decode cX3_workHand 49 = .ok (.getfield 17, 3) := by decide +kernel
theorem dX3_workHand_52 : decode cX3_workHand 52 = .ok (.aload_n 1, 1) := by decide +kernel
theorem dX3_workHand_53 : decode cX3_workHand 53 = .ok (.getfield 69, 3) := by decide +kernel
theorem dX3_workHand_56 : decode cX3_workHand 56 = .ok (.bipush 7, 2) := by decide +kernel
theorem dX3_workHand_58 : decode cX3_workHand 58 = .ok (.iand, 1) := by decide +kernel
theorem dX3_workHand_59 : decode cX3_workHand 59 = .ok (.aload_n 1, 1) := by decide +kernel
theorem dX3_workHand_60 : decode cX3_workHand 60 = .ok (.getfield 63, 3) := by decide +kernel
theorem dX3_workHand_63 : decode cX3_workHand 63 = .ok (.iconst 3, 1) := by decide +kernel
theorem dX3_workHand_64 : decode cX3_workHand 64 = .ok (.iand, 1) := by decide +kernel
theorem dX3_workHand_65 : decode cX3_workHand 65 = .ok (.aload_n 0, 1) := by decide +kernel
theorem dX3_workHand_66 : decode cX3_workHand 66 = .ok (.aload_n 1, 1) := by decide +kernel
theorem dX3_workHand_67 : decode cX3_workHand 67 = .ok (.getfield 66, 3) := by decide +kernel
theorem dX3_workHand_70 : decode cX3_workHand 70 = .ok (.invokevirtual 34, 3) := by decide +kernel
theorem dX3_workHand_73 : decode cX3_workHand 73 = .ok (.invokestatic 150, 3) := by decide +kernel
theorem dX3_workHand_76 : decode cX3_workHand 76 = .ok (.aastore, 1) := by decide +kernel
theorem dX3_workHand_77 : decode cX3_workHand 77 = .ok (.iconst (-1), 1) := by decide +kernel
theorem dX3_workHand_78 : decode cX3_workHand 78 = .ok (.ireturn, 1) := by decide +kernel
theorem dX3_workHand_79 : decode cX3_workHand 79 = .ok (.aload_n 0, 1) := by decide +kernel
theorem dX3_workHand_80 : decode cX3_workHand 80 = .ok (.getfield 17, 3) := by decide +kernel
theorem dX3_workHand_83 : decode cX3_workHand 83 = .ok (.aload_n 1, 1) := by decide +kernel
theorem dX3_workHand_84 : decode cX3_workHand 84 = .ok (.getfield 63, 3) := by decide +kernel
theorem dX3_workHand_87 : decode cX3_workHand 87 = .ok (.bipush 7, 2) := by decide +kernel
theorem dX3_workHand_89 : decode cX3_workHand 89 = .ok (.iand, 1) := by decide +kernel
theorem dX3_workHand_90 : decode cX3_workHand 90 = .ok (.aload_n 2, 1) := by decide +kernel
theorem dX3_workHand_91 : decode cX3_workHand 91 = .ok (.aastore, 1) := by decide +kernel
theorem dX3_workHand_92 : decode cX3_workHand 92 = .ok (.iconst (-1), 1) := by decide +kernel
theorem dX3_workHand_93 : decode cX3_workHand 93 = .ok (.ireturn, 1) := by decide +kernel
theorem dX3_workHand_94 : decode cX3_workHand 94 = .ok (.aload_n 2, 1) := by decide +kernel
theorem dX3_workHand_95 : decode cX3_workHand 95 = .ok (.ifnull 19, 3) := by decide +kernel
theorem dX3_workHand_98 : decode cX3_workHand 98 = .ok (.aload_n 2, 1) := by decide +kernel
theorem dX3_workHand_99 : decode cX3_workHand 99 = .ok (.aload_n 1, 1) := by decide +kernel
theorem dX3_workHand_100 : decode cX3_workHand 100 = .ok (.getfield 63, 3) := by decide +kernel
theorem dX3_workHand_103 : decode cX3_workHand 103 = .ok (.iconst 3, 1) := by decide +kernel
theorem dX3_workHand_104 : decode cX3_workHand 104 = .ok (.iand, 1) := by decide +kernel
theorem dX3_workHand_105 : decode cX3_workHand 105 = .ok (.invokevirtual 154, 3) := by decide +kernel
theorem dX3_workHand_108 : decode cX3_workHand 108 = .ok (.ifCond .ne 6, 3) := by decide +kernel
theorem dX3_workHand_111 : decode cX3_workHand 111 = .ok (.bipush 8, 2) := by decide +kernel
theorem dX3_workHand_113 : decode cX3_workHand 113 = .ok (.ireturn, 1) := by decide +kernel
theorem dX3_workHand_114 : decode cX3_workHand 114 = .ok (.aload_n 0, 1) := by decide +kernel
theorem dX3_workHand_115 : decode cX3_workHand 115 = .ok (.getfield 17, 3) := by decide +kernel
theorem dX3_workHand_118 : decode cX3_workHand 118 = .ok (.aload_n 1, 1) := by decide +kernel
theorem dX3_workHand_119 : decode cX3_workHand 119 = .ok (.getfield 66, 3) := by decide +kernel
theorem dX3_workHand_122 : decode cX3_workHand 122 = .ok (.bipush 7, 2) := by decide +kernel
theorem dX3_workHand_124 : decode cX3_workHand 124 = .ok (.iand, 1) := by decide +kernel
theorem dX3_workHand_125 : decode cX3_workHand 125 = .ok (.aload_n 2, 1) := by decide +kernel
theorem dX3_workHand_126 : decode cX3_workHand 126 = .ok (.aastore, 1) := by decide +kernel
theorem dX3_workHand_127 : decode cX3_workHand 127 = .ok (.iconst (-1), 1) := by decide +kernel
theorem dX3_workHand_128 : decode cX3_workHand 128 = .ok (.ireturn, 1) := by decide +kernel
theorem dX3_workHand_129 : decode cX3_workHand 129 = .ok (.aload_n 0, 1) := by decide +kernel
theorem dX3_workHand_130 : decode cX3_workHand 130 = .ok (.aload_n 1, 1) := by decide +kernel
theorem dX3_workHand_131 : decode cX3_workHand 131 = .ok (.aload_n 2, 1) := by decide +kernel
theorem dX3_workHand_132 : decode cX3_workHand 132 = .ok (.invokevirtual 157, 3) := by decide +kernel
theorem dX3_workHand_135 : decode cX3_workHand 135 = .ok (.ireturn, 1) := by decide +kernel
theorem dX3_newThing_0 : decode cX3_newThing 0 = .ok (.iload_n 0, 1) := by decide +kernel
theorem dX3_newThing_1 : decode cX3_newThing 1 = .ok (.iconst 2, 1) := by decide +kernel
theorem dX3_newThing_2 : decode cX3_newThing 2 = .ok (.if_icmp .le 7, 3) := by decide +kernel
theorem dX3_newThing_5 : decode cX3_newThing 5 = .ok (.aconst_null, 1) := by decide +kernel
theorem dX3_newThing_6 : decode cX3_newThing 6 = .ok (.goto 12, 3) := by decide +kernel
theorem dX3_newThing_9 : decode cX3_newThing 9 = .ok (.new 15, 3) := by decide +kernel
theorem dX3_newThing_12 : decode cX3_newThing 12 = .ok (.dup, 1) := by decide +kernel
theorem dX3_newThing_13 : decode cX3_newThing 13 = .ok (.iload_n 0, 1) := by decide +kernel
theorem dX3_newThing_14 : decode cX3_newThing 14 = .ok (.lload_n 1, 1) := by decide +kernel
theorem dX3_newThing_15 : decode cX3_newThing 15 = .ok (.invokespecial 161, 3) := by decide +kernel
theorem dX3_newThing_18 : decode cX3_newThing 18 = .ok (.areturn, 1) := by decide +kernel
theorem dX3_workMark_0 : decode cX3_workMark 0 = .ok (.aload_n 2, 1) := by decide +kernel
theorem dX3_workMark_1 : decode cX3_workMark 1 = .ok (.ifnonnull 6, 3) := by decide +kernel
theorem dX3_workMark_4 : decode cX3_workMark 4 = .ok (.bipush 6, 2) := by decide +kernel
theorem dX3_workMark_6 : decode cX3_workMark 6 = .ok (.ireturn, 1) := by decide +kernel
theorem dX3_workMark_7 : decode cX3_workMark 7 = .ok (.aload_n 1, 1) := by decide +kernel
theorem dX3_workMark_8 : decode cX3_workMark 8 = .ok (.getfield 38, 3) := by decide +kernel
theorem dX3_workMark_11 : decode cX3_workMark 11 = .ok (.bipush 16, 2) := by decide +kernel
theorem dX3_workMark_13 : decode cX3_workMark 13 = .ok (.if_icmp .ne 18, 3) := by decide +kernel
theorem dX3_workMark_16 : decode cX3_workMark 16 = .ok (.aload_n 0, 1) := by decide +kernel
theorem dX3_workMark_17 : decode cX3_workMark 17 = .ok (.aload_n 1, 1) := by decide +kernel
theorem dX3_workMark_18 : decode cX3_workMark 18 = .ok (.getfield 63, 3) := by decide +kernel
theorem dX3_workMark_21 : decode cX3_workMark 21 = .ok (.aload_n 2, 1) := by decide +kernel
theorem dX3_workMark_22 : decode cX3_workMark 22 = .ok (.getfield 163, 3) := by decide +kernel
theorem dX3_workMark_25 : decode cX3_workMark 25 = .ok (.invokevirtual 76, 3) := by decide +kernel
theorem dX3_workMark_28 : decode cX3_workMark 28 = .ok (.goto 15, 3) := by decide +kernel
theorem dX3_workMark_31 : decode cX3_workMark 31 = .ok (.aload_n 2, 1) := by decide +kernel
theorem dX3_workMark_32 : decode cX3_workMark 32 = .ok (.aload_n 0, 1) := by decide +kernel
theorem dX3_workMark_33 : decode cX3_workMark 33 = .ok (.aload_n 1, 1) := by decide +kernel
theorem dX3_workMark_34 : decode cX3_workMark 34 = .ok (.getfield 63, 3) := by decide +kernel
theorem dX3_workMark_37 : decode cX3_workMark 37 = .ok (.invokevirtual 34, 3) := by decide +kernel
theorem dX3_workMark_40 : decode cX3_workMark 40 = .ok (.putfield 163, 3) := by decide +kernel
theorem dX3_workMark_43 : decode cX3_workMark 43 = .ok (.iconst (-1), 1) := by decide +kernel
theorem dX3_workMark_44 : decode cX3_workMark 44 = .ok (.ireturn, 1) := by decide +kernel
theorem dX3_workTool_0 : decode cX3_workTool 0 = .ok (.aload_n 0, 1) := by decide +kernel
theorem dX3_workTool_1 : decode cX3_workTool 1 = .ok (.aload_n 1, 1) := by decide +kernel
theorem dX3_workTool_2 : decode cX3_workTool 2 = .ok (.getfield 69, 3) := by decide +kernel
theorem dX3_workTool_5 : decode cX3_workTool 5 = .ok (.invokevirtual 119, 3) := by decide +kernel
theorem dX3_workTool_8 : decode cX3_workTool 8 = .ok (.astore_n 2, 1) := by decide +kernel
theorem dX3_workTool_9 : decode cX3_workTool 9 = .ok (.aload_n 2, 1) := by decide +kernel
theorem dX3_workTool_10 : decode cX3_workTool 10 = .ok (.ifnonnull 6, 3) := by decide +kernel
theorem dX3_workTool_13 : decode cX3_workTool 13 = .ok (.bipush 6, 2) := by decide +kernel
theorem dX3_workTool_15 : decode cX3_workTool 15 = .ok (.ireturn, 1) := by decide +kernel
theorem dX3_workTool_16 : decode cX3_workTool 16 = .ok (.aload_n 0, 1) := by decide +kernel
theorem dX3_workTool_17 : decode cX3_workTool 17 = .ok (.aload_n 1, 1) := by decide +kernel
theorem dX3_workTool_18 : decode cX3_workTool 18 = .ok (.getfield 63, 3) := by decide +kernel
theorem dX3_workTool_21 : decode cX3_workTool 21 = .ok (.invokevirtual 34, 3) := by decide +kernel
theorem dX3_workTool_24 : decode cX3_workTool 24 = .ok (.lstore_n 3, 1) := by decide +kernel
theorem dX3_workTool_25 : decode cX3_workTool 25 = .ok (.aload_n 1, 1) := by decide +kernel
theorem dX3_workTool_26 : decode cX3_workTool 26 = .ok (.getfield 38, 3) := by decide +kernel
theorem dX3_workTool_29 : decode cX3_workTool 29 = .ok (.bipush 19, 2) := by decide +kernel
theorem dX3_workTool_31 : decode cX3_workTool 31 = .ok (.if_icmp .ne 19, 3) := by decide +kernel
theorem dX3_workTool_34 : decode cX3_workTool 34 = .ok (.aload_n 0, 1) := by decide +kernel
theorem dX3_workTool_35 : decode cX3_workTool 35 = .ok (.aload_n 1, 1) := by decide +kernel
theorem dX3_workTool_36 : decode cX3_workTool 36 = .ok (.getfield 66, 3) := by decide +kernel
theorem dX3_workTool_39 : decode cX3_workTool 39 = .ok (.aload_n 2, 1) := by decide +kernel
theorem dX3_workTool_40 : decode cX3_workTool 40 = .ok (.lload_n 3, 1) := by decide +kernel
theorem dX3_workTool_41 : decode cX3_workTool 41 = .ok (.invokevirtual 167, 3) := by decide +kernel
theorem dX3_workTool_44 : decode cX3_workTool 44 = .ok (.invokevirtual 76, 3) := by decide +kernel
theorem dX3_workTool_47 : decode cX3_workTool 47 = .ok (.goto 59, 3) := by decide +kernel
theorem dX3_workTool_50 : decode cX3_workTool 50 = .ok (.aload_n 1, 1) := by decide +kernel
theorem dX3_workTool_51 : decode cX3_workTool 51 = .ok (.getfield 38, 3) := by decide +kernel
theorem dX3_workTool_54 : decode cX3_workTool 54 = .ok (.bipush 21, 2) := by decide +kernel
theorem dX3_workTool_56 : decode cX3_workTool 56 = .ok (.if_icmp .ne 24, 3) := by decide +kernel
theorem dX3_workTool_59 : decode cX3_workTool 59 = .ok (.aload_n 0, 1) := by decide +kernel
theorem dX3_workTool_60 : decode cX3_workTool 60 = .ok (.aload_n 1, 1) := by decide +kernel
theorem dX3_workTool_61 : decode cX3_workTool 61 = .ok (.getfield 66, 3) := by decide +kernel
theorem dX3_workTool_64 : decode cX3_workTool 64 = .ok (.ldc2_w 171, 3) := by decide +kernel
theorem dX3_workTool_67 : decode cX3_workTool 67 = .ok (.lload_n 3, 1) := by decide +kernel
theorem dX3_workTool_68 : decode cX3_workTool 68 = .ok (.lmul, 1) := by decide +kernel
theorem dX3_workTool_69 : decode cX3_workTool 69 = .ok (.aload_n 2, 1) := by decide +kernel
theorem dX3_workTool_70 : decode cX3_workTool 70 = .ok (.getfield 163, 3) := by decide +kernel
theorem dX3_workTool_73 : decode cX3_workTool 73 = .ok (.ladd, 1) := by decide +kernel
theorem dX3_workTool_74 : decode cX3_workTool 74 = .ok (.invokevirtual 76, 3) := by decide +kernel
theorem dX3_workTool_77 : decode cX3_workTool 77 = .ok (.goto 29, 3) := by decide +kernel
theorem dX3_workTool_80 : decode cX3_workTool 80 = .ok (.aload_n 2, 1) := by decide +kernel
theorem dX3_workTool_81 : decode cX3_workTool 81 = .ok (.invokevirtual 173, 3) := by decide +kernel
theorem dX3_workTool_84 : decode cX3_workTool 84 = .ok (.ifCond .eq 19, 3) := by decide +kernel
theorem dX3_workTool_87 : decode cX3_workTool 87 = .ok (.aload_n 0, 1) := by decide +kernel
theorem dX3_workTool_88 : decode cX3_workTool 88 = .ok (.aload_n 1, 1) := by decide +kernel
theorem dX3_workTool_89 : decode cX3_workTool 89 = .ok (.getfield 66, 3) := by decide +kernel
theorem dX3_workTool_92 : decode cX3_workTool 92 = .ok (.aload_n 2, 1) := by decide +kernel
theorem dX3_workTool_93 : decode cX3_workTool 93 = .ok (.lload_n 3, 1) := by decide +kernel
theorem dX3_workTool_94 : decode cX3_workTool 94 = .ok (.invokevirtual 177, 3) := by decide +kernel
theorem dX3_workTool_97 : decode cX3_workTool 97 = .ok (.invokevirtual 76, 3) := by decide +kernel
theorem dX3_workTool_100 : decode cX3_workTool 100 = .ok (.goto 6, 3) := by decide +kernel
theorem dX3_workTool_103 : decode cX3_workTool 103 = .ok (.bipush 8, 2) := by decide +kernel
theorem dX3_workTool_105 : decode cX3_workTool 105 = .ok (.ireturn, 1) := by decide +kernel
theorem dX3_workTool_106 : decode cX3_workTool 106 = .ok (.iconst (-1), 1) := by decide +kernel
theorem dX3_workTool_107 : decode cX3_workTool 107 = .ok (.ireturn, 1) := by decide +kernel
theorem dX4_init_0 : decode cX4_init 0 = .ok (.aload_n 0, 1) := by decide +kernel
theorem dX4_init_1 : decode cX4_init 1 = .ok (.invokespecial 3, 3) := by decide +kernel
theorem dX4_init_4 : decode cX4_init 4 = .ok (.aload_n 0, 1) := by decide +kernel
theorem dX4_init_5 : decode cX4_init 5 = .ok (.sipush 500, 3) := by decide +kernel
theorem dX4_init_8 : decode cX4_init 8 = .ok (.newarray .long, 2) := by decide +kernel
theorem dX4_init_10 : decode cX4_init 10 = .ok (.putfield 9, 3) := by decide +kernel
theorem dX4_init_13 : decode cX4_init 13 = .ok (.aload_n 0, 1) := by decide +kernel
theorem dX4_init_14 : decode cX4_init 14 = .ok (.sipush 1000, 3) := by decide +kernel
theorem dX4_init_17 : decode cX4_init 17 = .ok (.newarray .int, 2) := by decide +kernel
theorem dX4_init_19 : decode cX4_init 19 = .ok (.putfield 15, 3) := by decide +kernel
theorem dX4_init_22 : decode cX4_init 22 = .ok (.aload_n 0, 1) := by decide +kernel
theorem dX4_init_23 : decode cX4_init 23 = .ok (.iconst (-1), 1) := by decide +kernel
theorem dX4_init_24 : decode cX4_init 24 = .ok (.putfield 19, 3) := by decide +kernel
theorem dX4_init_27 : decode cX4_init 27 = .ok (.return_, 1) := by decide +kernel
theorem dX4_begin_0 : decode cX4_begin 0 = .ok (.aload_n 0, 1) := by decide +kernel
theorem dX4_begin_1 : decode cX4_begin 1 = .ok (.iconst 0, 1) := by decide +kernel
theorem dX4_begin_2 : decode cX4_begin 2 = .ok (.putfield 19, 3) := by decide +kernel
theorem dX4_begin_5 : decode cX4_begin 5 = .ok (.aload_n 0, 1) := by decide +kernel
theorem dX4_begin_6 : decode cX4_begin 6 = .ok (.lconst 0, 1) := by decide +kernel
theorem dX4_begin_7 : decode cX4_begin 7 = .ok (.putfield 23, 3) := by decide +kernel
theorem dX4_begin_10 : decode cX4_begin 10 = .ok (.aload_n 0, 1) := by decide +kernel
theorem dX4_begin_11 : decode cX4_begin 11 = .ok (.aconst_null, 1) := by decide +kernel
theorem dX4_begin_12 : decode cX4_begin 12 = .ok (.putfield 27, 3) := by decide +kernel
theorem dX4_begin_15 : decode cX4_begin 15 = .ok (.aload_n 0, 1) := by decide +kernel
theorem dX4_begin_16 : decode cX4_begin 16 = .ok (.iconst 0, 1) := by decide +kernel
theorem dX4_begin_17 : decode cX4_begin 17 = .ok (.putfield 31, 3) := by decide +kernel
theorem dX4_begin_20 : decode cX4_begin 20 = .ok (.aload_n 0, 1) := by decide +kernel
theorem dX4_begin_21 : decode cX4_begin 21 = .ok (.iconst 0, 1) := by decide +kernel
theorem dX4_begin_22 : decode cX4_begin 22 = .ok (.putfield 34, 3) := by decide +kernel
theorem dX4_begin_25 : decode cX4_begin 25 = .ok (.aload_n 0, 1) := by decide +kernel
theorem dX4_begin_26 : decode cX4_begin 26 = .ok (.iconst 0, 1) := by decide +kernel
theorem dX4_begin_27 : decode cX4_begin 27 = .ok (.putfield 37, 3) := by decide +kernel
theorem dX4_begin_30 : decode cX4_begin 30 = .ok (.aload_n 0, 1) := by decide +kernel
theorem dX4_begin_31 : decode cX4_begin 31 = .ok (.iconst 0, 1) := by decide +kernel
theorem dX4_begin_32 : decode cX4_begin 32 = .ok (.putfield 40, 3) := by decide +kernel
theorem dX4_begin_35 : decode cX4_begin 35 = .ok (.return_, 1) := by decide +kernel
theorem dX4_tell_0 : decode cX4_tell 0 = .ok (.aload_n 0, 1) := by decide +kernel
theorem dX4_tell_1 : decode cX4_tell 1 = .ok (.getfield 31, 3) := by decide +kernel
theorem dX4_tell_4 : decode cX4_tell 4 = .ok (.ifCond .lt 35, 3) := by decide +kernel
theorem dX4_tell_7 : decode cX4_tell 7 = .ok (.aload_n 0, 1) := by decide +kernel
theorem dX4_tell_8 : decode cX4_tell 8 = .ok (.getfield 31, 3) := by decide +kernel
theorem dX4_tell_11 : decode cX4_tell 11 = .ok (.aload_n 0, 1) := by decide +kernel
theorem dX4_tell_12 : decode cX4_tell 12 = .ok (.getfield 9, 3) := by decide +kernel
theorem dX4_tell_15 : decode cX4_tell 15 = .ok (.arraylength, 1) := by decide +kernel
theorem dX4_tell_16 : decode cX4_tell 16 = .ok (.if_icmp .ge 23, 3) := by decide +kernel
theorem dX4_tell_19 : decode cX4_tell 19 = .ok (.aload_n 0, 1) := by decide +kernel
theorem dX4_tell_20 : decode cX4_tell 20 = .ok (.getfield 9, 3) := by decide +kernel
theorem dX4_tell_23 : decode cX4_tell 23 = .ok (.aload_n 0, 1) := by decide +kernel
theorem dX4_tell_24 : decode cX4_tell 24 = .ok (.getfield 31, 3) := by decide +kernel
theorem dX4_tell_27 : decode cX4_tell 27 = .ok (.lload_n 1, 1) := by decide +kernel
theorem dX4_tell_28 : decode cX4_tell 28 = .ok (.lastore, 1) := by decide +kernel
theorem dX4_tell_29 : decode cX4_tell 29 = .ok (.aload_n 0, 1) := by decide +kernel
theorem dX4_tell_30 : decode cX4_tell 30 = .ok (.dup, 1) := by decide +kernel
theorem dX4_tell_31 : decode cX4_tell 31 = .ok (.getfield 31, 3) := by decide +kernel
theorem dX4_tell_34 : decode cX4_tell 34 = .ok (.iconst 1, 1) := by decide +kernel
theorem dX4_tell_35 : decode cX4_tell 35 = .ok (.iadd, 1) := by decide +kernel
theorem dX4_tell_36 : decode cX4_tell 36 = .ok (.putfield 31, 3) := by decide +kernel
theorem dX4_tell_39 : decode cX4_tell 39 = .ok (.return_, 1) := by decide +kernel
theorem dX4_noteFinish_0 : decode cX4_noteFinish 0 = .ok (.aload_n 0, 1) := by decide +kernel
theorem dX4_noteFinish_1 : decode cX4_noteFinish 1 = .ok (.getfield 34, 3) := by decide +kernel
theorem dX4_noteFinish_4 : decode cX4_noteFinish 4 = .ok (.ifCond .lt 35, 3) := by decide +kernel
theorem dX4_noteFinish_7 : decode cX4_noteFinish 7 = .ok (.aload_n 0, 1) := by decide +kernel
theorem dX4_noteFinish_8 : decode cX4_noteFinish 8 = .ok (.getfield 34, 3) := by decide +kernel
theorem dX4_noteFinish_11 : decode cX4_noteFinish 11 = .ok (.aload_n 0, 1) := by decide +kernel
theorem dX4_noteFinish_12 : decode cX4_noteFinish 12 = .ok (.getfield 15, 3) := by decide +kernel
theorem dX4_noteFinish_15 : decode cX4_noteFinish 15 = .ok (.arraylength, 1) := by decide +kernel
theorem dX4_noteFinish_16 : decode cX4_noteFinish 16 = .ok (.if_icmp .ge 23, 3) := by decide +kernel
theorem dX4_noteFinish_19 : decode cX4_noteFinish 19 = .ok (.aload_n 0, 1) := by decide +kernel
theorem dX4_noteFinish_20 : decode cX4_noteFinish 20 = .ok (.getfield 15, 3) := by decide +kernel
theorem dX4_noteFinish_23 : decode cX4_noteFinish 23 = .ok (.aload_n 0, 1) := by decide +kernel
theorem dX4_noteFinish_24 : decode cX4_noteFinish 24 = .ok (.getfield 34, 3) := by decide +kernel
theorem dX4_noteFinish_27 : decode cX4_noteFinish 27 = .ok (.iload_n 1, 1) := by decide +kernel
theorem dX4_noteFinish_28 : decode cX4_noteFinish 28 = .ok (.iastore, 1) := by decide +kernel
theorem dX4_noteFinish_29 : decode cX4_noteFinish 29 = .ok (.aload_n 0, 1) := by decide +kernel
theorem dX4_noteFinish_30 : decode cX4_noteFinish 30 = .ok (.dup, 1) := by decide +kernel
theorem dX4_noteFinish_31 : decode cX4_noteFinish 31 = .ok (.getfield 34, 3) := by decide +kernel
theorem dX4_noteFinish_34 : decode cX4_noteFinish 34 = .ok (.iconst 1, 1) := by decide +kernel
theorem dX4_noteFinish_35 : decode cX4_noteFinish 35 = .ok (.iadd, 1) := by decide +kernel
theorem dX4_noteFinish_36 : decode cX4_noteFinish 36 = .ok (.putfield 34, 3) := by decide +kernel
theorem dX4_noteFinish_39 : decode cX4_noteFinish 39 = .ok (.return_, 1) := by decide +kernel
theorem dX4_countCauses_0 : decode cX4_countCauses 0 = .ok (.iconst 0, 1) := by decide +kernel
theorem dX4_countCauses_1 : decode cX4_countCauses 1 = .ok (.istore_n 1, 1) := by decide +kernel
theorem dX4_countCauses_2 : decode cX4_countCauses 2 = .ok (.aload_n 0, 1) := by decide +kernel
theorem dX4_countCauses_3 : decode cX4_countCauses 3 = .ok (.getfield 27, 3) := by decide +kernel
theorem dX4_countCauses_6 : decode cX4_countCauses 6 = .ok (.astore_n 2, 1) := by decide +kernel
theorem dX4_countCauses_7 : decode cX4_countCauses 7 = .ok (.aload_n 2, 1) := by decide +kernel
theorem dX4_countCauses_8 : decode cX4_countCauses 8 = .ok (.ifnull 21, 3) := by decide +kernel
theorem dX4_countCauses_11 : decode cX4_countCauses 11 = .ok (.aload_n 2, 1) := by decide +kernel
theorem dX4_countCauses_12 : decode cX4_countCauses 12 = .ok (.getfield 43, 3) := by decide +kernel
theorem dX4_countCauses_15 : decode cX4_countCauses 15 = .ok (.ifnull 14, 3) := by decide +kernel
theorem dX4_countCauses_18 : decode cX4_countCauses 18 = .ok (.iinc 1 1, 3) := by decide +kernel
theorem dX4_countCauses_21 : decode cX4_countCauses 21 = .ok (.aload_n 2, 1) := by decide +kernel
theorem dX4_countCauses_22 : decode cX4_countCauses 22 = .ok (.getfield 43, 3) := by decide +kernel
theorem dX4_countCauses_25 : decode cX4_countCauses 25 = .ok (.astore_n 2, 1) := by decide +kernel
theorem dX4_countCauses_26 : decode cX4_countCauses 26 = .ok (.goto (-19), 3) := by decide +kernel
theorem dX4_countCauses_29 : decode cX4_countCauses 29 = .ok (.iload_n 1, 1) := by decide +kernel
theorem dX4_countCauses_30 : decode cX4_countCauses 30 = .ok (.ireturn, 1) := by decide +kernel
theorem dX5_init_0 : decode cX5_init 0 = .ok (.aload_n 0, 1) := by decide +kernel
theorem dX5_init_1 : decode cX5_init 1 = .ok (.invokespecial 3, 3) := by decide +kernel
theorem dX5_init_4 : decode cX5_init 4 = .ok (.aload_n 0, 1) := by decide +kernel
theorem dX5_init_5 : decode cX5_init 5 = .ok (.iload_n 1, 1) := by decide +kernel
theorem dX5_init_6 : decode cX5_init 6 = .ok (.putfield 9, 3) := by decide +kernel
theorem dX5_init_9 : decode cX5_init 9 = .ok (.aload_n 0, 1) := by decide +kernel
theorem dX5_init_10 : decode cX5_init 10 = .ok (.iload_n 1, 1) := by decide +kernel
theorem dX5_init_11 : decode cX5_init 11 = .ok (.bipush 7, 2) := by decide +kernel
theorem dX5_init_13 : decode cX5_init 13 = .ok (.if_icmp .ne 7, 3) := by decide +kernel
theorem dX5_init_16 : decode cX5_init 16 = .ok (.iconst 0, 1) := by decide +kernel
theorem dX5_init_17 : decode cX5_init 17 = .ok (.goto 5, 3) := by decide +kernel
theorem dX5_init_20 : decode cX5_init 20 = .ok (.bipush 63, 2) := by decide +kernel
theorem dX5_init_22 : decode cX5_init 22 = .ok (.newarray .long, 2) := by decide +kernel
theorem dX5_init_24 : decode cX5_init 24 = .ok (.putfield 15, 3) := by decide +kernel
theorem dX5_init_27 : decode cX5_init 27 = .ok (.aload_n 0, 1) := by decide +kernel
theorem dX5_init_28 : decode cX5_init 28 = .ok (.iload_n 1, 1) := by decide +kernel
theorem dX5_init_29 : decode cX5_init 29 = .ok (.bipush 7, 2) := by decide +kernel
theorem dX5_init_31 : decode cX5_init 31 = .ok (.if_icmp .ne 8, 3) := by decide +kernel
theorem dX5_init_34 : decode cX5_init 34 = .ok (.bipush 63, 2) := by decide +kernel
theorem dX5_init_36 : decode cX5_init 36 = .ok (.goto 4, 3) := by decide +kernel
theorem dX5_init_39 : decode cX5_init 39 = .ok (.iconst 0, 1) := by decide +kernel
theorem dX5_init_40 : decode cX5_init 40 = .ok (.anewarray 19, 3) := by decide +kernel
theorem dX5_init_43 : decode cX5_init 43 = .ok (.putfield 21, 3) := by decide +kernel
theorem dX5_init_46 : decode cX5_init 46 = .ok (.return_, 1) := by decide +kernel
theorem dX5_empty_0 : decode cX5_empty 0 = .ok (.aload_n 0, 1) := by decide +kernel
theorem dX5_empty_1 : decode cX5_empty 1 = .ok (.iload_n 1, 1) := by decide +kernel
theorem dX5_empty_2 : decode cX5_empty 2 = .ok (.putfield 25, 3) := by decide +kernel
theorem dX5_empty_5 : decode cX5_empty 5 = .ok (.aload_n 0, 1) := by decide +kernel
theorem dX5_empty_6 : decode cX5_empty 6 = .ok (.iload_n 2, 1) := by decide +kernel
theorem dX5_empty_7 : decode cX5_empty 7 = .ok (.putfield 28, 3) := by decide +kernel
theorem dX5_empty_10 : decode cX5_empty 10 = .ok (.aload_n 0, 1) := by decide +kernel
theorem dX5_empty_11 : decode cX5_empty 11 = .ok (.getfield 15, 3) := by decide +kernel
theorem dX5_empty_14 : decode cX5_empty 14 = .ok (.lconst 0, 1) := by decide +kernel
theorem dX5_empty_15 : decode cX5_empty 15 = .ok (.invokestatic 32, 3) := by decide +kernel
theorem dX5_empty_18 : decode cX5_empty 18 = .ok (.iconst 0, 1) := by decide +kernel
theorem dX5_empty_19 : decode cX5_empty 19 = .ok (.istore_n 3, 1) := by decide +kernel
theorem dX5_empty_20 : decode cX5_empty 20 = .ok (.iload_n 3, 1) := by decide +kernel
theorem dX5_empty_21 : decode cX5_empty 21 = .ok (.aload_n 0, 1) := by decide +kernel
theorem dX5_empty_22 : decode cX5_empty 22 = .ok (.getfield 21, 3) := by decide +kernel
theorem dX5_empty_25 : decode cX5_empty 25 = .ok (.arraylength, 1) := by decide +kernel
theorem dX5_empty_26 : decode cX5_empty 26 = .ok (.if_icmp .ge 16, 3) := by decide +kernel
theorem dX5_empty_29 : decode cX5_empty 29 = .ok (.aload_n 0, 1) := by decide +kernel
theorem dX5_empty_30 : decode cX5_empty 30 = .ok (.getfield 21, 3) := by decide +kernel
theorem dX5_empty_33 : decode cX5_empty 33 = .ok (.iload_n 3, 1) := by decide +kernel
theorem dX5_empty_34 : decode cX5_empty 34 = .ok (.aconst_null, 1) := by decide +kernel
theorem dX5_empty_35 : decode cX5_empty 35 = .ok (.aastore, 1) := by decide +kernel
theorem dX5_empty_36 : decode cX5_empty 36 = .ok (.iinc 3 1, 3) := by decide +kernel
theorem dX5_empty_39 : decode cX5_empty 39 = .ok (.goto (-19), 3) := by decide +kernel
theorem dX5_empty_42 : decode cX5_empty 42 = .ok (.return_, 1) := by decide +kernel
theorem dX5_has_0 : decode cX5_has 0 = .ok (.iload_n 1, 1) := by decide +kernel
theorem dX5_has_1 : decode cX5_has 1 = .ok (.ifCond .lt 15, 3) := by decide +kernel
theorem dX5_has_4 : decode cX5_has 4 = .ok (.iload_n 1, 1) := by decide +kernel
theorem dX5_has_5 : decode cX5_has 5 = .ok (.aload_n 0, 1) := by decide +kernel
theorem dX5_has_6 : decode cX5_has 6 = .ok (.getfield 25, 3) := by decide +kernel
theorem dX5_has_9 : decode cX5_has 9 = .ok (.if_icmp .ge 7, 3) := by decide +kernel
theorem dX5_has_12 : decode cX5_has 12 = .ok (.iconst 1, 1) := by decide +kernel
theorem dX5_has_13 : decode cX5_has 13 = .ok (.goto 4, 3) := by decide +kernel
theorem dX5_has_16 : decode cX5_has 16 = .ok (.iconst 0, 1) := by decide +kernel
theorem dX5_has_17 : decode cX5_has 17 = .ok (.ireturn, 1) := by decide +kernel
theorem dX5_numberAt_0 : decode cX5_numberAt 0 = .ok (.iload_n 1, 1) := by decide +kernel
theorem dX5_numberAt_1 : decode cX5_numberAt 1 = .ok (.ifCond .lt 21, 3) := by decide +kernel
theorem dX5_numberAt_4 : decode cX5_numberAt 4 = .ok (.iload_n 1, 1) := by decide +kernel
theorem dX5_numberAt_5 : decode cX5_numberAt 5 = .ok (.aload_n 0, 1) := by decide +kernel
theorem dX5_numberAt_6 : decode cX5_numberAt 6 = .ok (.getfield 15, 3) := by decide +kernel
theorem dX5_numberAt_9 : decode cX5_numberAt 9 = .ok (.arraylength, 1) := by decide +kernel
theorem dX5_numberAt_10 : decode cX5_numberAt 10 = .ok (.if_icmp .ge 12, 3) := by decide +kernel
theorem dX5_numberAt_13 : decode cX5_numberAt 13 = .ok (.aload_n 0, 1) := by decide +kernel
theorem dX5_numberAt_14 : decode cX5_numberAt 14 = .ok (.getfield 15, 3) := by decide +kernel
theorem dX5_numberAt_17 : decode cX5_numberAt 17 = .ok (.iload_n 1, 1) := by decide +kernel
theorem dX5_numberAt_18 : decode cX5_numberAt 18 = .ok (.laload, 1) := by decide +kernel
theorem dX5_numberAt_19 : decode cX5_numberAt 19 = .ok (.goto 4, 3) := by decide +kernel
theorem dX5_numberAt_22 : decode cX5_numberAt 22 = .ok (.lconst 0, 1) := by decide +kernel
theorem dX5_numberAt_23 : decode cX5_numberAt 23 = .ok (.lreturn, 1) := by decide +kernel
theorem dX5_thingAt_0 : decode cX5_thingAt 0 = .ok (.iload_n 1, 1) := by decide +kernel
theorem dX5_thingAt_1 : decode cX5_thingAt 1 = .ok (.ifCond .lt 21, 3) := by decide +kernel
theorem dX5_thingAt_4 : decode cX5_thingAt 4 = .ok (.iload_n 1, 1) := by decide +kernel
theorem dX5_thingAt_5 : decode cX5_thingAt 5 = .ok (.aload_n 0, 1) := by decide +kernel
theorem dX5_thingAt_6 : decode cX5_thingAt 6 = .ok (.getfield 21, 3) := by decide +kernel
theorem dX5_thingAt_9 : decode cX5_thingAt 9 = .ok (.arraylength, 1) := by decide +kernel
theorem dX5_thingAt_10 : decode cX5_thingAt 10 = .ok (.if_icmp .ge 12, 3) := by decide +kernel
theorem dX5_thingAt_13 : decode cX5_thingAt 13 = .ok (.aload_n 0, 1) := by decide +kernel
theorem dX5_thingAt_14 : decode cX5_thingAt 14 = .ok (.getfield 21, 3) := by decide +kernel
theorem dX5_thingAt_17 : decode cX5_thingAt 17 = .ok (.iload_n 1, 1) := by decide +kernel
theorem dX5_thingAt_18 : decode cX5_thingAt 18 = .ok (.aaload, 1) := by decide +kernel
theorem dX5_thingAt_19 : decode cX5_thingAt 19 = .ok (.goto 4, 3) := by decide +kernel
theorem dX5_thingAt_22 : decode cX5_thingAt 22 = .ok (.aconst_null, 1) := by decide +kernel
theorem dX5_thingAt_23 : decode cX5_thingAt 23 = .ok (.areturn, 1) := by decide +kernel
theorem dX5_putNumber_0 : decode cX5_putNumber 0 = .ok (.iload_n 1, 1) := by decide +kernel
theorem dX5_putNumber_1 : decode cX5_putNumber 1 = .ok (.ifCond .lt 23, 3) := by decide +kernel
theorem dX5_putNumber_4 : decode cX5_putNumber 4 = .ok (.iload_n 1, 1) := by decide +kernel
theorem dX5_putNumber_5 : decode cX5_putNumber 5 = .ok (.aload_n 0, 1) := by decide +kernel
theorem dX5_putNumber_6 : decode cX5_putNumber 6 = .ok (.getfield 15, 3) := by decide +kernel
theorem dX5_putNumber_9 : decode cX5_putNumber 9 = .ok (.arraylength, 1) := by decide +kernel
theorem dX5_putNumber_10 : decode cX5_putNumber 10 = .ok (.if_icmp .ge 14, 3) := by decide +kernel
theorem dX5_putNumber_13 : decode cX5_putNumber 13 = .ok (.aload_n 0, 1) := by decide +kernel
theorem dX5_putNumber_14 : decode cX5_putNumber 14 = .ok (.getfield 15, 3) := by decide +kernel
theorem dX5_putNumber_17 : decode cX5_putNumber 17 = .ok (.iload_n 1, 1) := by decide +kernel
theorem dX5_putNumber_18 : decode cX5_putNumber 18 = .ok (.aload_n 0, 1) := by decide +kernel
theorem dX5_putNumber_19 : decode cX5_putNumber 19 = .ok (.lload_n 2, 1) := by decide +kernel
theorem dX5_putNumber_20 : decode cX5_putNumber 20 = .ok (.invokevirtual 38, 3) := by decide +kernel
theorem dX5_putNumber_23 : decode cX5_putNumber 23 = .ok (.lastore, 1) := by decide +kernel
theorem dX5_putNumber_24 : decode cX5_putNumber 24 = .ok (.return_, 1) := by decide +kernel
theorem dX5_putThing_0 : decode cX5_putThing 0 = .ok (.iload_n 1, 1) := by decide +kernel
theorem dX5_putThing_1 : decode cX5_putThing 1 = .ok (.ifCond .lt 19, 3) := by decide +kernel
theorem dX5_putThing_4 : decode cX5_putThing 4 = .ok (.iload_n 1, 1) := by decide +kernel
theorem dX5_putThing_5 : decode cX5_putThing 5 = .ok (.aload_n 0, 1) := by decide +kernel
theorem dX5_putThing_6 : decode cX5_putThing 6 = .ok (.getfield 21, 3) := by decide +kernel
theorem dX5_putThing_9 : decode cX5_putThing 9 = .ok (.arraylength, 1) := by decide +kernel
theorem dX5_putThing_10 : decode cX5_putThing 10 = .ok (.if_icmp .ge 10, 3) := by decide +kernel
theorem dX5_putThing_13 : decode cX5_putThing 13 = .ok (.aload_n 0, 1) := by decide +kernel
theorem dX5_putThing_14 : decode cX5_putThing 14 = .ok (.getfield 21, 3) := by decide +kernel
theorem dX5_putThing_17 : decode cX5_putThing 17 = .ok (.iload_n 1, 1) := by decide +kernel
theorem dX5_putThing_18 : decode cX5_putThing 18 = .ok (.aload_n 2, 1) := by decide +kernel
theorem dX5_putThing_19 : decode cX5_putThing 19 = .ok (.aastore, 1) := by decide +kernel
theorem dX5_putThing_20 : decode cX5_putThing 20 = .ok (.return_, 1) := by decide +kernel
theorem dX5_narrowed_0 : decode cX5_narrowed 0 = .ok (.aload_n 0, 1) := by decide +kernel
theorem dX5_narrowed_1 : decode cX5_narrowed 1 = .ok (.getfield 9, 3) := by decide +kernel
theorem dX5_narrowed_4 : decode cX5_narrowed 4 = .ok (.tableswitch 71 0 6 #[44, 49, 54, 59, 71, 63, 67], 44) := by decide +kernel
theorem dX5_narrowed_48 : decode cX5_narrowed 48 = .ok (.lload_n 1, 1) := by decide +kernel
theorem dX5_narrowed_49 : decode cX5_narrowed 49 = .ok (.l2i, 1) := by decide +kernel
theorem dX5_narrowed_50 : decode cX5_narrowed 50 = .ok (.i2b, 1) := by decide +kernel
theorem dX5_narrowed_51 : decode cX5_narrowed 51 = .ok (.i2l, 1) := by decide +kernel
theorem dX5_narrowed_52 : decode cX5_narrowed 52 = .ok (.lreturn, 1) := by decide +kernel
theorem dX5_narrowed_53 : decode cX5_narrowed 53 = .ok (.lload_n 1, 1) := by decide +kernel
theorem dX5_narrowed_54 : decode cX5_narrowed 54 = .ok (.l2i, 1) := by decide +kernel
theorem dX5_narrowed_55 : decode cX5_narrowed 55 = .ok (.i2c, 1) := by decide +kernel
theorem dX5_narrowed_56 : decode cX5_narrowed 56 = .ok (.i2l, 1) := by decide +kernel
theorem dX5_narrowed_57 : decode cX5_narrowed 57 = .ok (.lreturn, 1) := by decide +kernel
theorem dX5_narrowed_58 : decode cX5_narrowed 58 = .ok (.lload_n 1, 1) := by decide +kernel
theorem dX5_narrowed_59 : decode cX5_narrowed 59 = .ok (.l2i, 1) := by decide +kernel
theorem dX5_narrowed_60 : decode cX5_narrowed 60 = .ok (.i2s, 1) := by decide +kernel
theorem dX5_narrowed_61 : decode cX5_narrowed 61 = .ok (.i2l, 1) := by decide +kernel
theorem dX5_narrowed_62 : decode cX5_narrowed 62 = .ok (.lreturn, 1) := by decide +kernel
theorem dX5_narrowed_63 : decode cX5_narrowed 63 = .ok (.lload_n 1, 1) := by decide +kernel
theorem dX5_narrowed_64 : decode cX5_narrowed 64 = .ok (.l2i, 1) := by decide +kernel
theorem dX5_narrowed_65 : decode cX5_narrowed 65 = .ok (.i2l, 1) := by decide +kernel
theorem dX5_narrowed_66 : decode cX5_narrowed 66 = .ok (.lreturn, 1) := by decide +kernel
theorem dX5_narrowed_67 : decode cX5_narrowed 67 = .ok (.lload_n 1, 1) := by decide +kernel
theorem dX5_narrowed_68 : decode cX5_narrowed 68 = .ok (.l2f, 1) := by decide +kernel
theorem dX5_narrowed_69 : decode cX5_narrowed 69 = .ok (.f2l, 1) := by decide +kernel
theorem dX5_narrowed_70 : decode cX5_narrowed 70 = .ok (.lreturn, 1) := by decide +kernel
theorem dX5_narrowed_71 : decode cX5_narrowed 71 = .ok (.lload_n 1, 1) := by decide +kernel
theorem dX5_narrowed_72 : decode cX5_narrowed 72 = .ok (.l2d, 1) := by decide +kernel
theorem dX5_narrowed_73 : decode cX5_narrowed 73 = .ok (.d2l, 1) := by decide +kernel
theorem dX5_narrowed_74 : decode cX5_narrowed 74 = .ok (.lreturn, 1) := by decide +kernel
theorem dX5_narrowed_75 : decode cX5_narrowed 75 = .ok (.lload_n 1, 1) := by decide +kernel
theorem dX5_narrowed_76 : decode cX5_narrowed 76 = .ok (.lreturn, 1) := by decide +kernel
theorem dX6_init_0 : decode cX6_init 0 = .ok (.aload_n 0, 1) := by decide +kernel
theorem dX6_init_1 : decode cX6_init 1 = .ok (.invokespecial 3, 3) := by decide +kernel
theorem dX6_init_4 : decode cX6_init 4 = .ok (.aload_n 0, 1) := by decide +kernel
theorem dX6_init_5 : decode cX6_init 5 = .ok (.sipush 2000, 3) := by decide +kernel
theorem dX6_init_8 : decode cX6_init 8 = .ok (.anewarray 9, 3) := by decide +kernel
theorem dX6_init_11 : decode cX6_init 11 = .ok (.putfield 11, 3) := by decide +kernel
theorem dX6_init_14 : decode cX6_init 14 = .ok (.aload_n 0, 1) := by decide +kernel
theorem dX6_init_15 : decode cX6_init 15 = .ok (.sipush 2000, 3) := by decide +kernel
theorem dX6_init_18 : decode cX6_init 18 = .ok (.newarray .int, 2) := by decide +kernel
theorem dX6_init_20 : decode cX6_init 20 = .ok (.putfield 17, 3) := by decide +kernel
theorem dX6_init_23 : decode cX6_init 23 = .ok (.return_, 1) := by decide +kernel
theorem dX6_clear_0 : decode cX6_clear 0 = .ok (.aload_n 0, 1) := by decide +kernel
theorem dX6_clear_1 : decode cX6_clear 1 = .ok (.iconst 0, 1) := by decide +kernel
theorem dX6_clear_2 : decode cX6_clear 2 = .ok (.putfield 21, 3) := by decide +kernel
theorem dX6_clear_5 : decode cX6_clear 5 = .ok (.aload_n 0, 1) := by decide +kernel
theorem dX6_clear_6 : decode cX6_clear 6 = .ok (.iconst 0, 1) := by decide +kernel
theorem dX6_clear_7 : decode cX6_clear 7 = .ok (.putfield 25, 3) := by decide +kernel
theorem dX6_clear_10 : decode cX6_clear 10 = .ok (.aload_n 0, 1) := by decide +kernel
theorem dX6_clear_11 : decode cX6_clear 11 = .ok (.aconst_null, 1) := by decide +kernel
theorem dX6_clear_12 : decode cX6_clear 12 = .ok (.putfield 28, 3) := by decide +kernel
theorem dX6_clear_15 : decode cX6_clear 15 = .ok (.return_, 1) := by decide +kernel
theorem dX6_add_0 : decode cX6_add 0 = .ok (.aload_n 0, 1) := by decide +kernel
theorem dX6_add_1 : decode cX6_add 1 = .ok (.getfield 21, 3) := by decide +kernel
theorem dX6_add_4 : decode cX6_add 4 = .ok (.ifCond .lt 13, 3) := by decide +kernel
theorem dX6_add_7 : decode cX6_add 7 = .ok (.aload_n 0, 1) := by decide +kernel
theorem dX6_add_8 : decode cX6_add 8 = .ok (.getfield 21, 3) := by decide +kernel
theorem dX6_add_11 : decode cX6_add 11 = .ok (.sipush 2000, 3) := by decide +kernel
theorem dX6_add_14 : decode cX6_add 14 = .ok (.if_icmp .lt 4, 3) := by decide +kernel
theorem dX6_add_17 : decode cX6_add 17 = .ok (.return_, 1) := by decide +kernel
theorem dX6_add_18 : decode cX6_add 18 = .ok (.new 9, 3) := by decide +kernel
theorem dX6_add_21 : decode cX6_add 21 = .ok (.dup, 1) := by decide +kernel
theorem dX6_add_22 : decode cX6_add 22 = .ok (.aload_n 0, 1) := by decide +kernel
theorem dX6_add_23 : decode cX6_add 23 = .ok (.getfield 21, 3) := by decide +kernel
theorem dX6_add_26 : decode cX6_add 26 = .ok (.iload_n 1, 1) := by decide +kernel
theorem dX6_add_27 : decode cX6_add 27 = .ok (.iload_n 2, 1) := by decide +kernel
theorem dX6_add_28 : decode cX6_add 28 = .ok (.iload_n 3, 1) := by decide +kernel
theorem dX6_add_29 : decode cX6_add 29 = .ok (.iload 4, 2) := by decide +kernel
theorem dX6_add_31 : decode cX6_add 31 = .ok (.invokespecial 32, 3) := by decide +kernel
theorem dX6_add_34 : decode cX6_add 34 = .ok (.astore 5, 2) := by decide +kernel
theorem dX6_add_36 : decode cX6_add 36 = .ok (.aload_n 0, 1) := by decide +kernel
theorem dX6_add_37 : decode cX6_add 37 = .ok (.getfield 11, 3) := by decide +kernel
theorem dX6_add_40 : decode cX6_add 40 = .ok (.aload_n 0, 1) := by decide +kernel
theorem dX6_add_41 : decode cX6_add 41 = .ok (.getfield 21, 3) := by decide +kernel
theorem dX6_add_44 : decode cX6_add 44 = .ok (.aload 5, 2) := by decide +kernel
theorem dX6_add_46 : decode cX6_add 46 = .ok (.aastore, 1) := by decide +kernel
theorem dX6_add_47 : decode cX6_add 47 = .ok (.aload_n 0, 1) := by decide +kernel
theorem dX6_add_48 : decode cX6_add 48 = .ok (.dup, 1) := by decide +kernel
theorem dX6_add_49 : decode cX6_add 49 = .ok (.getfield 21, 3) := by decide +kernel
theorem dX6_add_52 : decode cX6_add 52 = .ok (.iconst 1, 1) := by decide +kernel
theorem dX6_add_53 : decode cX6_add 53 = .ok (.iadd, 1) := by decide +kernel
theorem dX6_add_54 : decode cX6_add 54 = .ok (.putfield 21, 3) := by decide +kernel
theorem dX6_add_57 : decode cX6_add 57 = .ok (.iload_n 1, 1) := by decide +kernel
theorem dX6_add_58 : decode cX6_add 58 = .ok (.bipush 25, 2) := by decide +kernel
theorem dX6_add_60 : decode cX6_add 60 = .ok (.if_icmp .eq 15, 3) := by decide +kernel
theorem dX6_add_63 : decode cX6_add 63 = .ok (.iload_n 1, 1) := by decide +kernel
theorem dX6_add_64 : decode cX6_add 64 = .ok (.bipush 29, 2) := by decide +kernel
theorem dX6_add_66 : decode cX6_add 66 = .ok (.if_icmp .eq 9, 3) := by decide +kernel
theorem dX6_add_69 : decode cX6_add 69 = .ok (.iload_n 1, 1) := by decide +kernel
theorem dX6_add_70 : decode cX6_add 70 = .ok (.bipush 30, 2) := by decide +kernel
theorem dX6_add_72 : decode cX6_add 72 = .ok (.if_icmp .ne 21, 3) := by decide +kernel
theorem dX6_add_75 : decode cX6_add 75 = .ok (.aload 5, 2) := by decide +kernel
theorem dX6_add_77 : decode cX6_add 77 = .ok (.aload_n 0, 1) := by decide +kernel
theorem dX6_add_78 : decode cX6_add 78 = .ok (.getfield 28, 3) := by decide +kernel
theorem dX6_add_81 : decode cX6_add 81 = .ok (.putfield 35, 3) := by decide +kernel
theorem dX6_add_84 : decode cX6_add 84 = .ok (.aload_n 0, 1) := by decide +kernel
theorem dX6_add_85 : decode cX6_add 85 = .ok (.aload 5, 2) := by decide +kernel
theorem dX6_add_87 : decode cX6_add 87 = .ok (.putfield 28, 3) := by decide +kernel
theorem dX6_add_90 : decode cX6_add 90 = .ok (.goto 46, 3) := by decide +kernel
theorem dX6_add_93 : decode cX6_add 93 = .ok (.iload_n 1, 1) := by decide +kernel
theorem dX6_add_94 : decode cX6_add 94 = .ok (.bipush 26, 2) := by decide +kernel
theorem dX6_add_96 : decode cX6_add 96 = .ok (.if_icmp .lt 18, 3) := by decide +kernel
theorem dX6_add_99 : decode cX6_add 99 = .ok (.iload_n 1, 1) := by decide +kernel
theorem dX6_add_100 : decode cX6_add 100 = .ok (.bipush 31, 2) := by decide +kernel
theorem dX6_add_102 : decode cX6_add 102 = .ok (.if_icmp .gt 12, 3) := by decide +kernel
theorem dX6_add_105 : decode cX6_add 105 = .ok (.aload_n 0, 1) := by decide +kernel
theorem dX6_add_106 : decode cX6_add 106 = .ok (.aload 5, 2) := by decide +kernel
theorem dX6_add_108 : decode cX6_add 108 = .ok (.invokevirtual 38, 3) := by decide +kernel
theorem dX6_add_111 : decode cX6_add 111 = .ok (.goto 25, 3) := by decide +kernel
theorem dX6_add_114 : decode cX6_add 114 = .ok (.iload_n 1, 1) := by decide +kernel
theorem dX6_add_115 : decode cX6_add 115 = .ok (.bipush 35, 2) := by decide +kernel
theorem dX6_add_117 : decode cX6_add 117 = .ok (.if_icmp .ne 19, 3) := by decide +kernel
theorem dX6_add_120 : decode cX6_add 120 = .ok (.iload 4, 2) := by decide +kernel
theorem dX6_add_122 : decode cX6_add 122 = .ok (.iconst 1, 1) := by decide +kernel
theorem dX6_add_123 : decode cX6_add 123 = .ok (.iand, 1) := by decide +kernel
theorem dX6_add_124 : decode cX6_add 124 = .ok (.ifCond .ne 12, 3) := by decide +kernel
theorem dX6_add_127 : decode cX6_add 127 = .ok (.aload_n 0, 1) := by decide +kernel
theorem dX6_add_128 : decode cX6_add 128 = .ok (.aload 5, 2) := by decide +kernel
theorem dX6_add_130 : decode cX6_add 130 = .ok (.getfield 42, 3) := by decide +kernel
theorem dX6_add_133 : decode cX6_add 133 = .ok (.invokevirtual 45, 3) := by decide +kernel
theorem dX6_add_136 : decode cX6_add 136 = .ok (.return_, 1) := by decide +kernel
theorem dX6_beginRoutine_0 : decode cX6_beginRoutine 0 = .ok (.aload_n 0, 1) := by decide +kernel
theorem dX6_beginRoutine_1 : decode cX6_beginRoutine 1 = .ok (.getfield 25, 3) := by decide +kernel
theorem dX6_beginRoutine_4 : decode cX6_beginRoutine 4 = .ok (.ifCond .lt 13, 3) := by decide +kernel
theorem dX6_beginRoutine_7 : decode cX6_beginRoutine 7 = .ok (.aload_n 0, 1) := by decide +kernel
theorem dX6_beginRoutine_8 : decode cX6_beginRoutine 8 = .ok (.getfield 25, 3) := by decide +kernel
theorem dX6_beginRoutine_11 : decode cX6_beginRoutine 11 = .ok (.sipush 2000, 3) := by decide +kernel
theorem dX6_beginRoutine_14 : decode cX6_beginRoutine 14 = .ok (.if_icmp .lt 4, 3) := by decide +kernel
theorem dX6_beginRoutine_17 : decode cX6_beginRoutine 17 = .ok (.return_, 1) := by decide +kernel
theorem dX6_beginRoutine_18 : decode cX6_beginRoutine 18 = .ok (.aload_n 0, 1) := by decide +kernel
theorem dX6_beginRoutine_19 : decode cX6_beginRoutine 19 = .ok (.getfield 17, 3) := by decide +kernel
theorem dX6_beginRoutine_22 : decode cX6_beginRoutine 22 = .ok (.aload_n 0, 1) := by decide +kernel
theorem dX6_beginRoutine_23 : decode cX6_beginRoutine 23 = .ok (.getfield 25, 3) := by decide +kernel
theorem dX6_beginRoutine_26 : decode cX6_beginRoutine 26 = .ok (.iload_n 1, 1) := by decide +kernel
theorem dX6_beginRoutine_27 : decode cX6_beginRoutine 27 = .ok (.iastore, 1) := by decide +kernel
theorem dX6_beginRoutine_28 : decode cX6_beginRoutine 28 = .ok (.aload_n 0, 1) := by decide +kernel
theorem dX6_beginRoutine_29 : decode cX6_beginRoutine 29 = .ok (.dup, 1) := by decide +kernel
theorem dX6_beginRoutine_30 : decode cX6_beginRoutine 30 = .ok (.getfield 25, 3) := by decide +kernel
theorem dX6_beginRoutine_33 : decode cX6_beginRoutine 33 = .ok (.iconst 1, 1) := by decide +kernel
theorem dX6_beginRoutine_34 : decode cX6_beginRoutine 34 = .ok (.iadd, 1) := by decide +kernel
theorem dX6_beginRoutine_35 : decode cX6_beginRoutine 35 = .ok (.putfield 25, 3) := by decide +kernel
theorem dX6_beginRoutine_38 : decode cX6_beginRoutine 38 = .ok (.aload_n 0, 1) := by decide +kernel
theorem dX6_beginRoutine_39 : decode cX6_beginRoutine 39 = .ok (.aconst_null, 1) := by decide +kernel
theorem dX6_beginRoutine_40 : decode cX6_beginRoutine 40 = .ok (.putfield 28, 3) := by decide +kernel
theorem dX6_beginRoutine_43 : decode cX6_beginRoutine 43 = .ok (.return_, 1) := by decide +kernel
theorem dX6_fit_0 : decode cX6_fit 0 = .ok (.aload_n 0, 1) := by decide +kernel
theorem dX6_fit_1 : decode cX6_fit 1 = .ok (.getfield 28, 3) := by decide +kernel
theorem dX6_fit_4 : decode cX6_fit 4 = .ok (.astore_n 2, 1) := by decide +kernel
theorem dX6_fit_5 : decode cX6_fit 5 = .ok (.aload_n 2, 1) := by decide +kernel
theorem dX6_fit_6 : decode cX6_fit 6 = .ok (.ifnull 34, 3) := by decide +kernel
theorem dX6_fit_9 : decode cX6_fit 9 = .ok (.aload_n 2, 1) := by decide +kernel
theorem dX6_fit_10 : decode cX6_fit 10 = .ok (.getfield 49, 3) := by decide +kernel
theorem dX6_fit_13 : decode cX6_fit 13 = .ok (.bipush 25, 2) := by decide +kernel
theorem dX6_fit_15 : decode cX6_fit 15 = .ok (.if_icmp .ne 7, 3) := by decide +kernel
theorem dX6_fit_18 : decode cX6_fit 18 = .ok (.iconst 1, 1) := by decide +kernel
theorem dX6_fit_19 : decode cX6_fit 19 = .ok (.goto 4, 3) := by decide +kernel
theorem dX6_fit_22 : decode cX6_fit 22 = .ok (.iconst 0, 1) := by decide +kernel
theorem dX6_fit_23 : decode cX6_fit 23 = .ok (.aload_n 1, 1) := by decide +kernel
theorem dX6_fit_24 : decode cX6_fit 24 = .ok (.getfield 49, 3) := by decide +kernel
theorem dX6_fit_27 : decode cX6_fit 27 = .ok (.bipush 31, 2) := by decide +kernel
theorem dX6_fit_29 : decode cX6_fit 29 = .ok (.if_icmp .ne 7, 3) := by decide +kernel
theorem dX6_fit_32 : decode cX6_fit 32 = .ok (.iconst 1, 1) := by decide +kernel
theorem dX6_fit_33 : decode cX6_fit 33 = .ok (.goto 4, 3) := by decide +kernel
theorem dX6_fit_36 : decode cX6_fit 36 = .ok (.iconst 0, 1) := by decide +kernel
theorem dX6_fit_37 : decode cX6_fit 37 = .ok (.if_icmp .ne 4, 3) := by decide +kernel
theorem dX6_fit_40 : decode cX6_fit 40 = .ok (.return_, 1) := by decide +kernel
theorem dX6_fit_41 : decode cX6_fit 41 = .ok (.aload_n 1, 1) := by decide +kernel
theorem dX6_fit_42 : decode cX6_fit 42 = .ok (.getfield 49, 3) := by decide +kernel
theorem dX6_fit_45 : decode cX6_fit 45 = .ok (.bipush 26, 2) := by decide +kernel
theorem dX6_fit_47 : decode cX6_fit 47 = .ok (.if_icmp .ne 28, 3) := by decide +kernel
theorem dX6_fit_50 : decode cX6_fit 50 = .ok (.aload_n 2, 1) := by decide +kernel
theorem dX6_fit_51 : decode cX6_fit 51 = .ok (.getfield 52, 3) := by decide +kernel
theorem dX6_fit_54 : decode cX6_fit 54 = .ok (.ifCond .ge 64, 3) := by decide +kernel
theorem dX6_fit_57 : decode cX6_fit 57 = .ok (.aload_n 2, 1) := by decide +kernel
theorem dX6_fit_58 : decode cX6_fit 58 = .ok (.getfield 55, 3) := by decide +kernel
theorem dX6_fit_61 : decode cX6_fit 61 = .ok (.ifCond .ge 57, 3) := by decide +kernel
theorem dX6_fit_64 : decode cX6_fit 64 = .ok (.aload_n 2, 1) := by decide +kernel
theorem dX6_fit_65 : decode cX6_fit 65 = .ok (.aload_n 1, 1) := by decide +kernel
theorem dX6_fit_66 : decode cX6_fit 66 = .ok (.getfield 42, 3) := by decide +kernel
theorem dX6_fit_69 : decode cX6_fit 69 = .ok (.putfield 52, 3) := by decide +kernel
theorem dX6_fit_72 : decode cX6_fit 72 = .ok (.goto 46, 3) := by decide +kernel
theorem dX6_fit_75 : decode cX6_fit 75 = .ok (.aload_n 1, 1) := by decide +kernel
theorem dX6_fit_76 : decode cX6_fit 76 = .ok (.getfield 49, 3) := by decide +kernel
theorem dX6_fit_79 : decode cX6_fit 79 = .ok (.bipush 27, 2) := by decide +kernel
theorem dX6_fit_81 : decode cX6_fit 81 = .ok (.if_icmp .ne 21, 3) := by decide +kernel
theorem dX6_fit_84 : decode cX6_fit 84 = .ok (.aload_n 2, 1) := by decide +kernel
theorem dX6_fit_85 : decode cX6_fit 85 = .ok (.getfield 55, 3) := by decide +kernel
theorem dX6_fit_88 : decode cX6_fit 88 = .ok (.ifCond .ge 30, 3) := by decide +kernel
theorem dX6_fit_91 : decode cX6_fit 91 = .ok (.aload_n 2, 1) := by decide +kernel
theorem dX6_fit_92 : decode cX6_fit 92 = .ok (.aload_n 1, 1) := by decide +kernel
theorem dX6_fit_93 : decode cX6_fit 93 = .ok (.getfield 42, 3) := by decide +kernel
theorem dX6_fit_96 : decode cX6_fit 96 = .ok (.putfield 55, 3) := by decide +kernel
theorem dX6_fit_99 : decode cX6_fit 99 = .ok (.goto 19, 3) := by decide +kernel
theorem dX6_fit_102 : decode cX6_fit 102 = .ok (.aload_n 2, 1) := by decide +kernel
theorem dX6_fit_103 : decode cX6_fit 103 = .ok (.aload_n 1, 1) := by decide +kernel
theorem dX6_fit_104 : decode cX6_fit 104 = .ok (.getfield 42, 3) := by decide +kernel
theorem dX6_fit_107 : decode cX6_fit 107 = .ok (.putfield 58, 3) := by decide +kernel
theorem dX6_fit_110 : decode cX6_fit 110 = .ok (.aload_n 0, 1) := by decide +kernel
theorem dX6_fit_111 : decode cX6_fit 111 = .ok (.aload_n 2, 1) := by decide +kernel
theorem dX6_fit_112 : decode cX6_fit 112 = .ok (.getfield 35, 3) := by decide +kernel
theorem dX6_fit_115 : decode cX6_fit 115 = .ok (.putfield 28, 3) := by decide +kernel
theorem dX6_fit_118 : decode cX6_fit 118 = .ok (.return_, 1) := by decide +kernel
theorem dX6_hasRoutine_0 : decode cX6_hasRoutine 0 = .ok (.iload_n 1, 1) := by decide +kernel
theorem dX6_hasRoutine_1 : decode cX6_hasRoutine 1 = .ok (.ifCond .lt 22, 3) := by decide +kernel
theorem dX6_hasRoutine_4 : decode cX6_hasRoutine 4 = .ok (.iload_n 1, 1) := by decide +kernel
theorem dX6_hasRoutine_5 : decode cX6_hasRoutine 5 = .ok (.aload_n 0, 1) := by decide +kernel
theorem dX6_hasRoutine_6 : decode cX6_hasRoutine 6 = .ok (.getfield 25, 3) := by decide +kernel
theorem dX6_hasRoutine_9 : decode cX6_hasRoutine 9 = .ok (.if_icmp .ge 14, 3) := by decide +kernel
theorem dX6_hasRoutine_12 : decode cX6_hasRoutine 12 = .ok (.iload_n 1, 1) := by decide +kernel
theorem dX6_hasRoutine_13 : decode cX6_hasRoutine 13 = .ok (.sipush 2000, 3) := by decide +kernel
theorem dX6_hasRoutine_16 : decode cX6_hasRoutine 16 = .ok (.if_icmp .ge 7, 3) := by decide +kernel
theorem dX6_hasRoutine_19 : decode cX6_hasRoutine 19 = .ok (.iconst 1, 1) := by decide +kernel
theorem dX6_hasRoutine_20 : decode cX6_hasRoutine 20 = .ok (.goto 4, 3) := by decide +kernel
theorem dX6_hasRoutine_23 : decode cX6_hasRoutine 23 = .ok (.iconst 0, 1) := by decide +kernel
theorem dX6_hasRoutine_24 : decode cX6_hasRoutine 24 = .ok (.ireturn, 1) := by decide +kernel
theorem dX6_firstPlaceOf_0 : decode cX6_firstPlaceOf 0 = .ok (.aload_n 0, 1) := by decide +kernel
theorem dX6_firstPlaceOf_1 : decode cX6_firstPlaceOf 1 = .ok (.iload_n 1, 1) := by decide +kernel
theorem dX6_firstPlaceOf_2 : decode cX6_firstPlaceOf 2 = .ok (.invokevirtual 61, 3) := by decide +kernel
theorem dX6_firstPlaceOf_5 : decode cX6_firstPlaceOf 5 = .ok (.ifCond .eq 14, 3) := by decide +kernel
theorem dX6_firstPlaceOf_8 : decode cX6_firstPlaceOf 8 = .ok (.aload_n 0, 1) := by decide +kernel
theorem dX6_firstPlaceOf_9 : decode cX6_firstPlaceOf 9 = .ok (.getfield 17, 3) := by decide +kernel
theorem dX6_firstPlaceOf_12 : decode cX6_firstPlaceOf 12 = .ok (.iload_n 1, 1) := by decide +kernel
theorem dX6_firstPlaceOf_13 : decode cX6_firstPlaceOf 13 = .ok (.iaload, 1) := by decide +kernel
theorem dX6_firstPlaceOf_14 : decode cX6_firstPlaceOf 14 = .ok (.iconst 1, 1) := by decide +kernel
theorem dX6_firstPlaceOf_15 : decode cX6_firstPlaceOf 15 = .ok (.iadd, 1) := by decide +kernel
theorem dX6_firstPlaceOf_16 : decode cX6_firstPlaceOf 16 = .ok (.goto 7, 3) := by decide +kernel
theorem dX6_firstPlaceOf_19 : decode cX6_firstPlaceOf 19 = .ok (.aload_n 0, 1) := by decide +kernel
theorem dX6_firstPlaceOf_20 : decode cX6_firstPlaceOf 20 = .ok (.getfield 21, 3) := by decide +kernel
theorem dX6_firstPlaceOf_23 : decode cX6_firstPlaceOf 23 = .ok (.ireturn, 1) := by decide +kernel
theorem dX6_placeBehind_0 : decode cX6_placeBehind 0 = .ok (.aload_n 0, 1) := by decide +kernel
theorem dX6_placeBehind_1 : decode cX6_placeBehind 1 = .ok (.iload_n 1, 1) := by decide +kernel
theorem dX6_placeBehind_2 : decode cX6_placeBehind 2 = .ok (.iconst 1, 1) := by decide +kernel
theorem dX6_placeBehind_3 : decode cX6_placeBehind 3 = .ok (.iadd, 1) := by decide +kernel
theorem dX6_placeBehind_4 : decode cX6_placeBehind 4 = .ok (.invokevirtual 61, 3) := by decide +kernel
theorem dX6_placeBehind_7 : decode cX6_placeBehind 7 = .ok (.ifCond .eq 14, 3) := by decide +kernel
theorem dX6_placeBehind_10 : decode cX6_placeBehind 10 = .ok (.aload_n 0, 1) := by decide +kernel
theorem dX6_placeBehind_11 : decode cX6_placeBehind 11 = .ok (.getfield 17, 3) := by decide +kernel
theorem dX6_placeBehind_14 : decode cX6_placeBehind 14 = .ok (.iload_n 1, 1) := by decide +kernel
theorem dX6_placeBehind_15 : decode cX6_placeBehind 15 = .ok (.iconst 1, 1) := by decide +kernel
theorem dX6_placeBehind_16 : decode cX6_placeBehind 16 = .ok (.iadd, 1) := by decide +kernel
theorem dX6_placeBehind_17 : decode cX6_placeBehind 17 = .ok (.iaload, 1) := by decide +kernel
theorem dX6_placeBehind_18 : decode cX6_placeBehind 18 = .ok (.goto 7, 3) := by decide +kernel
theorem dX6_placeBehind_21 : decode cX6_placeBehind 21 = .ok (.aload_n 0, 1) := by decide +kernel
theorem dX6_placeBehind_22 : decode cX6_placeBehind 22 = .ok (.getfield 21, 3) := by decide +kernel
theorem dX6_placeBehind_25 : decode cX6_placeBehind 25 = .ok (.ireturn, 1) := by decide +kernel
theorem dX6_stepAt_0 : decode cX6_stepAt 0 = .ok (.iload_n 1, 1) := by decide +kernel
theorem dX6_stepAt_1 : decode cX6_stepAt 1 = .ok (.ifCond .lt 27, 3) := by decide +kernel
theorem dX6_stepAt_4 : decode cX6_stepAt 4 = .ok (.iload_n 1, 1) := by decide +kernel
theorem dX6_stepAt_5 : decode cX6_stepAt 5 = .ok (.aload_n 0, 1) := by decide +kernel
theorem dX6_stepAt_6 : decode cX6_stepAt 6 = .ok (.getfield 21, 3) := by decide +kernel
theorem dX6_stepAt_9 : decode cX6_stepAt 9 = .ok (.if_icmp .ge 19, 3) := by decide +kernel
theorem dX6_stepAt_12 : decode cX6_stepAt 12 = .ok (.iload_n 1, 1) := by decide +kernel
theorem dX6_stepAt_13 : decode cX6_stepAt 13 = .ok (.sipush 2000, 3) := by decide +kernel
theorem dX6_stepAt_16 : decode cX6_stepAt 16 = .ok (.if_icmp .ge 12, 3) := by decide +kernel
theorem dX6_stepAt_19 : decode cX6_stepAt 19 = .ok (.aload_n 0, 1) := by decide +kernel
theorem dX6_stepAt_20 : decode cX6_stepAt 20 = .ok (.getfield 11, 3) := by decide +kernel
theorem dX6_stepAt_23 : decode cX6_stepAt 23 = .ok (.iload_n 1, 1) := by decide +kernel
theorem dX6_stepAt_24 : decode cX6_stepAt 24 = .ok (.aaload, 1) := by decide +kernel
theorem dX6_stepAt_25 : decode cX6_stepAt 25 = .ok (.goto 4, 3) := by decide +kernel
theorem dX6_stepAt_28 : decode cX6_stepAt 28 = .ok (.aconst_null, 1) := by decide +kernel
theorem dX6_stepAt_29 : decode cX6_stepAt 29 = .ok (.areturn, 1) := by decide +kernel
theorem dX7_init_0 : decode cX7_init 0 = .ok (.aload_n 0, 1) := by decide +kernel
theorem dX7_init_1 : decode cX7_init 1 = .ok (.invokespecial 1, 3) := by decide +kernel
theorem dX7_init_4 : decode cX7_init 4 = .ok (.aload_n 0, 1) := by decide +kernel
theorem dX7_init_5 : decode cX7_init 5 = .ok (.iconst (-1), 1) := by decide +kernel
theorem dX7_init_6 : decode cX7_init 6 = .ok (.putfield 7, 3) := by decide +kernel
theorem dX7_init_9 : decode cX7_init 9 = .ok (.aload_n 0, 1) := by decide +kernel
theorem dX7_init_10 : decode cX7_init 10 = .ok (.iconst (-1), 1) := by decide +kernel
theorem dX7_init_11 : decode cX7_init 11 = .ok (.putfield 13, 3) := by decide +kernel
theorem dX7_init_14 : decode cX7_init 14 = .ok (.aload_n 0, 1) := by decide +kernel
theorem dX7_init_15 : decode cX7_init 15 = .ok (.iconst (-1), 1) := by decide +kernel
theorem dX7_init_16 : decode cX7_init 16 = .ok (.putfield 16, 3) := by decide +kernel
theorem dX7_init_19 : decode cX7_init 19 = .ok (.aload_n 0, 1) := by decide +kernel
theorem dX7_init_20 : decode cX7_init 20 = .ok (.iload_n 1, 1) := by decide +kernel
theorem dX7_init_21 : decode cX7_init 21 = .ok (.putfield 19, 3) := by decide +kernel
theorem dX7_init_24 : decode cX7_init 24 = .ok (.aload_n 0, 1) := by decide +kernel
theorem dX7_init_25 : decode cX7_init 25 = .ok (.iload_n 2, 1) := by decide +kernel
theorem dX7_init_26 : decode cX7_init 26 = .ok (.putfield 22, 3) := by decide +kernel
theorem dX7_init_29 : decode cX7_init 29 = .ok (.aload_n 0, 1) := by decide +kernel
theorem dX7_init_30 : decode cX7_init 30 = .ok (.iload_n 3, 1) := by decide +kernel
theorem dX7_init_31 : decode cX7_init 31 = .ok (.putfield 25, 3) := by decide +kernel
theorem dX7_init_34 : decode cX7_init 34 = .ok (.aload_n 0, 1) := by decide +kernel
theorem dX7_init_35 : decode cX7_init 35 = .ok (.iload 4, 2) := by decide +kernel
theorem dX7_init_37 : decode cX7_init 37 = .ok (.putfield 28, 3) := by decide +kernel
theorem dX7_init_40 : decode cX7_init 40 = .ok (.aload_n 0, 1) := by decide +kernel
theorem dX7_init_41 : decode cX7_init 41 = .ok (.iload 5, 2) := by decide +kernel
theorem dX7_init_43 : decode cX7_init 43 = .ok (.putfield 31, 3) := by decide +kernel
theorem dX7_init_46 : decode cX7_init 46 = .ok (.return_, 1) := by decide +kernel
theorem dX8_init_0 : decode cX8_init 0 = .ok (.aload_n 0, 1) := by decide +kernel
theorem dX8_init_1 : decode cX8_init 1 = .ok (.invokespecial 3, 3) := by decide +kernel
theorem dX8_init_4 : decode cX8_init 4 = .ok (.aload_n 0, 1) := by decide +kernel
theorem dX8_init_5 : decode cX8_init 5 = .ok (.iload_n 1, 1) := by decide +kernel
theorem dX8_init_6 : decode cX8_init 6 = .ok (.putfield 9, 3) := by decide +kernel
theorem dX8_init_9 : decode cX8_init 9 = .ok (.aload_n 0, 1) := by decide +kernel
theorem dX8_init_10 : decode cX8_init 10 = .ok (.lload_n 2, 1) := by decide +kernel
theorem dX8_init_11 : decode cX8_init 11 = .ok (.putfield 15, 3) := by decide +kernel
theorem dX8_init_14 : decode cX8_init 14 = .ok (.return_, 1) := by decide +kernel
theorem dX8_rings_0 : decode cX8_rings 0 = .ok (.aload_n 0, 1) := by decide +kernel
theorem dX8_rings_1 : decode cX8_rings 1 = .ok (.getfield 9, 3) := by decide +kernel
theorem dX8_rings_4 : decode cX8_rings 4 = .ok (.iconst 1, 1) := by decide +kernel
theorem dX8_rings_5 : decode cX8_rings 5 = .ok (.if_icmp .eq 11, 3) := by decide +kernel
theorem dX8_rings_8 : decode cX8_rings 8 = .ok (.aload_n 0, 1) := by decide +kernel
theorem dX8_rings_9 : decode cX8_rings 9 = .ok (.getfield 9, 3) := by decide +kernel
theorem dX8_rings_12 : decode cX8_rings 12 = .ok (.iconst 2, 1) := by decide +kernel
theorem dX8_rings_13 : decode cX8_rings 13 = .ok (.if_icmp .ne 7, 3) := by decide +kernel
theorem dX8_rings_16 : decode cX8_rings 16 = .ok (.iconst 1, 1) := by decide +kernel
theorem dX8_rings_17 : decode cX8_rings 17 = .ok (.goto 4, 3) := by decide +kernel
theorem dX8_rings_20 : decode cX8_rings 20 = .ok (.iconst 0, 1) := by decide +kernel
theorem dX8_rings_21 : decode cX8_rings 21 = .ok (.ireturn, 1) := by decide +kernel
theorem dX8_isCastAs_0 : decode cX8_isCastAs 0 = .ok (.iload_n 1, 1) := by decide +kernel
theorem dX8_isCastAs_1 : decode cX8_isCastAs 1 = .ok (.lookupswitch 54 #[(0, 27), (2, 40)], 27) := by decide +kernel
theorem dX8_isCastAs_28 : decode cX8_isCastAs 28 = .ok (.aload_n 0, 1) := by decide +kernel
theorem dX8_isCastAs_29 : decode cX8_isCastAs 29 = .ok (.getfield 9, 3) := by decide +kernel
theorem dX8_isCastAs_32 : decode cX8_isCastAs 32 = .ok (.ifCond .ne 7, 3) := by decide +kernel
theorem dX8_isCastAs_35 : decode cX8_isCastAs 35 = .ok (.iconst 1, 1) := by decide +kernel
theorem dX8_isCastAs_36 : decode cX8_isCastAs 36 = .ok (.goto 4, 3) := by decide +kernel
theorem dX8_isCastAs_39 : decode cX8_isCastAs 39 = .ok (.iconst 0, 1) := by decide +kernel
theorem dX8_isCastAs_40 : decode cX8_isCastAs 40 = .ok (.ireturn, 1) := by decide +kernel
theorem dX8_isCastAs_41 : decode cX8_isCastAs 41 = .ok (.aload_n 0, 1) := by decide +kernel
theorem dX8_isCastAs_42 : decode cX8_isCastAs 42 = .ok (.getfield 9, 3) := by decide +kernel
theorem dX8_isCastAs_45 : decode cX8_isCastAs 45 = .ok (.iconst 2, 1) := by decide +kernel
theorem dX8_isCastAs_46 : decode cX8_isCastAs 46 = .ok (.if_icmp .ne 7, 3) := by decide +kernel
theorem dX8_isCastAs_49 : decode cX8_isCastAs 49 = .ok (.iconst 1, 1) := by decide +kernel
theorem dX8_isCastAs_50 : decode cX8_isCastAs 50 = .ok (.goto 4, 3) := by decide +kernel
theorem dX8_isCastAs_53 : decode cX8_isCastAs 53 = .ok (.iconst 0, 1) := by decide +kernel
theorem dX8_isCastAs_54 : decode cX8_isCastAs 54 = .ok (.ireturn, 1) := by decide +kernel
theorem dX8_isCastAs_55 : decode cX8_isCastAs 55 = .ok (.aload_n 0, 1) := by decide +kernel
theorem dX8_isCastAs_56 : decode cX8_isCastAs 56 = .ok (.invokevirtual 19, 3) := by decide +kernel
theorem dX8_isCastAs_59 : decode cX8_isCastAs 59 = .ok (.ireturn, 1) := by decide +kernel
theorem dX8_use_0 : decode cX8_use 0 = .ok (.aload_n 0, 1) := by decide +kernel
theorem dX8_use_1 : decode cX8_use 1 = .ok (.getfield 9, 3) := by decide +kernel
theorem dX8_use_4 : decode cX8_use 4 = .ok (.lookupswitch 42 #[(0, 28), (1, 35)], 28) := by decide +kernel
theorem dX8_use_32 : decode cX8_use 32 = .ok (.aload_n 0, 1) := by decide +kernel
theorem dX8_use_33 : decode cX8_use 33 = .ok (.getfield 15, 3) := by decide +kernel
theorem dX8_use_36 : decode cX8_use 36 = .ok (.lload_n 1, 1) := by decide +kernel
theorem dX8_use_37 : decode cX8_use 37 = .ok (.ladd, 1) := by decide +kernel
theorem dX8_use_38 : decode cX8_use 38 = .ok (.lreturn, 1) := by decide +kernel
theorem dX8_use_39 : decode cX8_use 39 = .ok (.aload_n 0, 1) := by decide +kernel
theorem dX8_use_40 : decode cX8_use 40 = .ok (.getfield 15, 3) := by decide +kernel
theorem dX8_use_43 : decode cX8_use 43 = .ok (.lload_n 1, 1) := by decide +kernel
theorem dX8_use_44 : decode cX8_use 44 = .ok (.lsub, 1) := by decide +kernel
theorem dX8_use_45 : decode cX8_use 45 = .ok (.lreturn, 1) := by decide +kernel
theorem dX8_use_46 : decode cX8_use 46 = .ok (.ldc2_w 23, 3) := by decide +kernel
theorem dX8_use_49 : decode cX8_use 49 = .ok (.aload_n 0, 1) := by decide +kernel
theorem dX8_use_50 : decode cX8_use 50 = .ok (.getfield 15, 3) := by decide +kernel
theorem dX8_use_53 : decode cX8_use 53 = .ok (.lload_n 1, 1) := by decide +kernel
theorem dX8_use_54 : decode cX8_use 54 = .ok (.lsub, 1) := by decide +kernel
theorem dX8_use_55 : decode cX8_use 55 = .ok (.lmul, 1) := by decide +kernel
theorem dX8_use_56 : decode cX8_use 56 = .ok (.lreturn, 1) := by decide +kernel
theorem dX8_ring_0 : decode cX8_ring 0 = .ok (.aload_n 0, 1) := by decide +kernel
theorem dX8_ring_1 : decode cX8_ring 1 = .ok (.getfield 15, 3) := by decide +kernel
theorem dX8_ring_4 : decode cX8_ring 4 = .ok (.lload_n 1, 1) := by decide +kernel
theorem dX8_ring_5 : decode cX8_ring 5 = .ok (.lxor, 1) := by decide +kernel
theorem dX8_ring_6 : decode cX8_ring 6 = .ok (.lstore_n 3, 1) := by decide +kernel
theorem dX8_ring_7 : decode cX8_ring 7 = .ok (.aload_n 0, 1) := by decide +kernel
theorem dX8_ring_8 : decode cX8_ring 8 = .ok (.getfield 9, 3) := by decide +kernel
theorem dX8_ring_11 : decode cX8_ring 11 = .ok (.iconst 2, 1) := by decide +kernel
theorem dX8_ring_12 : decode cX8_ring 12 = .ok (.if_icmp .ne 9, 3) := by decide +kernel
theorem dX8_ring_15 : decode cX8_ring 15 = .ok (.lload_n 3, 1) := by decide +kernel
theorem dX8_ring_16 : decode cX8_ring 16 = .ok (.lconst 1, 1) := by decide +kernel
theorem dX8_ring_17 : decode cX8_ring 17 = .ok (.ladd, 1) := by decide +kernel
theorem dX8_ring_18 : decode cX8_ring 18 = .ok (.goto 4, 3) := by decide +kernel
theorem dX8_ring_21 : decode cX8_ring 21 = .ok (.lload_n 3, 1) := by decide +kernel
theorem dX8_ring_22 : decode cX8_ring 22 = .ok (.lreturn, 1) := by decide +kernel
theorem dX9_init_0 : decode cX9_init 0 = .ok (.aload_n 0, 1) := by decide +kernel
theorem dX9_init_1 : decode cX9_init 1 = .ok (.invokespecial 3, 3) := by decide +kernel
theorem dX9_init_4 : decode cX9_init 4 = .ok (.aload_n 0, 1) := by decide +kernel
theorem dX9_init_5 : decode cX9_init 5 = .ok (.new 9, 3) := by decide +kernel
theorem dX9_init_8 : decode cX9_init 8 = .ok (.dup, 1) := by decide +kernel
theorem dX9_init_9 : decode cX9_init 9 = .ok (.iconst (-1), 1) := by decide +kernel
theorem dX9_init_10 : decode cX9_init 10 = .ok (.bipush 35, 2) := by decide +kernel
theorem dX9_init_12 : decode cX9_init 12 = .ok (.iconst 0, 1) := by decide +kernel
theorem dX9_init_13 : decode cX9_init 13 = .ok (.iconst 0, 1) := by decide +kernel
theorem dX9_init_14 : decode cX9_init 14 = .ok (.iconst 1, 1) := by decide +kernel
theorem dX9_init_15 : decode cX9_init 15 = .ok (.invokespecial 11, 3) := by decide +kernel
theorem dX9_init_18 : decode cX9_init 18 = .ok (.putfield 14, 3) := by decide +kernel
theorem dX9_init_21 : decode cX9_init 21 = .ok (.aload_n 0, 1) := by decide +kernel
theorem dX9_init_22 : decode cX9_init 22 = .ok (.aload_n 1, 1) := by decide +kernel
theorem dX9_init_23 : decode cX9_init 23 = .ok (.putfield 20, 3) := by decide +kernel
theorem dX9_init_26 : decode cX9_init 26 = .ok (.aload_n 0, 1) := by decide +kernel
theorem dX9_init_27 : decode cX9_init 27 = .ok (.aload_n 2, 1) := by decide +kernel
theorem dX9_init_28 : decode cX9_init 28 = .ok (.putfield 24, 3) := by decide +kernel
theorem dX9_init_31 : decode cX9_init 31 = .ok (.aload_n 0, 1) := by decide +kernel
theorem dX9_init_32 : decode cX9_init 32 = .ok (.aload_n 3, 1) := by decide +kernel
theorem dX9_init_33 : decode cX9_init 33 = .ok (.putfield 28, 3) := by decide +kernel
theorem dX9_init_36 : decode cX9_init 36 = .ok (.return_, 1) := by decide +kernel
theorem dX9_workRun_0 : decode cX9_workRun 0 = .ok (.aload_n 0, 1) := by decide +kernel
theorem dX9_workRun_1 : decode cX9_workRun 1 = .ok (.getfield 28, 3) := by decide +kernel
theorem dX9_workRun_4 : decode cX9_workRun 4 = .ok (.invokevirtual 32, 3) := by decide +kernel
theorem dX9_workRun_7 : decode cX9_workRun 7 = .ok (.aload_n 0, 1) := by decide +kernel
theorem dX9_workRun_8 : decode cX9_workRun 8 = .ok (.iload_n 2, 1) := by decide +kernel
theorem dX9_workRun_9 : decode cX9_workRun 9 = .ok (.putfield 37, 3) := by decide +kernel
theorem dX9_workRun_12 : decode cX9_workRun 12 = .ok (.aload_n 0, 1) := by decide +kernel
theorem dX9_workRun_13 : decode cX9_workRun 13 = .ok (.iconst 0, 1) := by decide +kernel
theorem dX9_workRun_14 : decode cX9_workRun 14 = .ok (.putfield 41, 3) := by decide +kernel
theorem dX9_workRun_17 : decode cX9_workRun 17 = .ok (.aload_n 0, 1) := by decide +kernel
theorem dX9_workRun_18 : decode cX9_workRun 18 = .ok (.aconst_null, 1) := by decide +kernel
theorem dX9_workRun_19 : decode cX9_workRun 19 = .ok (.putfield 44, 3) := by decide +kernel
theorem dX9_workRun_22 : decode cX9_workRun 22 = .ok (.aload_n 0, 1) := by decide +kernel
theorem dX9_workRun_23 : decode cX9_workRun 23 = .ok (.iload_n 1, 1) := by decide +kernel
theorem dX9_workRun_24 : decode cX9_workRun 24 = .ok (.aload_n 0, 1) := by decide +kernel
theorem dX9_workRun_25 : decode cX9_workRun 25 = .ok (.getfield 14, 3) := by decide +kernel
theorem dX9_workRun_28 : decode cX9_workRun 28 = .ok (.invokevirtual 48, 3) := by decide +kernel
theorem dX9_workRun_31 : decode cX9_workRun 31 = .ok (.iconst 0, 1) := by decide +kernel
theorem dX9_workRun_32 : decode cX9_workRun 32 = .ok (.istore_n 3, 1) := by decide +kernel
theorem dX9_workRun_33 : decode cX9_workRun 33 = .ok (.iload_n 3, 1) := by decide +kernel
theorem dX9_workRun_34 : decode cX9_workRun 34 = .ok (.ldc 52, 2) := by decide +kernel
theorem dX9_workRun_36 : decode cX9_workRun 36 = .ok (.if_icmp .ge 95, 3) := by decide +kernel
theorem dX9_workRun_39 : decode cX9_workRun 39 = .ok (.aload_n 0, 1) := by decide +kernel
theorem dX9_workRun_40 : decode cX9_workRun 40 = .ok (.getfield 44, 3) := by decide +kernel
theorem dX9_workRun_43 : decode cX9_workRun 43 = .ok (.ifnull 88, 3) := by decide +kernel
theorem dX9_workRun_46 : decode cX9_workRun 46 = .ok (.aload_n 0, 1) := by decide +kernel
theorem dX9_workRun_47 : decode cX9_workRun 47 = .ok (.getfield 44, 3) := by decide +kernel
theorem dX9_workRun_50 : decode cX9_workRun 50 = .ok (.astore 4, 2) := by decide +kernel
theorem dX9_workRun_52 : decode cX9_workRun 52 = .ok (.aload_n 0, 1) := by decide +kernel
theorem dX9_workRun_53 : decode cX9_workRun 53 = .ok (.getfield 53, 3) := by decide +kernel
theorem dX9_workRun_56 : decode cX9_workRun 56 = .ok (.aload 4, 2) := by decide +kernel
theorem dX9_workRun_58 : decode cX9_workRun 58 = .ok (.getfield 56, 3) := by decide +kernel
theorem dX9_workRun_61 : decode cX9_workRun 61 = .ok (.if_icmp .ge 17, 3) := by decide +kernel
theorem dX9_workRun_64 : decode cX9_workRun 64 = .ok (.aload_n 0, 1) := by decide +kernel
theorem dX9_workRun_65 : decode cX9_workRun 65 = .ok (.getfield 20, 3) := by decide +kernel
theorem dX9_workRun_68 : decode cX9_workRun 68 = .ok (.aload_n 0, 1) := by decide +kernel
theorem dX9_workRun_69 : decode cX9_workRun 69 = .ok (.getfield 53, 3) := by decide +kernel
theorem dX9_workRun_72 : decode cX9_workRun 72 = .ok (.invokevirtual 61, 3) := by decide +kernel
theorem dX9_workRun_75 : decode cX9_workRun 75 = .ok (.goto 4, 3) := by decide +kernel
theorem dX9_workRun_78 : decode cX9_workRun 78 = .ok (.aconst_null, 1) := by decide +kernel
theorem dX9_workRun_79 : decode cX9_workRun 79 = .ok (.astore 5, 2) := by decide +kernel
theorem dX9_workRun_81 : decode cX9_workRun 81 = .ok (.aload_n 0, 1) := by decide +kernel
theorem dX9_workRun_82 : decode cX9_workRun 82 = .ok (.getfield 67, 3) := by decide +kernel
theorem dX9_workRun_85 : decode cX9_workRun 85 = .ok (.ifCond .eq 12, 3) := by decide +kernel
theorem dX9_workRun_88 : decode cX9_workRun 88 = .ok (.aload_n 0, 1) := by decide +kernel
theorem dX9_workRun_89 : decode cX9_workRun 89 = .ok (.aload 4, 2) := by decide +kernel
theorem dX9_workRun_91 : decode cX9_workRun 91 = .ok (.invokevirtual 70, 3) := by decide +kernel
theorem dX9_workRun_94 : decode cX9_workRun 94 = .ok (.goto 31, 3) := by decide +kernel
theorem dX9_workRun_97 : decode cX9_workRun 97 = .ok (.aload 5, 2) := by decide +kernel
theorem dX9_workRun_99 : decode cX9_workRun 99 = .ok (.ifnonnull 11, 3) := by decide +kernel
theorem dX9_workRun_102 : decode cX9_workRun 102 = .ok (.aload_n 0, 1) := by decide +kernel
theorem dX9_workRun_103 : decode cX9_workRun 103 = .ok (.iconst 1, 1) := by decide +kernel
theorem dX9_workRun_104 : decode cX9_workRun 104 = .ok (.putfield 67, 3) := by decide +kernel
theorem dX9_workRun_107 : decode cX9_workRun 107 = .ok (.goto 18, 3) := by decide +kernel
theorem dX9_workRun_110 : decode cX9_workRun 110 = .ok (.aload_n 0, 1) := by decide +kernel
theorem dX9_workRun_111 : decode cX9_workRun 111 = .ok (.invokevirtual 74, 3) := by decide +kernel
theorem dX9_workRun_114 : decode cX9_workRun 114 = .ok (.ifCond .eq 11, 3) := by decide +kernel
theorem dX9_workRun_117 : decode cX9_workRun 117 = .ok (.aload_n 0, 1) := by decide +kernel
theorem dX9_workRun_118 : decode cX9_workRun 118 = .ok (.aload 4, 2) := by decide +kernel
theorem dX9_workRun_120 : decode cX9_workRun 120 = .ok (.aload 5, 2) := by decide +kernel
theorem dX9_workRun_122 : decode cX9_workRun 122 = .ok (.invokevirtual 78, 3) := by decide +kernel
theorem dX9_workRun_125 : decode cX9_workRun 125 = .ok (.iinc 3 1, 3) := by decide +kernel
theorem dX9_workRun_128 : decode cX9_workRun 128 = .ok (.goto (-95), 3) := by decide +kernel
theorem dX9_workRun_131 : decode cX9_workRun 131 = .ok (.iload_n 2, 1) := by decide +kernel
theorem dX9_workRun_132 : decode cX9_workRun 132 = .ok (.aload_n 0, 1) := by decide +kernel
theorem dX9_workRun_133 : decode cX9_workRun 133 = .ok (.getfield 37, 3) := by decide +kernel
theorem dX9_workRun_136 : decode cX9_workRun 136 = .ok (.isub, 1) := by decide +kernel
theorem dX9_workRun_137 : decode cX9_workRun 137 = .ok (.ireturn, 1) := by decide +kernel
theorem dX9_takeStep_0 : decode cX9_takeStep 0 = .ok (.aload_n 0, 1) := by decide +kernel
theorem dX9_takeStep_1 : decode cX9_takeStep 1 = .ok (.getfield 37, 3) := by decide +kernel
theorem dX9_takeStep_4 : decode cX9_takeStep 4 = .ok (.ifCond .gt 10, 3) := by decide +kernel
theorem dX9_takeStep_7 : decode cX9_takeStep 7 = .ok (.aload_n 0, 1) := by decide +kernel
theorem dX9_takeStep_8 : decode cX9_takeStep 8 = .ok (.iconst 3, 1) := by decide +kernel
theorem dX9_takeStep_9 : decode cX9_takeStep 9 = .ok (.invokevirtual 82, 3) := by decide +kernel
theorem dX9_takeStep_12 : decode cX9_takeStep 12 = .ok (.iconst 0, 1) := by decide +kernel
theorem dX9_takeStep_13 : decode cX9_takeStep 13 = .ok (.ireturn, 1) := by decide +kernel
theorem dX9_takeStep_14 : decode cX9_takeStep 14 = .ok (.aload_n 0, 1) := by decide +kernel
theorem dX9_takeStep_15 : decode cX9_takeStep 15 = .ok (.dup, 1) := by decide +kernel
theorem dX9_takeStep_16 : decode cX9_takeStep 16 = .ok (.getfield 37, 3) := by decide +kernel
theorem dX9_takeStep_19 : decode cX9_takeStep 19 = .ok (.iconst 1, 1) := by decide +kernel
theorem dX9_takeStep_20 : decode cX9_takeStep 20 = .ok (.isub, 1) := by decide +kernel
theorem dX9_takeStep_21 : decode cX9_takeStep 21 = .ok (.putfield 37, 3) := by decide +kernel
theorem dX9_takeStep_24 : decode cX9_takeStep 24 = .ok (.iconst 1, 1) := by decide +kernel
theorem dX9_takeStep_25 : decode cX9_takeStep 25 = .ok (.ireturn, 1) := by decide +kernel
theorem dX9_stop_0 : decode cX9_stop 0 = .ok (.aload_n 0, 1) := by decide +kernel
theorem dX9_stop_1 : decode cX9_stop 1 = .ok (.getfield 28, 3) := by decide +kernel
theorem dX9_stop_4 : decode cX9_stop 4 = .ok (.iload_n 1, 1) := by decide +kernel
theorem dX9_stop_5 : decode cX9_stop 5 = .ok (.putfield 86, 3) := by decide +kernel
theorem dX9_stop_8 : decode cX9_stop 8 = .ok (.aload_n 0, 1) := by decide +kernel
theorem dX9_stop_9 : decode cX9_stop 9 = .ok (.aconst_null, 1) := by decide +kernel
theorem dX9_stop_10 : decode cX9_stop 10 = .ok (.putfield 44, 3) := by decide +kernel
theorem dX9_stop_13 : decode cX9_stop 13 = .ok (.return_, 1) := by decide +kernel
theorem dX9_workStep_0 : decode cX9_workStep 0 = .ok (.aload_n 2, 1) := by decide +kernel
theorem dX9_workStep_1 : decode cX9_workStep 1 = .ok (.getfield 89, 3) := by decide +kernel
theorem dX9_workStep_4 : decode cX9_workStep 4 = .ok (.tableswitch 301 0 35 #[160, 301, 301, 301, 301, 301, 301, 301, 301, 301, 301, 301, 301, 301, 301, 301, 301, 301, 301, 301, 301, 301, 191, 205, 215, 232, 288, 288, 288, 232, 232, 288, 241, 249, 257, 280], 160) := by decide +kernel
theorem dX9_workStep_164 : decode cX9_workStep 164 = .ok (.aload_n 0, 1) := by decide +kernel
theorem dX9_workStep_165 : decode cX9_workStep 165 = .ok (.getfield 28, 3) := by decide +kernel
theorem dX9_workStep_168 : decode cX9_workStep 168 = .ok (.aload_n 0, 1) := by decide +kernel
theorem dX9_workStep_169 : decode cX9_workStep 169 = .ok (.getfield 24, 3) := by decide +kernel
theorem dX9_workStep_172 : decode cX9_workStep 172 = .ok (.aload_n 2, 1) := by decide +kernel
theorem dX9_workStep_173 : decode cX9_workStep 173 = .ok (.getfield 92, 3) := by decide +kernel
theorem dX9_workStep_176 : decode cX9_workStep 176 = .ok (.invokevirtual 95, 3) := by decide +kernel
theorem dX9_workStep_179 : decode cX9_workStep 179 = .ok (.invokevirtual 101, 3) := by decide +kernel
theorem dX9_workStep_182 : decode cX9_workStep 182 = .ok (.aload_n 0, 1) := by decide +kernel
theorem dX9_workStep_183 : decode cX9_workStep 183 = .ok (.dup, 1) := by decide +kernel
theorem dX9_workStep_184 : decode cX9_workStep 184 = .ok (.getfield 53, 3) := by decide +kernel
theorem dX9_workStep_187 : decode cX9_workStep 187 = .ok (.iconst 1, 1) := by decide +kernel
theorem dX9_workStep_188 : decode cX9_workStep 188 = .ok (.iadd, 1) := by decide +kernel
theorem dX9_workStep_189 : decode cX9_workStep 189 = .ok (.putfield 53, 3) := by decide +kernel
theorem dX9_workStep_192 : decode cX9_workStep 192 = .ok (.goto 125, 3) := by decide +kernel
theorem dX9_workStep_195 : decode cX9_workStep 195 = .ok (.aload_n 0, 1) := by decide +kernel
theorem dX9_workStep_196 : decode cX9_workStep 196 = .ok (.aload_n 2, 1) := by decide +kernel
theorem dX9_workStep_197 : decode cX9_workStep 197 = .ok (.getfield 92, 3) := by decide +kernel
theorem dX9_workStep_200 : decode cX9_workStep 200 = .ok (.iconst 3, 1) := by decide +kernel
theorem dX9_workStep_201 : decode cX9_workStep 201 = .ok (.iand, 1) := by decide +kernel
theorem dX9_workStep_202 : decode cX9_workStep 202 = .ok (.aconst_null, 1) := by decide +kernel
theorem dX9_workStep_203 : decode cX9_workStep 203 = .ok (.invokevirtual 105, 3) := by decide +kernel
theorem dX9_workStep_206 : decode cX9_workStep 206 = .ok (.goto 111, 3) := by decide +kernel
theorem dX9_workStep_209 : decode cX9_workStep 209 = .ok (.aload_n 0, 1) := by decide +kernel
theorem dX9_workStep_210 : decode cX9_workStep 210 = .ok (.bipush 6, 2) := by decide +kernel
theorem dX9_workStep_212 : decode cX9_workStep 212 = .ok (.aconst_null, 1) := by decide +kernel
theorem dX9_workStep_213 : decode cX9_workStep 213 = .ok (.invokevirtual 105, 3) := by decide +kernel
theorem dX9_workStep_216 : decode cX9_workStep 216 = .ok (.goto 101, 3) := by decide +kernel
theorem dX9_workStep_219 : decode cX9_workStep 219 = .ok (.aload_n 0, 1) := by decide +kernel
theorem dX9_workStep_220 : decode cX9_workStep 220 = .ok (.aload_n 2, 1) := by decide +kernel
theorem dX9_workStep_221 : decode cX9_workStep 221 = .ok (.getfield 92, 3) := by decide +kernel
theorem dX9_workStep_224 : decode cX9_workStep 224 = .ok (.iconst 3, 1) := by decide +kernel
theorem dX9_workStep_225 : decode cX9_workStep 225 = .ok (.iand, 1) := by decide +kernel
theorem dX9_workStep_226 : decode cX9_workStep 226 = .ok (.aload_n 0, 1) := by decide +kernel
theorem dX9_workStep_227 : decode cX9_workStep 227 = .ok (.invokevirtual 109, 3) := by decide +kernel
theorem dX9_workStep_230 : decode cX9_workStep 230 = .ok (.invokevirtual 105, 3) := by decide +kernel
theorem dX9_workStep_233 : decode cX9_workStep 233 = .ok (.goto 84, 3) := by decide +kernel
theorem dX9_workStep_236 : decode cX9_workStep 236 = .ok (.aload_n 0, 1) := by decide +kernel
theorem dX9_workStep_237 : decode cX9_workStep 237 = .ok (.aload_n 1, 1) := by decide +kernel
theorem dX9_workStep_238 : decode cX9_workStep 238 = .ok (.aload_n 2, 1) := by decide +kernel
theorem dX9_workStep_239 : decode cX9_workStep 239 = .ok (.invokevirtual 113, 3) := by decide +kernel
theorem dX9_workStep_242 : decode cX9_workStep 242 = .ok (.goto 75, 3) := by decide +kernel
theorem dX9_workStep_245 : decode cX9_workStep 245 = .ok (.aload_n 0, 1) := by decide +kernel
theorem dX9_workStep_246 : decode cX9_workStep 246 = .ok (.iconst 3, 1) := by decide +kernel
theorem dX9_workStep_247 : decode cX9_workStep 247 = .ok (.putfield 67, 3) := by decide +kernel
theorem dX9_workStep_250 : decode cX9_workStep 250 = .ok (.goto 67, 3) := by decide +kernel
theorem dX9_workStep_253 : decode cX9_workStep 253 = .ok (.aload_n 0, 1) := by decide +kernel
theorem dX9_workStep_254 : decode cX9_workStep 254 = .ok (.iconst 4, 1) := by decide +kernel
theorem dX9_workStep_255 : decode cX9_workStep 255 = .ok (.putfield 67, 3) := by decide +kernel
theorem dX9_workStep_258 : decode cX9_workStep 258 = .ok (.goto 59, 3) := by decide +kernel
theorem dX9_workStep_261 : decode cX9_workStep 261 = .ok (.aload_n 0, 1) := by decide +kernel
theorem dX9_workStep_262 : decode cX9_workStep 262 = .ok (.iconst 5, 1) := by decide +kernel
theorem dX9_workStep_263 : decode cX9_workStep 263 = .ok (.putfield 67, 3) := by decide +kernel
theorem dX9_workStep_266 : decode cX9_workStep 266 = .ok (.aload_n 0, 1) := by decide +kernel
theorem dX9_workStep_267 : decode cX9_workStep 267 = .ok (.aload_n 0, 1) := by decide +kernel
theorem dX9_workStep_268 : decode cX9_workStep 268 = .ok (.getfield 24, 3) := by decide +kernel
theorem dX9_workStep_271 : decode cX9_workStep 271 = .ok (.aload_n 2, 1) := by decide +kernel
theorem dX9_workStep_272 : decode cX9_workStep 272 = .ok (.getfield 92, 3) := by decide +kernel
theorem dX9_workStep_275 : decode cX9_workStep 275 = .ok (.invokevirtual 95, 3) := by decide +kernel
theorem dX9_workStep_278 : decode cX9_workStep 278 = .ok (.putfield 116, 3) := by decide +kernel
theorem dX9_workStep_281 : decode cX9_workStep 281 = .ok (.goto 36, 3) := by decide +kernel
theorem dX9_workStep_284 : decode cX9_workStep 284 = .ok (.aload_n 0, 1) := by decide +kernel
theorem dX9_workStep_285 : decode cX9_workStep 285 = .ok (.aload_n 2, 1) := by decide +kernel
theorem dX9_workStep_286 : decode cX9_workStep 286 = .ok (.invokevirtual 120, 3) := by decide +kernel
theorem dX9_workStep_289 : decode cX9_workStep 289 = .ok (.goto 28, 3) := by decide +kernel
theorem dX9_workStep_292 : decode cX9_workStep 292 = .ok (.aload_n 0, 1) := by decide +kernel
theorem dX9_workStep_293 : decode cX9_workStep 293 = .ok (.dup, 1) := by decide +kernel
theorem dX9_workStep_294 : decode cX9_workStep 294 = .ok (.getfield 53, 3) := by decide +kernel
theorem dX9_workStep_297 : decode cX9_workStep 297 = .ok (.iconst 1, 1) := by decide +kernel
theorem dX9_workStep_298 : decode cX9_workStep 298 = .ok (.iadd, 1) := by decide +kernel
theorem dX9_workStep_299 : decode cX9_workStep 299 = .ok (.putfield 53, 3) := by decide +kernel
theorem dX9_workStep_302 : decode cX9_workStep 302 = .ok (.goto 15, 3) := by decide +kernel
theorem dX9_workStep_305 : decode cX9_workStep 305 = .ok (.aload_n 0, 1) := by decide +kernel
theorem dX9_workStep_306 : decode cX9_workStep 306 = .ok (.aload_n 0, 1) := by decide +kernel
theorem dX9_workStep_307 : decode cX9_workStep 307 = .ok (.getfield 24, 3) := by decide +kernel
theorem dX9_workStep_310 : decode cX9_workStep 310 = .ok (.aload_n 2, 1) := by decide +kernel
theorem dX9_workStep_311 : decode cX9_workStep 311 = .ok (.invokevirtual 124, 3) := by decide +kernel
theorem dX9_workStep_314 : decode cX9_workStep 314 = .ok (.invokevirtual 127, 3) := by decide +kernel
theorem dX9_workStep_317 : decode cX9_workStep 317 = .ok (.return_, 1) := by decide +kernel
theorem dX9_goBehind_0 : decode cX9_goBehind 0 = .ok (.iload_n 1, 1) := by decide +kernel
theorem dX9_goBehind_1 : decode cX9_goBehind 1 = .ok (.iconst (-1), 1) := by decide +kernel
theorem dX9_goBehind_2 : decode cX9_goBehind 2 = .ok (.if_icmp .ne 16, 3) := by decide +kernel
theorem dX9_goBehind_5 : decode cX9_goBehind 5 = .ok (.aload_n 0, 1) := by decide +kernel
theorem dX9_goBehind_6 : decode cX9_goBehind 6 = .ok (.dup, 1) := by decide +kernel
theorem dX9_goBehind_7 : decode cX9_goBehind 7 = .ok (.getfield 53, 3) := by decide +kernel
theorem dX9_goBehind_10 : decode cX9_goBehind 10 = .ok (.iconst 1, 1) := by decide +kernel
theorem dX9_goBehind_11 : decode cX9_goBehind 11 = .ok (.iadd, 1) := by decide +kernel
theorem dX9_goBehind_12 : decode cX9_goBehind 12 = .ok (.putfield 53, 3) := by decide +kernel
theorem dX9_goBehind_15 : decode cX9_goBehind 15 = .ok (.goto 9, 3) := by decide +kernel
theorem dX9_goBehind_18 : decode cX9_goBehind 18 = .ok (.aload_n 0, 1) := by decide +kernel
theorem dX9_goBehind_19 : decode cX9_goBehind 19 = .ok (.iload_n 1, 1) := by decide +kernel
theorem dX9_goBehind_20 : decode cX9_goBehind 20 = .ok (.aconst_null, 1) := by decide +kernel
theorem dX9_goBehind_21 : decode cX9_goBehind 21 = .ok (.invokevirtual 105, 3) := by decide +kernel
theorem dX9_goBehind_24 : decode cX9_goBehind 24 = .ok (.return_, 1) := by decide +kernel
theorem dX9_fail_0 : decode cX9_fail 0 = .ok (.aload_n 0, 1) := by decide +kernel
theorem dX9_fail_1 : decode cX9_fail 1 = .ok (.new 130, 3) := by decide +kernel
theorem dX9_fail_4 : decode cX9_fail 4 = .ok (.dup, 1) := by decide +kernel
theorem dX9_fail_5 : decode cX9_fail 5 = .ok (.iload_n 1, 1) := by decide +kernel
theorem dX9_fail_6 : decode cX9_fail 6 = .ok (.aload_n 2, 1) := by decide +kernel
theorem dX9_fail_7 : decode cX9_fail 7 = .ok (.invokespecial 132, 3) := by decide +kernel
theorem dX9_fail_10 : decode cX9_fail 10 = .ok (.putfield 134, 3) := by decide +kernel
theorem dX9_fail_13 : decode cX9_fail 13 = .ok (.aload_n 0, 1) := by decide +kernel
theorem dX9_fail_14 : decode cX9_fail 14 = .ok (.iconst 2, 1) := by decide +kernel
theorem dX9_fail_15 : decode cX9_fail 15 = .ok (.putfield 67, 3) := by decide +kernel
theorem dX9_fail_18 : decode cX9_fail 18 = .ok (.return_, 1) := by decide +kernel
theorem dX9_failureAtWork_0 : decode cX9_failureAtWork 0 = .ok (.aload_n 0, 1) := by decide +kernel
theorem dX9_failureAtWork_1 : decode cX9_failureAtWork 1 = .ok (.getfield 44, 3) := by decide +kernel
theorem dX9_failureAtWork_4 : decode cX9_failureAtWork 4 = .ok (.astore_n 1, 1) := by decide +kernel
theorem dX9_failureAtWork_5 : decode cX9_failureAtWork 5 = .ok (.aload_n 1, 1) := by decide +kernel
theorem dX9_failureAtWork_6 : decode cX9_failureAtWork 6 = .ok (.ifnull 24, 3) := by decide +kernel
theorem dX9_failureAtWork_9 : decode cX9_failureAtWork 9 = .ok (.aload_n 1, 1) := by decide +kernel
theorem dX9_failureAtWork_10 : decode cX9_failureAtWork 10 = .ok (.getfield 138, 3) := by decide +kernel
theorem dX9_failureAtWork_13 : decode cX9_failureAtWork 13 = .ok (.iconst 1, 1) := by decide +kernel
theorem dX9_failureAtWork_14 : decode cX9_failureAtWork 14 = .ok (.if_icmp .ne 8, 3) := by decide +kernel
theorem dX9_failureAtWork_17 : decode cX9_failureAtWork 17 = .ok (.aload_n 1, 1) := by decide +kernel
theorem dX9_failureAtWork_18 : decode cX9_failureAtWork 18 = .ok (.getfield 141, 3) := by decide +kernel
theorem dX9_failureAtWork_21 : decode cX9_failureAtWork 21 = .ok (.areturn, 1) := by decide +kernel
theorem dX9_failureAtWork_22 : decode cX9_failureAtWork 22 = .ok (.aload_n 1, 1) := by decide +kernel
theorem dX9_failureAtWork_23 : decode cX9_failureAtWork 23 = .ok (.getfield 144, 3) := by decide +kernel
theorem dX9_failureAtWork_26 : decode cX9_failureAtWork 26 = .ok (.astore_n 1, 1) := by decide +kernel
theorem dX9_failureAtWork_27 : decode cX9_failureAtWork 27 = .ok (.goto (-22), 3) := by decide +kernel
theorem dX9_failureAtWork_30 : decode cX9_failureAtWork 30 = .ok (.aconst_null, 1) := by decide +kernel
theorem dX9_failureAtWork_31 : decode cX9_failureAtWork 31 = .ok (.areturn, 1) := by decide +kernel
theorem dX9_callRoutine_0 : decode cX9_callRoutine 0 = .ok (.aload_n 0, 1) := by decide +kernel
theorem dX9_callRoutine_1 : decode cX9_callRoutine 1 = .ok (.getfield 20, 3) := by decide +kernel
theorem dX9_callRoutine_4 : decode cX9_callRoutine 4 = .ok (.aload_n 1, 1) := by decide +kernel
theorem dX9_callRoutine_5 : decode cX9_callRoutine 5 = .ok (.getfield 92, 3) := by decide +kernel
theorem dX9_callRoutine_8 : decode cX9_callRoutine 8 = .ok (.invokevirtual 147, 3) := by decide +kernel
theorem dX9_callRoutine_11 : decode cX9_callRoutine 11 = .ok (.ifCond .eq 15, 3) := by decide +kernel
theorem dX9_callRoutine_14 : decode cX9_callRoutine 14 = .ok (.aload_n 0, 1) := by decide +kernel
theorem dX9_callRoutine_15 : decode cX9_callRoutine 15 = .ok (.aload_n 1, 1) := by decide +kernel
theorem dX9_callRoutine_16 : decode cX9_callRoutine 16 = .ok (.getfield 92, 3) := by decide +kernel
theorem dX9_callRoutine_19 : decode cX9_callRoutine 19 = .ok (.aload_n 1, 1) := by decide +kernel
theorem dX9_callRoutine_20 : decode cX9_callRoutine 20 = .ok (.invokevirtual 48, 3) := by decide +kernel
theorem dX9_callRoutine_23 : decode cX9_callRoutine 23 = .ok (.goto 10, 3) := by decide +kernel
theorem dX9_callRoutine_26 : decode cX9_callRoutine 26 = .ok (.aload_n 0, 1) := by decide +kernel
theorem dX9_callRoutine_27 : decode cX9_callRoutine 27 = .ok (.bipush 6, 2) := by decide +kernel
theorem dX9_callRoutine_29 : decode cX9_callRoutine 29 = .ok (.aconst_null, 1) := by decide +kernel
theorem dX9_callRoutine_30 : decode cX9_callRoutine 30 = .ok (.invokevirtual 105, 3) := by decide +kernel
theorem dX9_callRoutine_33 : decode cX9_callRoutine 33 = .ok (.return_, 1) := by decide +kernel
theorem dX9_enterRoutine_0 : decode cX9_enterRoutine 0 = .ok (.aload_n 0, 1) := by decide +kernel
theorem dX9_enterRoutine_1 : decode cX9_enterRoutine 1 = .ok (.new 57, 3) := by decide +kernel
theorem dX9_enterRoutine_4 : decode cX9_enterRoutine 4 = .ok (.dup, 1) := by decide +kernel
theorem dX9_enterRoutine_5 : decode cX9_enterRoutine 5 = .ok (.aload_n 2, 1) := by decide +kernel
theorem dX9_enterRoutine_6 : decode cX9_enterRoutine 6 = .ok (.aload_n 0, 1) := by decide +kernel
theorem dX9_enterRoutine_7 : decode cX9_enterRoutine 7 = .ok (.getfield 44, 3) := by decide +kernel
theorem dX9_enterRoutine_10 : decode cX9_enterRoutine 10 = .ok (.aload_n 0, 1) := by decide +kernel
theorem dX9_enterRoutine_11 : decode cX9_enterRoutine 11 = .ok (.getfield 20, 3) := by decide +kernel
theorem dX9_enterRoutine_14 : decode cX9_enterRoutine 14 = .ok (.iload_n 1, 1) := by decide +kernel
theorem dX9_enterRoutine_15 : decode cX9_enterRoutine 15 = .ok (.invokevirtual 151, 3) := by decide +kernel
theorem dX9_enterRoutine_18 : decode cX9_enterRoutine 18 = .ok (.invokespecial 155, 3) := by decide +kernel
theorem dX9_enterRoutine_21 : decode cX9_enterRoutine 21 = .ok (.aload_n 0, 1) := by decide +kernel
theorem dX9_enterRoutine_22 : decode cX9_enterRoutine 22 = .ok (.getfield 20, 3) := by decide +kernel
theorem dX9_enterRoutine_25 : decode cX9_enterRoutine 25 = .ok (.iload_n 1, 1) := by decide +kernel
theorem dX9_enterRoutine_26 : decode cX9_enterRoutine 26 = .ok (.invokevirtual 158, 3) := by decide +kernel
theorem dX9_enterRoutine_29 : decode cX9_enterRoutine 29 = .ok (.invokevirtual 161, 3) := by decide +kernel
theorem dX9_enterRoutine_32 : decode cX9_enterRoutine 32 = .ok (.pop, 1) := by decide +kernel
theorem dX9_enterRoutine_33 : decode cX9_enterRoutine 33 = .ok (.return_, 1) := by decide +kernel
theorem dX9_beginBlock_0 : decode cX9_beginBlock 0 = .ok (.new 57, 3) := by decide +kernel
theorem dX9_beginBlock_3 : decode cX9_beginBlock 3 = .ok (.dup, 1) := by decide +kernel
theorem dX9_beginBlock_4 : decode cX9_beginBlock 4 = .ok (.aload_n 2, 1) := by decide +kernel
theorem dX9_beginBlock_5 : decode cX9_beginBlock 5 = .ok (.aload_n 1, 1) := by decide +kernel
theorem dX9_beginBlock_6 : decode cX9_beginBlock 6 = .ok (.aload_n 1, 1) := by decide +kernel
theorem dX9_beginBlock_7 : decode cX9_beginBlock 7 = .ok (.getfield 165, 3) := by decide +kernel
theorem dX9_beginBlock_10 : decode cX9_beginBlock 10 = .ok (.invokespecial 155, 3) := by decide +kernel
theorem dX9_beginBlock_13 : decode cX9_beginBlock 13 = .ok (.astore_n 3, 1) := by decide +kernel
theorem dX9_beginBlock_14 : decode cX9_beginBlock 14 = .ok (.aload_n 3, 1) := by decide +kernel
theorem dX9_beginBlock_15 : decode cX9_beginBlock 15 = .ok (.aload_n 3, 1) := by decide +kernel
theorem dX9_beginBlock_16 : decode cX9_beginBlock 16 = .ok (.invokevirtual 168, 3) := by decide +kernel
theorem dX9_beginBlock_19 : decode cX9_beginBlock 19 = .ok (.putfield 56, 3) := by decide +kernel
theorem dX9_beginBlock_22 : decode cX9_beginBlock 22 = .ok (.aload_n 0, 1) := by decide +kernel
theorem dX9_beginBlock_23 : decode cX9_beginBlock 23 = .ok (.aload_n 3, 1) := by decide +kernel
theorem dX9_beginBlock_24 : decode cX9_beginBlock 24 = .ok (.aload_n 2, 1) := by decide +kernel
theorem dX9_beginBlock_25 : decode cX9_beginBlock 25 = .ok (.getfield 172, 3) := by decide +kernel
theorem dX9_beginBlock_28 : decode cX9_beginBlock 28 = .ok (.iconst 1, 1) := by decide +kernel
theorem dX9_beginBlock_29 : decode cX9_beginBlock 29 = .ok (.iadd, 1) := by decide +kernel
theorem dX9_beginBlock_30 : decode cX9_beginBlock 30 = .ok (.invokevirtual 161, 3) := by decide +kernel
theorem dX9_beginBlock_33 : decode cX9_beginBlock 33 = .ok (.ifCond .ne 4, 3) := by decide +kernel
theorem dX9_beginBlock_36 : decode cX9_beginBlock 36 = .ok (.return_, 1) := by decide +kernel
theorem dX9_beginBlock_37 : decode cX9_beginBlock 37 = .ok (.aload_n 2, 1) := by decide +kernel
theorem dX9_beginBlock_38 : decode cX9_beginBlock 38 = .ok (.getfield 89, 3) := by decide +kernel
theorem dX9_beginBlock_41 : decode cX9_beginBlock 41 = .ok (.bipush 29, 2) := by decide +kernel
theorem dX9_beginBlock_43 : decode cX9_beginBlock 43 = .ok (.if_icmp .ne 11, 3) := by decide +kernel
theorem dX9_beginBlock_46 : decode cX9_beginBlock 46 = .ok (.aload_n 0, 1) := by decide +kernel
theorem dX9_beginBlock_47 : decode cX9_beginBlock 47 = .ok (.aload_n 3, 1) := by decide +kernel
theorem dX9_beginBlock_48 : decode cX9_beginBlock 48 = .ok (.invokevirtual 173, 3) := by decide +kernel
theorem dX9_beginBlock_51 : decode cX9_beginBlock 51 = .ok (.goto 43, 3) := by decide +kernel
theorem dX9_beginBlock_54 : decode cX9_beginBlock 54 = .ok (.aload_n 2, 1) := by decide +kernel
theorem dX9_beginBlock_55 : decode cX9_beginBlock 55 = .ok (.getfield 89, 3) := by decide +kernel
theorem dX9_beginBlock_58 : decode cX9_beginBlock 58 = .ok (.bipush 30, 2) := by decide +kernel
theorem dX9_beginBlock_60 : decode cX9_beginBlock 60 = .ok (.if_icmp .ne 34, 3) := by decide +kernel
theorem dX9_beginBlock_63 : decode cX9_beginBlock 63 = .ok (.aload_n 0, 1) := by decide +kernel
theorem dX9_beginBlock_64 : decode cX9_beginBlock 64 = .ok (.getfield 24, 3) := by decide +kernel
theorem dX9_beginBlock_67 : decode cX9_beginBlock 67 = .ok (.aload_n 2, 1) := by decide +kernel
theorem dX9_beginBlock_68 : decode cX9_beginBlock 68 = .ok (.getfield 92, 3) := by decide +kernel
theorem dX9_beginBlock_71 : decode cX9_beginBlock 71 = .ok (.invokevirtual 95, 3) := by decide +kernel
theorem dX9_beginBlock_74 : decode cX9_beginBlock 74 = .ok (.aload_n 0, 1) := by decide +kernel
theorem dX9_beginBlock_75 : decode cX9_beginBlock 75 = .ok (.getfield 24, 3) := by decide +kernel
theorem dX9_beginBlock_78 : decode cX9_beginBlock 78 = .ok (.aload_n 2, 1) := by decide +kernel
theorem dX9_beginBlock_79 : decode cX9_beginBlock 79 = .ok (.getfield 176, 3) := by decide +kernel
theorem dX9_beginBlock_82 : decode cX9_beginBlock 82 = .ok (.invokevirtual 95, 3) := by decide +kernel
theorem dX9_beginBlock_85 : decode cX9_beginBlock 85 = .ok (.lcmp, 1) := by decide +kernel
theorem dX9_beginBlock_86 : decode cX9_beginBlock 86 = .ok (.ifCond .lt 8, 3) := by decide +kernel
theorem dX9_beginBlock_89 : decode cX9_beginBlock 89 = .ok (.aload_n 0, 1) := by decide +kernel
theorem dX9_beginBlock_90 : decode cX9_beginBlock 90 = .ok (.iconst 1, 1) := by decide +kernel
theorem dX9_beginBlock_91 : decode cX9_beginBlock 91 = .ok (.putfield 67, 3) := by decide +kernel
theorem dX9_beginBlock_94 : decode cX9_beginBlock 94 = .ok (.return_, 1) := by decide +kernel
theorem dX9_enter_0 : decode cX9_enter 0 = .ok (.aload_n 0, 1) := by decide +kernel
theorem dX9_enter_1 : decode cX9_enter 1 = .ok (.getfield 41, 3) := by decide +kernel
theorem dX9_enter_4 : decode cX9_enter 4 = .ok (.sipush 200, 3) := by decide +kernel
theorem dX9_enter_7 : decode cX9_enter 7 = .ok (.if_icmp .lt 10, 3) := by decide +kernel
theorem dX9_enter_10 : decode cX9_enter 10 = .ok (.aload_n 0, 1) := by decide +kernel
theorem dX9_enter_11 : decode cX9_enter 11 = .ok (.iconst 4, 1) := by decide +kernel
theorem dX9_enter_12 : decode cX9_enter 12 = .ok (.invokevirtual 82, 3) := by decide +kernel
theorem dX9_enter_15 : decode cX9_enter 15 = .ok (.iconst 0, 1) := by decide +kernel
theorem dX9_enter_16 : decode cX9_enter 16 = .ok (.ireturn, 1) := by decide +kernel
theorem dX9_enter_17 : decode cX9_enter 17 = .ok (.aload_n 0, 1) := by decide +kernel
theorem dX9_enter_18 : decode cX9_enter 18 = .ok (.dup, 1) := by decide +kernel
theorem dX9_enter_19 : decode cX9_enter 19 = .ok (.getfield 41, 3) := by decide +kernel
theorem dX9_enter_22 : decode cX9_enter 22 = .ok (.iconst 1, 1) := by decide +kernel
theorem dX9_enter_23 : decode cX9_enter 23 = .ok (.iadd, 1) := by decide +kernel
theorem dX9_enter_24 : decode cX9_enter 24 = .ok (.putfield 41, 3) := by decide +kernel
theorem dX9_enter_27 : decode cX9_enter 27 = .ok (.aload_n 0, 1) := by decide +kernel
theorem dX9_enter_28 : decode cX9_enter 28 = .ok (.getfield 28, 3) := by decide +kernel
theorem dX9_enter_31 : decode cX9_enter 31 = .ok (.aload_n 0, 1) := by decide +kernel
theorem dX9_enter_32 : decode cX9_enter 32 = .ok (.getfield 28, 3) := by decide +kernel
theorem dX9_enter_35 : decode cX9_enter 35 = .ok (.getfield 179, 3) := by decide +kernel
theorem dX9_enter_38 : decode cX9_enter 38 = .ok (.aload_n 0, 1) := by decide +kernel
theorem dX9_enter_39 : decode cX9_enter 39 = .ok (.getfield 41, 3) := by decide +kernel
theorem dX9_enter_42 : decode cX9_enter 42 = .ok (.invokestatic 182, 3) := by decide +kernel
theorem dX9_enter_45 : decode cX9_enter 45 = .ok (.putfield 179, 3) := by decide +kernel
theorem dX9_enter_48 : decode cX9_enter 48 = .ok (.aload_n 0, 1) := by decide +kernel
theorem dX9_enter_49 : decode cX9_enter 49 = .ok (.aload_n 1, 1) := by decide +kernel
theorem dX9_enter_50 : decode cX9_enter 50 = .ok (.putfield 44, 3) := by decide +kernel
theorem dX9_enter_53 : decode cX9_enter 53 = .ok (.aload_n 0, 1) := by decide +kernel
theorem dX9_enter_54 : decode cX9_enter 54 = .ok (.iload_n 2, 1) := by decide +kernel
theorem dX9_enter_55 : decode cX9_enter 55 = .ok (.putfield 53, 3) := by decide +kernel
theorem dX9_enter_58 : decode cX9_enter 58 = .ok (.aload_n 0, 1) := by decide +kernel
theorem dX9_enter_59 : decode cX9_enter 59 = .ok (.iconst 0, 1) := by decide +kernel
theorem dX9_enter_60 : decode cX9_enter 60 = .ok (.putfield 67, 3) := by decide +kernel
theorem dX9_enter_63 : decode cX9_enter 63 = .ok (.iconst 1, 1) := by decide +kernel
theorem dX9_enter_64 : decode cX9_enter 64 = .ok (.ireturn, 1) := by decide +kernel
theorem dX9_look_0 : decode cX9_look 0 = .ok (.aload_n 1, 1) := by decide +kernel
theorem dX9_look_1 : decode cX9_look 1 = .ok (.getfield 188, 3) := by decide +kernel
theorem dX9_look_4 : decode cX9_look 4 = .ok (.astore_n 2, 1) := by decide +kernel
theorem dX9_look_5 : decode cX9_look 5 = .ok (.aload_n 0, 1) := by decide +kernel
theorem dX9_look_6 : decode cX9_look 6 = .ok (.getfield 24, 3) := by decide +kernel
theorem dX9_look_9 : decode cX9_look 9 = .ok (.aload_n 2, 1) := by decide +kernel
theorem dX9_look_10 : decode cX9_look 10 = .ok (.getfield 92, 3) := by decide +kernel
theorem dX9_look_13 : decode cX9_look 13 = .ok (.invokevirtual 95, 3) := by decide +kernel
theorem dX9_look_16 : decode cX9_look 16 = .ok (.lstore_n 3, 1) := by decide +kernel
theorem dX9_look_17 : decode cX9_look 17 = .ok (.lload_n 3, 1) := by decide +kernel
theorem dX9_look_18 : decode cX9_look 18 = .ok (.lconst 0, 1) := by decide +kernel
theorem dX9_look_19 : decode cX9_look 19 = .ok (.lcmp, 1) := by decide +kernel
theorem dX9_look_20 : decode cX9_look 20 = .ok (.ifCond .le 35, 3) := by decide +kernel
theorem dX9_look_23 : decode cX9_look 23 = .ok (.aload_n 0, 1) := by decide +kernel
theorem dX9_look_24 : decode cX9_look 24 = .ok (.getfield 24, 3) := by decide +kernel
theorem dX9_look_27 : decode cX9_look 27 = .ok (.aload_n 2, 1) := by decide +kernel
theorem dX9_look_28 : decode cX9_look 28 = .ok (.getfield 92, 3) := by decide +kernel
theorem dX9_look_31 : decode cX9_look 31 = .ok (.lload_n 3, 1) := by decide +kernel
theorem dX9_look_32 : decode cX9_look 32 = .ok (.lconst 1, 1) := by decide +kernel
theorem dX9_look_33 : decode cX9_look 33 = .ok (.lsub, 1) := by decide +kernel
theorem dX9_look_34 : decode cX9_look 34 = .ok (.invokevirtual 191, 3) := by decide +kernel
theorem dX9_look_37 : decode cX9_look 37 = .ok (.aload_n 0, 1) := by decide +kernel
theorem dX9_look_38 : decode cX9_look 38 = .ok (.aload_n 2, 1) := by decide +kernel
theorem dX9_look_39 : decode cX9_look 39 = .ok (.getfield 172, 3) := by decide +kernel
theorem dX9_look_42 : decode cX9_look 42 = .ok (.iconst 1, 1) := by decide +kernel
theorem dX9_look_43 : decode cX9_look 43 = .ok (.iadd, 1) := by decide +kernel
theorem dX9_look_44 : decode cX9_look 44 = .ok (.putfield 53, 3) := by decide +kernel
theorem dX9_look_47 : decode cX9_look 47 = .ok (.aload_n 0, 1) := by decide +kernel
theorem dX9_look_48 : decode cX9_look 48 = .ok (.iconst 0, 1) := by decide +kernel
theorem dX9_look_49 : decode cX9_look 49 = .ok (.putfield 67, 3) := by decide +kernel
theorem dX9_look_52 : decode cX9_look 52 = .ok (.goto 13, 3) := by decide +kernel
theorem dX9_look_55 : decode cX9_look 55 = .ok (.aload_n 0, 1) := by decide +kernel
theorem dX9_look_56 : decode cX9_look 56 = .ok (.iconst 1, 1) := by decide +kernel
theorem dX9_look_57 : decode cX9_look 57 = .ok (.putfield 67, 3) := by decide +kernel
theorem dX9_look_60 : decode cX9_look 60 = .ok (.aload_n 0, 1) := by decide +kernel
theorem dX9_look_61 : decode cX9_look 61 = .ok (.aload_n 1, 1) := by decide +kernel
theorem dX9_look_62 : decode cX9_look 62 = .ok (.invokevirtual 195, 3) := by decide +kernel
theorem dX9_look_65 : decode cX9_look 65 = .ok (.return_, 1) := by decide +kernel
theorem dX9_settle_0 : decode cX9_settle 0 = .ok (.aload_n 1, 1) := by decide +kernel
theorem dX9_settle_1 : decode cX9_settle 1 = .ok (.getfield 188, 3) := by decide +kernel
theorem dX9_settle_4 : decode cX9_settle 4 = .ok (.getfield 89, 3) := by decide +kernel
theorem dX9_settle_7 : decode cX9_settle 7 = .ok (.lookupswitch 57 #[(25, 33), (29, 41), (30, 49)], 33) := by decide +kernel
theorem dX9_settle_40 : decode cX9_settle 40 = .ok (.aload_n 0, 1) := by decide +kernel
theorem dX9_settle_41 : decode cX9_settle 41 = .ok (.aload_n 1, 1) := by decide +kernel
theorem dX9_settle_42 : decode cX9_settle 42 = .ok (.invokevirtual 198, 3) := by decide +kernel
theorem dX9_settle_45 : decode cX9_settle 45 = .ok (.goto 24, 3) := by decide +kernel
theorem dX9_settle_48 : decode cX9_settle 48 = .ok (.aload_n 0, 1) := by decide +kernel
theorem dX9_settle_49 : decode cX9_settle 49 = .ok (.aload_n 1, 1) := by decide +kernel
theorem dX9_settle_50 : decode cX9_settle 50 = .ok (.invokevirtual 201, 3) := by decide +kernel
theorem dX9_settle_53 : decode cX9_settle 53 = .ok (.goto 16, 3) := by decide +kernel
theorem dX9_settle_56 : decode cX9_settle 56 = .ok (.aload_n 0, 1) := by decide +kernel
theorem dX9_settle_57 : decode cX9_settle 57 = .ok (.aload_n 1, 1) := by decide +kernel
theorem dX9_settle_58 : decode cX9_settle 58 = .ok (.invokevirtual 195, 3) := by decide +kernel
theorem dX9_settle_61 : decode cX9_settle 61 = .ok (.goto 8, 3) := by decide +kernel
theorem dX9_settle_64 : decode cX9_settle 64 = .ok (.aload_n 0, 1) := by decide +kernel
theorem dX9_settle_65 : decode cX9_settle 65 = .ok (.aload_n 1, 1) := by decide +kernel
theorem dX9_settle_66 : decode cX9_settle 66 = .ok (.invokevirtual 204, 3) := by decide +kernel
theorem dX9_settle_69 : decode cX9_settle 69 = .ok (.return_, 1) := by decide +kernel
theorem dX9_leaveBlock_0 : decode cX9_leaveBlock 0 = .ok (.aload_n 0, 1) := by decide +kernel
theorem dX9_leaveBlock_1 : decode cX9_leaveBlock 1 = .ok (.aload_n 1, 1) := by decide +kernel
theorem dX9_leaveBlock_2 : decode cX9_leaveBlock 2 = .ok (.getfield 144, 3) := by decide +kernel
theorem dX9_leaveBlock_5 : decode cX9_leaveBlock 5 = .ok (.putfield 44, 3) := by decide +kernel
theorem dX9_leaveBlock_8 : decode cX9_leaveBlock 8 = .ok (.aload_n 0, 1) := by decide +kernel
theorem dX9_leaveBlock_9 : decode cX9_leaveBlock 9 = .ok (.dup, 1) := by decide +kernel
theorem dX9_leaveBlock_10 : decode cX9_leaveBlock 10 = .ok (.getfield 41, 3) := by decide +kernel
theorem dX9_leaveBlock_13 : decode cX9_leaveBlock 13 = .ok (.iconst 1, 1) := by decide +kernel
theorem dX9_leaveBlock_14 : decode cX9_leaveBlock 14 = .ok (.isub, 1) := by decide +kernel
theorem dX9_leaveBlock_15 : decode cX9_leaveBlock 15 = .ok (.putfield 41, 3) := by decide +kernel
theorem dX9_leaveBlock_18 : decode cX9_leaveBlock 18 = .ok (.aload_n 0, 1) := by decide +kernel
theorem dX9_leaveBlock_19 : decode cX9_leaveBlock 19 = .ok (.getfield 67, 3) := by decide +kernel
theorem dX9_leaveBlock_22 : decode cX9_leaveBlock 22 = .ok (.iconst 1, 1) := by decide +kernel
theorem dX9_leaveBlock_23 : decode cX9_leaveBlock 23 = .ok (.if_icmp .ne 16, 3) := by decide +kernel
theorem dX9_leaveBlock_26 : decode cX9_leaveBlock 26 = .ok (.aload_n 0, 1) := by decide +kernel
theorem dX9_leaveBlock_27 : decode cX9_leaveBlock 27 = .ok (.aload_n 1, 1) := by decide +kernel
theorem dX9_leaveBlock_28 : decode cX9_leaveBlock 28 = .ok (.invokevirtual 207, 3) := by decide +kernel
theorem dX9_leaveBlock_31 : decode cX9_leaveBlock 31 = .ok (.putfield 53, 3) := by decide +kernel
theorem dX9_leaveBlock_34 : decode cX9_leaveBlock 34 = .ok (.aload_n 0, 1) := by decide +kernel
theorem dX9_leaveBlock_35 : decode cX9_leaveBlock 35 = .ok (.iconst 0, 1) := by decide +kernel
theorem dX9_leaveBlock_36 : decode cX9_leaveBlock 36 = .ok (.putfield 67, 3) := by decide +kernel
theorem dX9_leaveBlock_39 : decode cX9_leaveBlock 39 = .ok (.return_, 1) := by decide +kernel
theorem dX9_settleLoop_0 : decode cX9_settleLoop 0 = .ok (.aload_n 0, 1) := by decide +kernel
theorem dX9_settleLoop_1 : decode cX9_settleLoop 1 = .ok (.getfield 67, 3) := by decide +kernel
theorem dX9_settleLoop_4 : decode cX9_settleLoop 4 = .ok (.iconst 1, 1) := by decide +kernel
theorem dX9_settleLoop_5 : decode cX9_settleLoop 5 = .ok (.if_icmp .eq 11, 3) := by decide +kernel
theorem dX9_settleLoop_8 : decode cX9_settleLoop 8 = .ok (.aload_n 0, 1) := by decide +kernel
theorem dX9_settleLoop_9 : decode cX9_settleLoop 9 = .ok (.getfield 67, 3) := by decide +kernel
theorem dX9_settleLoop_12 : decode cX9_settleLoop 12 = .ok (.iconst 4, 1) := by decide +kernel
theorem dX9_settleLoop_13 : decode cX9_settleLoop 13 = .ok (.if_icmp .ne 16, 3) := by decide +kernel
theorem dX9_settleLoop_16 : decode cX9_settleLoop 16 = .ok (.aload_n 0, 1) := by decide +kernel
theorem dX9_settleLoop_17 : decode cX9_settleLoop 17 = .ok (.invokevirtual 74, 3) := by decide +kernel
theorem dX9_settleLoop_20 : decode cX9_settleLoop 20 = .ok (.ifCond .eq 8, 3) := by decide +kernel
theorem dX9_settleLoop_23 : decode cX9_settleLoop 23 = .ok (.aload_n 0, 1) := by decide +kernel
theorem dX9_settleLoop_24 : decode cX9_settleLoop 24 = .ok (.aload_n 1, 1) := by decide +kernel
theorem dX9_settleLoop_25 : decode cX9_settleLoop 25 = .ok (.invokevirtual 173, 3) := by decide +kernel
theorem dX9_settleLoop_28 : decode cX9_settleLoop 28 = .ok (.return_, 1) := by decide +kernel
theorem dX9_settleLoop_29 : decode cX9_settleLoop 29 = .ok (.aload_n 0, 1) := by decide +kernel
theorem dX9_settleLoop_30 : decode cX9_settleLoop 30 = .ok (.getfield 67, 3) := by decide +kernel
theorem dX9_settleLoop_33 : decode cX9_settleLoop 33 = .ok (.iconst 3, 1) := by decide +kernel
theorem dX9_settleLoop_34 : decode cX9_settleLoop 34 = .ok (.if_icmp .ne 8, 3) := by decide +kernel
theorem dX9_settleLoop_37 : decode cX9_settleLoop 37 = .ok (.aload_n 0, 1) := by decide +kernel
theorem dX9_settleLoop_38 : decode cX9_settleLoop 38 = .ok (.iconst 1, 1) := by decide +kernel
theorem dX9_settleLoop_39 : decode cX9_settleLoop 39 = .ok (.putfield 67, 3) := by decide +kernel
theorem dX9_settleLoop_42 : decode cX9_settleLoop 42 = .ok (.aload_n 0, 1) := by decide +kernel
theorem dX9_settleLoop_43 : decode cX9_settleLoop 43 = .ok (.aload_n 1, 1) := by decide +kernel
theorem dX9_settleLoop_44 : decode cX9_settleLoop 44 = .ok (.invokevirtual 195, 3) := by decide +kernel
theorem dX9_settleLoop_47 : decode cX9_settleLoop 47 = .ok (.return_, 1) := by decide +kernel
theorem dX9_settleTrial_0 : decode cX9_settleTrial 0 = .ok (.aload_n 1, 1) := by decide +kernel
theorem dX9_settleTrial_1 : decode cX9_settleTrial 1 = .ok (.getfield 138, 3) := by decide +kernel
theorem dX9_settleTrial_4 : decode cX9_settleTrial 4 = .ok (.iconst 2, 1) := by decide +kernel
theorem dX9_settleTrial_5 : decode cX9_settleTrial 5 = .ok (.if_icmp .ne 43, 3) := by decide +kernel
theorem dX9_settleTrial_8 : decode cX9_settleTrial 8 = .ok (.aload_n 0, 1) := by decide +kernel
theorem dX9_settleTrial_9 : decode cX9_settleTrial 9 = .ok (.getfield 67, 3) := by decide +kernel
theorem dX9_settleTrial_12 : decode cX9_settleTrial 12 = .ok (.iconst 2, 1) := by decide +kernel
theorem dX9_settleTrial_13 : decode cX9_settleTrial 13 = .ok (.if_icmp .eq 27, 3) := by decide +kernel
theorem dX9_settleTrial_16 : decode cX9_settleTrial 16 = .ok (.aload_n 0, 1) := by decide +kernel
theorem dX9_settleTrial_17 : decode cX9_settleTrial 17 = .ok (.aload_n 1, 1) := by decide +kernel
theorem dX9_settleTrial_18 : decode cX9_settleTrial 18 = .ok (.getfield 209, 3) := by decide +kernel
theorem dX9_settleTrial_21 : decode cX9_settleTrial 21 = .ok (.putfield 67, 3) := by decide +kernel
theorem dX9_settleTrial_24 : decode cX9_settleTrial 24 = .ok (.aload_n 0, 1) := by decide +kernel
theorem dX9_settleTrial_25 : decode cX9_settleTrial 25 = .ok (.aload_n 1, 1) := by decide +kernel
theorem dX9_settleTrial_26 : decode cX9_settleTrial 26 = .ok (.getfield 212, 3) := by decide +kernel
theorem dX9_settleTrial_29 : decode cX9_settleTrial 29 = .ok (.putfield 116, 3) := by decide +kernel
theorem dX9_settleTrial_32 : decode cX9_settleTrial 32 = .ok (.aload_n 0, 1) := by decide +kernel
theorem dX9_settleTrial_33 : decode cX9_settleTrial 33 = .ok (.aload_n 1, 1) := by decide +kernel
theorem dX9_settleTrial_34 : decode cX9_settleTrial 34 = .ok (.getfield 215, 3) := by decide +kernel
theorem dX9_settleTrial_37 : decode cX9_settleTrial 37 = .ok (.putfield 134, 3) := by decide +kernel
theorem dX9_settleTrial_40 : decode cX9_settleTrial 40 = .ok (.aload_n 0, 1) := by decide +kernel
theorem dX9_settleTrial_41 : decode cX9_settleTrial 41 = .ok (.aload_n 1, 1) := by decide +kernel
theorem dX9_settleTrial_42 : decode cX9_settleTrial 42 = .ok (.invokevirtual 195, 3) := by decide +kernel
theorem dX9_settleTrial_45 : decode cX9_settleTrial 45 = .ok (.goto 63, 3) := by decide +kernel
theorem dX9_settleTrial_48 : decode cX9_settleTrial 48 = .ok (.aload_n 1, 1) := by decide +kernel
theorem dX9_settleTrial_49 : decode cX9_settleTrial 49 = .ok (.getfield 138, 3) := by decide +kernel
theorem dX9_settleTrial_52 : decode cX9_settleTrial 52 = .ok (.ifCond .ne 33, 3) := by decide +kernel
theorem dX9_settleTrial_55 : decode cX9_settleTrial 55 = .ok (.aload_n 0, 1) := by decide +kernel
theorem dX9_settleTrial_56 : decode cX9_settleTrial 56 = .ok (.getfield 67, 3) := by decide +kernel
theorem dX9_settleTrial_59 : decode cX9_settleTrial 59 = .ok (.iconst 2, 1) := by decide +kernel
theorem dX9_settleTrial_60 : decode cX9_settleTrial 60 = .ok (.if_icmp .ne 25, 3) := by decide +kernel
theorem dX9_settleTrial_63 : decode cX9_settleTrial 63 = .ok (.aload_n 1, 1) := by decide +kernel
theorem dX9_settleTrial_64 : decode cX9_settleTrial 64 = .ok (.getfield 188, 3) := by decide +kernel
theorem dX9_settleTrial_67 : decode cX9_settleTrial 67 = .ok (.aload_n 0, 1) := by decide +kernel
theorem dX9_settleTrial_68 : decode cX9_settleTrial 68 = .ok (.getfield 134, 3) := by decide +kernel
theorem dX9_settleTrial_71 : decode cX9_settleTrial 71 = .ok (.invokestatic 218, 3) := by decide +kernel
theorem dX9_settleTrial_74 : decode cX9_settleTrial 74 = .ok (.ifCond .eq 11, 3) := by decide +kernel
theorem dX9_settleTrial_77 : decode cX9_settleTrial 77 = .ok (.aload_n 0, 1) := by decide +kernel
theorem dX9_settleTrial_78 : decode cX9_settleTrial 78 = .ok (.aload_n 1, 1) := by decide +kernel
theorem dX9_settleTrial_79 : decode cX9_settleTrial 79 = .ok (.invokevirtual 222, 3) := by decide +kernel
theorem dX9_settleTrial_82 : decode cX9_settleTrial 82 = .ok (.goto 26, 3) := by decide +kernel
theorem dX9_settleTrial_85 : decode cX9_settleTrial 85 = .ok (.aload_n 1, 1) := by decide +kernel
theorem dX9_settleTrial_86 : decode cX9_settleTrial 86 = .ok (.getfield 188, 3) := by decide +kernel
theorem dX9_settleTrial_89 : decode cX9_settleTrial 89 = .ok (.getfield 225, 3) := by decide +kernel
theorem dX9_settleTrial_92 : decode cX9_settleTrial 92 = .ok (.ifCond .lt 11, 3) := by decide +kernel
theorem dX9_settleTrial_95 : decode cX9_settleTrial 95 = .ok (.aload_n 0, 1) := by decide +kernel
theorem dX9_settleTrial_96 : decode cX9_settleTrial 96 = .ok (.aload_n 1, 1) := by decide +kernel
theorem dX9_settleTrial_97 : decode cX9_settleTrial 97 = .ok (.invokevirtual 228, 3) := by decide +kernel
theorem dX9_settleTrial_100 : decode cX9_settleTrial 100 = .ok (.goto 8, 3) := by decide +kernel
theorem dX9_settleTrial_103 : decode cX9_settleTrial 103 = .ok (.aload_n 0, 1) := by decide +kernel
theorem dX9_settleTrial_104 : decode cX9_settleTrial 104 = .ok (.aload_n 1, 1) := by decide +kernel
theorem dX9_settleTrial_105 : decode cX9_settleTrial 105 = .ok (.invokevirtual 195, 3) := by decide +kernel
theorem dX9_settleTrial_108 : decode cX9_settleTrial 108 = .ok (.return_, 1) := by decide +kernel
theorem dX9_takes_0 : decode cX9_takes 0 = .ok (.aload_n 0, 1) := by decide +kernel
theorem dX9_takes_1 : decode cX9_takes 1 = .ok (.getfield 231, 3) := by decide +kernel
theorem dX9_takes_4 : decode cX9_takes 4 = .ok (.ifCond .lt 7, 3) := by decide +kernel
theorem dX9_takes_7 : decode cX9_takes 7 = .ok (.aload_n 1, 1) := by decide +kernel
theorem dX9_takes_8 : decode cX9_takes 8 = .ok (.ifnonnull 5, 3) := by decide +kernel
theorem dX9_takes_11 : decode cX9_takes 11 = .ok (.iconst 0, 1) := by decide +kernel
theorem dX9_takes_12 : decode cX9_takes 12 = .ok (.ireturn, 1) := by decide +kernel
theorem dX9_takes_13 : decode cX9_takes 13 = .ok (.aload_n 1, 1) := by decide +kernel
theorem dX9_takes_14 : decode cX9_takes 14 = .ok (.getfield 234, 3) := by decide +kernel
theorem dX9_takes_17 : decode cX9_takes 17 = .ok (.istore_n 2, 1) := by decide +kernel
theorem dX9_takes_18 : decode cX9_takes 18 = .ok (.sipush 1024, 3) := by decide +kernel
theorem dX9_takes_21 : decode cX9_takes 21 = .ok (.iconst 1, 1) := by decide +kernel
theorem dX9_takes_22 : decode cX9_takes 22 = .ok (.iload_n 2, 1) := by decide +kernel
theorem dX9_takes_23 : decode cX9_takes 23 = .ok (.ishl, 1) := by decide +kernel
theorem dX9_takes_24 : decode cX9_takes 24 = .ok (.ior, 1) := by decide +kernel
theorem dX9_takes_25 : decode cX9_takes 25 = .ok (.istore_n 3, 1) := by decide +kernel
theorem dX9_takes_26 : decode cX9_takes 26 = .ok (.iload_n 2, 1) := by decide +kernel
theorem dX9_takes_27 : decode cX9_takes 27 = .ok (.iconst 1, 1) := by decide +kernel
theorem dX9_takes_28 : decode cX9_takes 28 = .ok (.if_icmp .eq 8, 3) := by decide +kernel
theorem dX9_takes_31 : decode cX9_takes 31 = .ok (.iload_n 2, 1) := by decide +kernel
theorem dX9_takes_32 : decode cX9_takes 32 = .ok (.iconst 2, 1) := by decide +kernel
theorem dX9_takes_33 : decode cX9_takes 33 = .ok (.if_icmp .ne 7, 3) := by decide +kernel
theorem dX9_takes_36 : decode cX9_takes 36 = .ok (.iload_n 3, 1) := by decide +kernel
theorem dX9_takes_37 : decode cX9_takes 37 = .ok (.iconst 1, 1) := by decide +kernel
theorem dX9_takes_38 : decode cX9_takes 38 = .ok (.ior, 1) := by decide +kernel
theorem dX9_takes_39 : decode cX9_takes 39 = .ok (.istore_n 3, 1) := by decide +kernel
theorem dX9_takes_40 : decode cX9_takes 40 = .ok (.iload_n 2, 1) := by decide +kernel
theorem dX9_takes_41 : decode cX9_takes 41 = .ok (.iconst 2, 1) := by decide +kernel
theorem dX9_takes_42 : decode cX9_takes 42 = .ok (.if_icmp .ne 7, 3) := by decide +kernel
theorem dX9_takes_45 : decode cX9_takes 45 = .ok (.iload_n 3, 1) := by decide +kernel
theorem dX9_takes_46 : decode cX9_takes 46 = .ok (.iconst 2, 1) := by decide +kernel
theorem dX9_takes_47 : decode cX9_takes 47 = .ok (.ior, 1) := by decide +kernel
theorem dX9_takes_48 : decode cX9_takes 48 = .ok (.istore_n 3, 1) := by decide +kernel
theorem dX9_takes_49 : decode cX9_takes 49 = .ok (.aload_n 0, 1) := by decide +kernel
theorem dX9_takes_50 : decode cX9_takes 50 = .ok (.getfield 92, 3) := by decide +kernel
theorem dX9_takes_53 : decode cX9_takes 53 = .ok (.iload_n 3, 1) := by decide +kernel
theorem dX9_takes_54 : decode cX9_takes 54 = .ok (.iand, 1) := by decide +kernel
theorem dX9_takes_55 : decode cX9_takes 55 = .ok (.ifCond .eq 7, 3) := by decide +kernel
theorem dX9_takes_58 : decode cX9_takes 58 = .ok (.iconst 1, 1) := by decide +kernel
theorem dX9_takes_59 : decode cX9_takes 59 = .ok (.goto 4, 3) := by decide +kernel
theorem dX9_takes_62 : decode cX9_takes 62 = .ok (.iconst 0, 1) := by decide +kernel
theorem dX9_takes_63 : decode cX9_takes 63 = .ok (.ireturn, 1) := by decide +kernel
theorem dX9_beginTaker_0 : decode cX9_beginTaker 0 = .ok (.aload_n 0, 1) := by decide +kernel
theorem dX9_beginTaker_1 : decode cX9_beginTaker 1 = .ok (.getfield 28, 3) := by decide +kernel
theorem dX9_beginTaker_4 : decode cX9_beginTaker 4 = .ok (.dup, 1) := by decide +kernel
theorem dX9_beginTaker_5 : decode cX9_beginTaker 5 = .ok (.getfield 237, 3) := by decide +kernel
theorem dX9_beginTaker_8 : decode cX9_beginTaker 8 = .ok (.iconst 1, 1) := by decide +kernel
theorem dX9_beginTaker_9 : decode cX9_beginTaker 9 = .ok (.iadd, 1) := by decide +kernel
theorem dX9_beginTaker_10 : decode cX9_beginTaker 10 = .ok (.putfield 237, 3) := by decide +kernel
theorem dX9_beginTaker_13 : decode cX9_beginTaker 13 = .ok (.aload_n 1, 1) := by decide +kernel
theorem dX9_beginTaker_14 : decode cX9_beginTaker 14 = .ok (.aload_n 0, 1) := by decide +kernel
theorem dX9_beginTaker_15 : decode cX9_beginTaker 15 = .ok (.getfield 134, 3) := by decide +kernel
theorem dX9_beginTaker_18 : decode cX9_beginTaker 18 = .ok (.putfield 141, 3) := by decide +kernel
theorem dX9_beginTaker_21 : decode cX9_beginTaker 21 = .ok (.aload_n 0, 1) := by decide +kernel
theorem dX9_beginTaker_22 : decode cX9_beginTaker 22 = .ok (.aload_n 1, 1) := by decide +kernel
theorem dX9_beginTaker_23 : decode cX9_beginTaker 23 = .ok (.iconst 1, 1) := by decide +kernel
theorem dX9_beginTaker_24 : decode cX9_beginTaker 24 = .ok (.aload_n 1, 1) := by decide +kernel
theorem dX9_beginTaker_25 : decode cX9_beginTaker 25 = .ok (.getfield 188, 3) := by decide +kernel
theorem dX9_beginTaker_28 : decode cX9_beginTaker 28 = .ok (.getfield 231, 3) := by decide +kernel
theorem dX9_beginTaker_31 : decode cX9_beginTaker 31 = .ok (.iconst 1, 1) := by decide +kernel
theorem dX9_beginTaker_32 : decode cX9_beginTaker 32 = .ok (.iadd, 1) := by decide +kernel
theorem dX9_beginTaker_33 : decode cX9_beginTaker 33 = .ok (.aload_n 1, 1) := by decide +kernel
theorem dX9_beginTaker_34 : decode cX9_beginTaker 34 = .ok (.invokevirtual 239, 3) := by decide +kernel
theorem dX9_beginTaker_37 : decode cX9_beginTaker 37 = .ok (.invokevirtual 242, 3) := by decide +kernel
theorem dX9_beginTaker_40 : decode cX9_beginTaker 40 = .ok (.return_, 1) := by decide +kernel
theorem dX9_beginFinish_0 : decode cX9_beginFinish 0 = .ok (.aload_n 0, 1) := by decide +kernel
theorem dX9_beginFinish_1 : decode cX9_beginFinish 1 = .ok (.getfield 28, 3) := by decide +kernel
theorem dX9_beginFinish_4 : decode cX9_beginFinish 4 = .ok (.aload_n 1, 1) := by decide +kernel
theorem dX9_beginFinish_5 : decode cX9_beginFinish 5 = .ok (.getfield 188, 3) := by decide +kernel
theorem dX9_beginFinish_8 : decode cX9_beginFinish 8 = .ok (.getfield 172, 3) := by decide +kernel
theorem dX9_beginFinish_11 : decode cX9_beginFinish 11 = .ok (.invokevirtual 246, 3) := by decide +kernel
theorem dX9_beginFinish_14 : decode cX9_beginFinish 14 = .ok (.aload_n 1, 1) := by decide +kernel
theorem dX9_beginFinish_15 : decode cX9_beginFinish 15 = .ok (.aload_n 0, 1) := by decide +kernel
theorem dX9_beginFinish_16 : decode cX9_beginFinish 16 = .ok (.getfield 67, 3) := by decide +kernel
theorem dX9_beginFinish_19 : decode cX9_beginFinish 19 = .ok (.putfield 209, 3) := by decide +kernel
theorem dX9_beginFinish_22 : decode cX9_beginFinish 22 = .ok (.aload_n 1, 1) := by decide +kernel
theorem dX9_beginFinish_23 : decode cX9_beginFinish 23 = .ok (.aload_n 0, 1) := by decide +kernel
theorem dX9_beginFinish_24 : decode cX9_beginFinish 24 = .ok (.getfield 116, 3) := by decide +kernel
theorem dX9_beginFinish_27 : decode cX9_beginFinish 27 = .ok (.putfield 212, 3) := by decide +kernel
theorem dX9_beginFinish_30 : decode cX9_beginFinish 30 = .ok (.aload_n 1, 1) := by decide +kernel
theorem dX9_beginFinish_31 : decode cX9_beginFinish 31 = .ok (.aload_n 0, 1) := by decide +kernel
theorem dX9_beginFinish_32 : decode cX9_beginFinish 32 = .ok (.getfield 134, 3) := by decide +kernel
theorem dX9_beginFinish_35 : decode cX9_beginFinish 35 = .ok (.putfield 215, 3) := by decide +kernel
theorem dX9_beginFinish_38 : decode cX9_beginFinish 38 = .ok (.aload_n 0, 1) := by decide +kernel
theorem dX9_beginFinish_39 : decode cX9_beginFinish 39 = .ok (.aload_n 1, 1) := by decide +kernel
theorem dX9_beginFinish_40 : decode cX9_beginFinish 40 = .ok (.iconst 2, 1) := by decide +kernel
theorem dX9_beginFinish_41 : decode cX9_beginFinish 41 = .ok (.aload_n 1, 1) := by decide +kernel
theorem dX9_beginFinish_42 : decode cX9_beginFinish 42 = .ok (.getfield 188, 3) := by decide +kernel
theorem dX9_beginFinish_45 : decode cX9_beginFinish 45 = .ok (.getfield 225, 3) := by decide +kernel
theorem dX9_beginFinish_48 : decode cX9_beginFinish 48 = .ok (.iconst 1, 1) := by decide +kernel
theorem dX9_beginFinish_49 : decode cX9_beginFinish 49 = .ok (.iadd, 1) := by decide +kernel
theorem dX9_beginFinish_50 : decode cX9_beginFinish 50 = .ok (.aload_n 1, 1) := by decide +kernel
theorem dX9_beginFinish_51 : decode cX9_beginFinish 51 = .ok (.invokevirtual 249, 3) := by decide +kernel
theorem dX9_beginFinish_54 : decode cX9_beginFinish 54 = .ok (.invokevirtual 242, 3) := by decide +kernel
theorem dX9_beginFinish_57 : decode cX9_beginFinish 57 = .ok (.return_, 1) := by decide +kernel
theorem dX9_beginPart_0 : decode cX9_beginPart 0 = .ok (.aload_n 1, 1) := by decide +kernel
theorem dX9_beginPart_1 : decode cX9_beginPart 1 = .ok (.iload_n 2, 1) := by decide +kernel
theorem dX9_beginPart_2 : decode cX9_beginPart 2 = .ok (.putfield 138, 3) := by decide +kernel
theorem dX9_beginPart_5 : decode cX9_beginPart 5 = .ok (.aload_n 1, 1) := by decide +kernel
theorem dX9_beginPart_6 : decode cX9_beginPart 6 = .ok (.iload 4, 2) := by decide +kernel
theorem dX9_beginPart_8 : decode cX9_beginPart 8 = .ok (.putfield 56, 3) := by decide +kernel
theorem dX9_beginPart_11 : decode cX9_beginPart 11 = .ok (.aload_n 0, 1) := by decide +kernel
theorem dX9_beginPart_12 : decode cX9_beginPart 12 = .ok (.iload_n 3, 1) := by decide +kernel
theorem dX9_beginPart_13 : decode cX9_beginPart 13 = .ok (.putfield 53, 3) := by decide +kernel
theorem dX9_beginPart_16 : decode cX9_beginPart 16 = .ok (.aload_n 0, 1) := by decide +kernel
theorem dX9_beginPart_17 : decode cX9_beginPart 17 = .ok (.iconst 0, 1) := by decide +kernel
theorem dX9_beginPart_18 : decode cX9_beginPart 18 = .ok (.putfield 67, 3) := by decide +kernel
theorem dX9_beginPart_21 : decode cX9_beginPart 21 = .ok (.return_, 1) := by decide +kernel
theorem dX9_settleRoutine_0 : decode cX9_settleRoutine 0 = .ok (.aload_n 0, 1) := by decide +kernel
theorem dX9_settleRoutine_1 : decode cX9_settleRoutine 1 = .ok (.aload_n 1, 1) := by decide +kernel
theorem dX9_settleRoutine_2 : decode cX9_settleRoutine 2 = .ok (.getfield 144, 3) := by decide +kernel
theorem dX9_settleRoutine_5 : decode cX9_settleRoutine 5 = .ok (.putfield 44, 3) := by decide +kernel
theorem dX9_settleRoutine_8 : decode cX9_settleRoutine 8 = .ok (.aload_n 0, 1) := by decide +kernel
theorem dX9_settleRoutine_9 : decode cX9_settleRoutine 9 = .ok (.dup, 1) := by decide +kernel
theorem dX9_settleRoutine_10 : decode cX9_settleRoutine 10 = .ok (.getfield 41, 3) := by decide +kernel
theorem dX9_settleRoutine_13 : decode cX9_settleRoutine 13 = .ok (.iconst 1, 1) := by decide +kernel
theorem dX9_settleRoutine_14 : decode cX9_settleRoutine 14 = .ok (.isub, 1) := by decide +kernel
theorem dX9_settleRoutine_15 : decode cX9_settleRoutine 15 = .ok (.putfield 41, 3) := by decide +kernel
theorem dX9_settleRoutine_18 : decode cX9_settleRoutine 18 = .ok (.aload_n 0, 1) := by decide +kernel
theorem dX9_settleRoutine_19 : decode cX9_settleRoutine 19 = .ok (.getfield 44, 3) := by decide +kernel
theorem dX9_settleRoutine_22 : decode cX9_settleRoutine 22 = .ok (.ifnonnull 10, 3) := by decide +kernel
theorem dX9_settleRoutine_25 : decode cX9_settleRoutine 25 = .ok (.aload_n 0, 1) := by decide +kernel
theorem dX9_settleRoutine_26 : decode cX9_settleRoutine 26 = .ok (.invokevirtual 252, 3) := by decide +kernel
theorem dX9_settleRoutine_29 : decode cX9_settleRoutine 29 = .ok (.goto 59, 3) := by decide +kernel
theorem dX9_settleRoutine_32 : decode cX9_settleRoutine 32 = .ok (.aload_n 0, 1) := by decide +kernel
theorem dX9_settleRoutine_33 : decode cX9_settleRoutine 33 = .ok (.getfield 67, 3) := by decide +kernel
theorem dX9_settleRoutine_36 : decode cX9_settleRoutine 36 = .ok (.iconst 2, 1) := by decide +kernel
theorem dX9_settleRoutine_37 : decode cX9_settleRoutine 37 = .ok (.if_icmp .eq 51, 3) := by decide +kernel
theorem dX9_settleRoutine_40 : decode cX9_settleRoutine 40 = .ok (.aload_n 0, 1) := by decide +kernel
theorem dX9_settleRoutine_41 : decode cX9_settleRoutine 41 = .ok (.getfield 24, 3) := by decide +kernel
theorem dX9_settleRoutine_44 : decode cX9_settleRoutine 44 = .ok (.aload_n 1, 1) := by decide +kernel
theorem dX9_settleRoutine_45 : decode cX9_settleRoutine 45 = .ok (.getfield 188, 3) := by decide +kernel
theorem dX9_settleRoutine_48 : decode cX9_settleRoutine 48 = .ok (.getfield 176, 3) := by decide +kernel
theorem dX9_settleRoutine_51 : decode cX9_settleRoutine 51 = .ok (.aload_n 0, 1) := by decide +kernel
theorem dX9_settleRoutine_52 : decode cX9_settleRoutine 52 = .ok (.getfield 67, 3) := by decide +kernel
theorem dX9_settleRoutine_55 : decode cX9_settleRoutine 55 = .ok (.iconst 5, 1) := by decide +kernel
theorem dX9_settleRoutine_56 : decode cX9_settleRoutine 56 = .ok (.if_icmp .ne 10, 3) := by decide +kernel
theorem dX9_settleRoutine_59 : decode cX9_settleRoutine 59 = .ok (.aload_n 0, 1) := by decide +kernel
theorem dX9_settleRoutine_60 : decode cX9_settleRoutine 60 = .ok (.getfield 116, 3) := by decide +kernel
theorem dX9_settleRoutine_63 : decode cX9_settleRoutine 63 = .ok (.goto 4, 3) := by decide +kernel
theorem dX9_settleRoutine_66 : decode cX9_settleRoutine 66 = .ok (.lconst 0, 1) := by decide +kernel
theorem dX9_settleRoutine_67 : decode cX9_settleRoutine 67 = .ok (.invokevirtual 191, 3) := by decide +kernel
theorem dX9_settleRoutine_70 : decode cX9_settleRoutine 70 = .ok (.aload_n 0, 1) := by decide +kernel
theorem dX9_settleRoutine_71 : decode cX9_settleRoutine 71 = .ok (.aload_n 1, 1) := by decide +kernel
theorem dX9_settleRoutine_72 : decode cX9_settleRoutine 72 = .ok (.getfield 188, 3) := by decide +kernel
theorem dX9_settleRoutine_75 : decode cX9_settleRoutine 75 = .ok (.getfield 172, 3) := by decide +kernel
theorem dX9_settleRoutine_78 : decode cX9_settleRoutine 78 = .ok (.iconst 1, 1) := by decide +kernel
theorem dX9_settleRoutine_79 : decode cX9_settleRoutine 79 = .ok (.iadd, 1) := by decide +kernel
theorem dX9_settleRoutine_80 : decode cX9_settleRoutine 80 = .ok (.putfield 53, 3) := by decide +kernel
theorem dX9_settleRoutine_83 : decode cX9_settleRoutine 83 = .ok (.aload_n 0, 1) := by decide +kernel
theorem dX9_settleRoutine_84 : decode cX9_settleRoutine 84 = .ok (.iconst 0, 1) := by decide +kernel
theorem dX9_settleRoutine_85 : decode cX9_settleRoutine 85 = .ok (.putfield 67, 3) := by decide +kernel
theorem dX9_settleRoutine_88 : decode cX9_settleRoutine 88 = .ok (.return_, 1) := by decide +kernel
theorem dX9_reportEnd_0 : decode cX9_reportEnd 0 = .ok (.aload_n 0, 1) := by decide +kernel
theorem dX9_reportEnd_1 : decode cX9_reportEnd 1 = .ok (.getfield 67, 3) := by decide +kernel
theorem dX9_reportEnd_4 : decode cX9_reportEnd 4 = .ok (.iconst 2, 1) := by decide +kernel
theorem dX9_reportEnd_5 : decode cX9_reportEnd 5 = .ok (.if_icmp .ne 25, 3) := by decide +kernel
theorem dX9_reportEnd_8 : decode cX9_reportEnd 8 = .ok (.aload_n 0, 1) := by decide +kernel
theorem dX9_reportEnd_9 : decode cX9_reportEnd 9 = .ok (.getfield 28, 3) := by decide +kernel
theorem dX9_reportEnd_12 : decode cX9_reportEnd 12 = .ok (.iconst 2, 1) := by decide +kernel
theorem dX9_reportEnd_13 : decode cX9_reportEnd 13 = .ok (.putfield 86, 3) := by decide +kernel
theorem dX9_reportEnd_16 : decode cX9_reportEnd 16 = .ok (.aload_n 0, 1) := by decide +kernel
theorem dX9_reportEnd_17 : decode cX9_reportEnd 17 = .ok (.getfield 28, 3) := by decide +kernel
theorem dX9_reportEnd_20 : decode cX9_reportEnd 20 = .ok (.aload_n 0, 1) := by decide +kernel
theorem dX9_reportEnd_21 : decode cX9_reportEnd 21 = .ok (.getfield 134, 3) := by decide +kernel
theorem dX9_reportEnd_24 : decode cX9_reportEnd 24 = .ok (.putfield 255, 3) := by decide +kernel
theorem dX9_reportEnd_27 : decode cX9_reportEnd 27 = .ok (.goto 42, 3) := by decide +kernel
theorem dX9_reportEnd_30 : decode cX9_reportEnd 30 = .ok (.aload_n 0, 1) := by decide +kernel
theorem dX9_reportEnd_31 : decode cX9_reportEnd 31 = .ok (.getfield 67, 3) := by decide +kernel
theorem dX9_reportEnd_34 : decode cX9_reportEnd 34 = .ok (.iconst 1, 1) := by decide +kernel
theorem dX9_reportEnd_35 : decode cX9_reportEnd 35 = .ok (.if_icmp .eq 34, 3) := by decide +kernel
theorem dX9_reportEnd_38 : decode cX9_reportEnd 38 = .ok (.aload_n 0, 1) := by decide +kernel
theorem dX9_reportEnd_39 : decode cX9_reportEnd 39 = .ok (.getfield 28, 3) := by decide +kernel
theorem dX9_reportEnd_42 : decode cX9_reportEnd 42 = .ok (.iconst 1, 1) := by decide +kernel
theorem dX9_reportEnd_43 : decode cX9_reportEnd 43 = .ok (.putfield 86, 3) := by decide +kernel
theorem dX9_reportEnd_46 : decode cX9_reportEnd 46 = .ok (.aload_n 0, 1) := by decide +kernel
theorem dX9_reportEnd_47 : decode cX9_reportEnd 47 = .ok (.getfield 28, 3) := by decide +kernel
theorem dX9_reportEnd_50 : decode cX9_reportEnd 50 = .ok (.aload_n 0, 1) := by decide +kernel
theorem dX9_reportEnd_51 : decode cX9_reportEnd 51 = .ok (.getfield 67, 3) := by decide +kernel
theorem dX9_reportEnd_54 : decode cX9_reportEnd 54 = .ok (.iconst 5, 1) := by decide +kernel
theorem dX9_reportEnd_55 : decode cX9_reportEnd 55 = .ok (.if_icmp .ne 10, 3) := by decide +kernel
theorem dX9_reportEnd_58 : decode cX9_reportEnd 58 = .ok (.aload_n 0, 1) := by decide +kernel
theorem dX9_reportEnd_59 : decode cX9_reportEnd 59 = .ok (.getfield 116, 3) := by decide +kernel
theorem dX9_reportEnd_62 : decode cX9_reportEnd 62 = .ok (.goto 4, 3) := by decide +kernel
theorem dX9_reportEnd_65 : decode cX9_reportEnd 65 = .ok (.lconst 0, 1) := by decide +kernel
theorem dX9_reportEnd_66 : decode cX9_reportEnd 66 = .ok (.putfield 256, 3) := by decide +kernel
theorem dX9_reportEnd_69 : decode cX9_reportEnd 69 = .ok (.return_, 1) := by decide +kernel
theorem dX10_init_0 : decode cX10_init 0 = .ok (.aload_n 0, 1) := by decide +kernel
theorem dX10_init_1 : decode cX10_init 1 = .ok (.invokespecial 1, 3) := by decide +kernel
theorem dX10_init_4 : decode cX10_init 4 = .ok (.aload_n 0, 1) := by decide +kernel
theorem dX10_init_5 : decode cX10_init 5 = .ok (.new 7, 3) := by decide +kernel
theorem dX10_init_8 : decode cX10_init 8 = .ok (.dup, 1) := by decide +kernel
theorem dX10_init_9 : decode cX10_init 9 = .ok (.invokespecial 9, 3) := by decide +kernel
theorem dX10_init_12 : decode cX10_init 12 = .ok (.putfield 10, 3) := by decide +kernel
theorem dX10_init_15 : decode cX10_init 15 = .ok (.aload_n 0, 1) := by decide +kernel
theorem dX10_init_16 : decode cX10_init 16 = .ok (.new 16, 3) := by decide +kernel
theorem dX10_init_19 : decode cX10_init 19 = .ok (.dup, 1) := by decide +kernel
theorem dX10_init_20 : decode cX10_init 20 = .ok (.invokespecial 18, 3) := by decide +kernel
theorem dX10_init_23 : decode cX10_init 23 = .ok (.putfield 19, 3) := by decide +kernel
theorem dX10_init_26 : decode cX10_init 26 = .ok (.aload_n 0, 1) := by decide +kernel
theorem dX10_init_27 : decode cX10_init 27 = .ok (.new 23, 3) := by decide +kernel
theorem dX10_init_30 : decode cX10_init 30 = .ok (.dup, 1) := by decide +kernel
theorem dX10_init_31 : decode cX10_init 31 = .ok (.invokespecial 25, 3) := by decide +kernel
theorem dX10_init_34 : decode cX10_init 34 = .ok (.putfield 26, 3) := by decide +kernel
theorem dX10_init_37 : decode cX10_init 37 = .ok (.aload_n 0, 1) := by decide +kernel
theorem dX10_init_38 : decode cX10_init 38 = .ok (.new 30, 3) := by decide +kernel
theorem dX10_init_41 : decode cX10_init 41 = .ok (.dup, 1) := by decide +kernel
theorem dX10_init_42 : decode cX10_init 42 = .ok (.aload_n 0, 1) := by decide +kernel
theorem dX10_init_43 : decode cX10_init 43 = .ok (.getfield 10, 3) := by decide +kernel
theorem dX10_init_46 : decode cX10_init 46 = .ok (.aload_n 0, 1) := by decide +kernel
theorem dX10_init_47 : decode cX10_init 47 = .ok (.getfield 19, 3) := by decide +kernel
theorem dX10_init_50 : decode cX10_init 50 = .ok (.aload_n 0, 1) := by decide +kernel
theorem dX10_init_51 : decode cX10_init 51 = .ok (.getfield 26, 3) := by decide +kernel
theorem dX10_init_54 : decode cX10_init 54 = .ok (.invokespecial 32, 3) := by decide +kernel
theorem dX10_init_57 : decode cX10_init 57 = .ok (.putfield 35, 3) := by decide +kernel
theorem dX10_init_60 : decode cX10_init 60 = .ok (.return_, 1) := by decide +kernel
theorem dX10_step_0 : decode cX10_step 0 = .ok (.iload_n 1, 1) := by decide +kernel
theorem dX10_step_1 : decode cX10_step 1 = .ok (.ifCond .lt 9, 3) := by decide +kernel
theorem dX10_step_4 : decode cX10_step 4 = .ok (.iload_n 1, 1) := by decide +kernel
theorem dX10_step_5 : decode cX10_step 5 = .ok (.bipush 35, 2) := by decide +kernel
theorem dX10_step_7 : decode cX10_step 7 = .ok (.if_icmp .le 5, 3) := by decide +kernel
theorem dX10_step_10 : decode cX10_step 10 = .ok (.iconst (-1), 1) := by decide +kernel
theorem dX10_step_11 : decode cX10_step 11 = .ok (.ireturn, 1) := by decide +kernel
theorem dX10_step_12 : decode cX10_step 12 = .ok (.aload_n 0, 1) := by decide +kernel
theorem dX10_step_13 : decode cX10_step 13 = .ok (.getfield 10, 3) := by decide +kernel
theorem dX10_step_16 : decode cX10_step 16 = .ok (.getfield 39, 3) := by decide +kernel
theorem dX10_step_19 : decode cX10_step 19 = .ok (.sipush 2000, 3) := by decide +kernel
theorem dX10_step_22 : decode cX10_step 22 = .ok (.if_icmp .lt 6, 3) := by decide +kernel
theorem dX10_step_25 : decode cX10_step 25 = .ok (.bipush (-2), 2) := by decide +kernel
theorem dX10_step_27 : decode cX10_step 27 = .ok (.ireturn, 1) := by decide +kernel
theorem dX10_step_28 : decode cX10_step 28 = .ok (.aload_n 0, 1) := by decide +kernel
theorem dX10_step_29 : decode cX10_step 29 = .ok (.getfield 10, 3) := by decide +kernel
theorem dX10_step_32 : decode cX10_step 32 = .ok (.iload_n 1, 1) := by decide +kernel
theorem dX10_step_33 : decode cX10_step 33 = .ok (.iload_n 2, 1) := by decide +kernel
theorem dX10_step_34 : decode cX10_step 34 = .ok (.iload_n 3, 1) := by decide +kernel
theorem dX10_step_35 : decode cX10_step 35 = .ok (.iload 4, 2) := by decide +kernel
theorem dX10_step_37 : decode cX10_step 37 = .ok (.invokevirtual 43, 3) := by decide +kernel
theorem dX10_step_40 : decode cX10_step 40 = .ok (.aload_n 0, 1) := by decide +kernel
theorem dX10_step_41 : decode cX10_step 41 = .ok (.getfield 10, 3) := by decide +kernel
theorem dX10_step_44 : decode cX10_step 44 = .ok (.getfield 39, 3) := by decide +kernel
theorem dX10_step_47 : decode cX10_step 47 = .ok (.ireturn, 1) := by decide +kernel
theorem dX10_wipe_0 : decode cX10_wipe 0 = .ok (.aload_n 0, 1) := by decide +kernel
theorem dX10_wipe_1 : decode cX10_wipe 1 = .ok (.getfield 10, 3) := by decide +kernel
theorem dX10_wipe_4 : decode cX10_wipe 4 = .ok (.getfield 39, 3) := by decide +kernel
theorem dX10_wipe_7 : decode cX10_wipe 7 = .ok (.istore_n 1, 1) := by decide +kernel
theorem dX10_wipe_8 : decode cX10_wipe 8 = .ok (.aload_n 0, 1) := by decide +kernel
theorem dX10_wipe_9 : decode cX10_wipe 9 = .ok (.getfield 10, 3) := by decide +kernel
theorem dX10_wipe_12 : decode cX10_wipe 12 = .ok (.invokevirtual 47, 3) := by decide +kernel
theorem dX10_wipe_15 : decode cX10_wipe 15 = .ok (.iload_n 1, 1) := by decide +kernel
theorem dX10_wipe_16 : decode cX10_wipe 16 = .ok (.ireturn, 1) := by decide +kernel
theorem dX10_run_0 : decode cX10_run 0 = .ok (.aload_n 0, 1) := by decide +kernel
theorem dX10_run_1 : decode cX10_run 1 = .ok (.getfield 10, 3) := by decide +kernel
theorem dX10_run_4 : decode cX10_run 4 = .ok (.iload_n 1, 1) := by decide +kernel
theorem dX10_run_5 : decode cX10_run 5 = .ok (.invokevirtual 50, 3) := by decide +kernel
theorem dX10_run_8 : decode cX10_run 8 = .ok (.ifCond .ne 5, 3) := by decide +kernel
theorem dX10_run_11 : decode cX10_run 11 = .ok (.iconst (-1), 1) := by decide +kernel
theorem dX10_run_12 : decode cX10_run 12 = .ok (.ireturn, 1) := by decide +kernel
theorem dX10_run_13 : decode cX10_run 13 = .ok (.iload_n 2, 1) := by decide +kernel
theorem dX10_run_14 : decode cX10_run 14 = .ok (.iconst 1, 1) := by decide +kernel
theorem dX10_run_15 : decode cX10_run 15 = .ok (.if_icmp .lt 10, 3) := by decide +kernel
theorem dX10_run_18 : decode cX10_run 18 = .ok (.iload_n 2, 1) := by decide +kernel
theorem dX10_run_19 : decode cX10_run 19 = .ok (.sipush 1000, 3) := by decide +kernel
theorem dX10_run_22 : decode cX10_run 22 = .ok (.if_icmp .le 6, 3) := by decide +kernel
theorem dX10_run_25 : decode cX10_run 25 = .ok (.bipush (-2), 2) := by decide +kernel
theorem dX10_run_27 : decode cX10_run 27 = .ok (.ireturn, 1) := by decide +kernel
theorem dX10_run_28 : decode cX10_run 28 = .ok (.aload_n 0, 1) := by decide +kernel
theorem dX10_run_29 : decode cX10_run 29 = .ok (.getfield 54, 3) := by decide +kernel
theorem dX10_run_32 : decode cX10_run 32 = .ok (.sipush 8000, 3) := by decide +kernel
theorem dX10_run_35 : decode cX10_run 35 = .ok (.iload_n 2, 1) := by decide +kernel
theorem dX10_run_36 : decode cX10_run 36 = .ok (.isub, 1) := by decide +kernel
theorem dX10_run_37 : decode cX10_run 37 = .ok (.if_icmp .le 6, 3) := by decide +kernel
theorem dX10_run_40 : decode cX10_run 40 = .ok (.bipush (-3), 2) := by decide +kernel
theorem dX10_run_42 : decode cX10_run 42 = .ok (.ireturn, 1) := by decide +kernel
theorem dX10_run_43 : decode cX10_run 43 = .ok (.aload_n 0, 1) := by decide +kernel
theorem dX10_run_44 : decode cX10_run 44 = .ok (.getfield 35, 3) := by decide +kernel
theorem dX10_run_47 : decode cX10_run 47 = .ok (.iload_n 1, 1) := by decide +kernel
theorem dX10_run_48 : decode cX10_run 48 = .ok (.iload_n 2, 1) := by decide +kernel
theorem dX10_run_49 : decode cX10_run 49 = .ok (.invokevirtual 57, 3) := by decide +kernel
theorem dX10_run_52 : decode cX10_run 52 = .ok (.istore_n 3, 1) := by decide +kernel
theorem dX10_run_53 : decode cX10_run 53 = .ok (.aload_n 0, 1) := by decide +kernel
theorem dX10_run_54 : decode cX10_run 54 = .ok (.dup, 1) := by decide +kernel
theorem dX10_run_55 : decode cX10_run 55 = .ok (.getfield 54, 3) := by decide +kernel
theorem dX10_run_58 : decode cX10_run 58 = .ok (.iload_n 3, 1) := by decide +kernel
theorem dX10_run_59 : decode cX10_run 59 = .ok (.iadd, 1) := by decide +kernel
theorem dX10_run_60 : decode cX10_run 60 = .ok (.putfield 54, 3) := by decide +kernel
theorem dX10_run_63 : decode cX10_run 63 = .ok (.aload_n 0, 1) := by decide +kernel
theorem dX10_run_64 : decode cX10_run 64 = .ok (.dup, 1) := by decide +kernel
theorem dX10_run_65 : decode cX10_run 65 = .ok (.getfield 61, 3) := by decide +kernel
theorem dX10_run_68 : decode cX10_run 68 = .ok (.iconst 1, 1) := by decide +kernel
theorem dX10_run_69 : decode cX10_run 69 = .ok (.iadd, 1) := by decide +kernel
theorem dX10_run_70 : decode cX10_run 70 = .ok (.putfield 61, 3) := by decide +kernel
theorem dX10_run_73 : decode cX10_run 73 = .ok (.iload_n 3, 1) := by decide +kernel
theorem dX10_run_74 : decode cX10_run 74 = .ok (.ireturn, 1) := by decide +kernel
theorem dX10_end_0 : decode cX10_end 0 = .ok (.aload_n 0, 1) := by decide +kernel
theorem dX10_end_1 : decode cX10_end 1 = .ok (.getfield 26, 3) := by decide +kernel
theorem dX10_end_4 : decode cX10_end 4 = .ok (.getfield 64, 3) := by decide +kernel
theorem dX10_end_7 : decode cX10_end 7 = .ok (.ireturn, 1) := by decide +kernel
theorem dX10_result_0 : decode cX10_result 0 = .ok (.aload_n 0, 1) := by decide +kernel
theorem dX10_result_1 : decode cX10_result 1 = .ok (.getfield 26, 3) := by decide +kernel
theorem dX10_result_4 : decode cX10_result 4 = .ok (.getfield 67, 3) := by decide +kernel
theorem dX10_result_7 : decode cX10_result 7 = .ok (.lreturn, 1) := by decide +kernel
theorem dX10_kind_0 : decode cX10_kind 0 = .ok (.aload_n 0, 1) := by decide +kernel
theorem dX10_kind_1 : decode cX10_kind 1 = .ok (.getfield 26, 3) := by decide +kernel
theorem dX10_kind_4 : decode cX10_kind 4 = .ok (.getfield 71, 3) := by decide +kernel
theorem dX10_kind_7 : decode cX10_kind 7 = .ok (.ifnonnull 7, 3) := by decide +kernel
theorem dX10_kind_10 : decode cX10_kind 10 = .ok (.iconst (-1), 1) := by decide +kernel
theorem dX10_kind_11 : decode cX10_kind 11 = .ok (.goto 13, 3) := by decide +kernel
theorem dX10_kind_14 : decode cX10_kind 14 = .ok (.aload_n 0, 1) := by decide +kernel
theorem dX10_kind_15 : decode cX10_kind 15 = .ok (.getfield 26, 3) := by decide +kernel
theorem dX10_kind_18 : decode cX10_kind 18 = .ok (.getfield 71, 3) := by decide +kernel
theorem dX10_kind_21 : decode cX10_kind 21 = .ok (.getfield 75, 3) := by decide +kernel
theorem dX10_kind_24 : decode cX10_kind 24 = .ok (.ireturn, 1) := by decide +kernel
theorem dX10_cause_0 : decode cX10_cause 0 = .ok (.iload_n 1, 1) := by decide +kernel
theorem dX10_cause_1 : decode cX10_cause 1 = .ok (.ifCond .lt 13, 3) := by decide +kernel
theorem dX10_cause_4 : decode cX10_cause 4 = .ok (.aload_n 0, 1) := by decide +kernel
theorem dX10_cause_5 : decode cX10_cause 5 = .ok (.getfield 26, 3) := by decide +kernel
theorem dX10_cause_8 : decode cX10_cause 8 = .ok (.getfield 71, 3) := by decide +kernel
theorem dX10_cause_11 : decode cX10_cause 11 = .ok (.ifnonnull 5, 3) := by decide +kernel
theorem dX10_cause_14 : decode cX10_cause 14 = .ok (.iconst (-1), 1) := by decide +kernel
theorem dX10_cause_15 : decode cX10_cause 15 = .ok (.ireturn, 1) := by decide +kernel
theorem dX10_cause_16 : decode cX10_cause 16 = .ok (.aload_n 0, 1) := by decide +kernel
theorem dX10_cause_17 : decode cX10_cause 17 = .ok (.getfield 26, 3) := by decide +kernel
theorem dX10_cause_20 : decode cX10_cause 20 = .ok (.getfield 71, 3) := by decide +kernel
theorem dX10_cause_23 : decode cX10_cause 23 = .ok (.getfield 80, 3) := by decide +kernel
theorem dX10_cause_26 : decode cX10_cause 26 = .ok (.astore_n 2, 1) := by decide +kernel
theorem dX10_cause_27 : decode cX10_cause 27 = .ok (.iconst 0, 1) := by decide +kernel
theorem dX10_cause_28 : decode cX10_cause 28 = .ok (.istore_n 3, 1) := by decide +kernel
theorem dX10_cause_29 : decode cX10_cause 29 = .ok (.iload_n 3, 1) := by decide +kernel
theorem dX10_cause_30 : decode cX10_cause 30 = .ok (.iload_n 1, 1) := by decide +kernel
theorem dX10_cause_31 : decode cX10_cause 31 = .ok (.if_icmp .ge 18, 3) := by decide +kernel
theorem dX10_cause_34 : decode cX10_cause 34 = .ok (.aload_n 2, 1) := by decide +kernel
theorem dX10_cause_35 : decode cX10_cause 35 = .ok (.ifnull 14, 3) := by decide +kernel
theorem dX10_cause_38 : decode cX10_cause 38 = .ok (.aload_n 2, 1) := by decide +kernel
theorem dX10_cause_39 : decode cX10_cause 39 = .ok (.getfield 80, 3) := by decide +kernel
theorem dX10_cause_42 : decode cX10_cause 42 = .ok (.astore_n 2, 1) := by decide +kernel
theorem dX10_cause_43 : decode cX10_cause 43 = .ok (.iinc 3 1, 3) := by decide +kernel
theorem dX10_cause_46 : decode cX10_cause 46 = .ok (.goto (-17), 3) := by decide +kernel
theorem dX10_cause_49 : decode cX10_cause 49 = .ok (.aload_n 2, 1) := by decide +kernel
theorem dX10_cause_50 : decode cX10_cause 50 = .ok (.ifnonnull 7, 3) := by decide +kernel
theorem dX10_cause_53 : decode cX10_cause 53 = .ok (.iconst (-1), 1) := by decide +kernel
theorem dX10_cause_54 : decode cX10_cause 54 = .ok (.goto 7, 3) := by decide +kernel
theorem dX10_cause_57 : decode cX10_cause 57 = .ok (.aload_n 2, 1) := by decide +kernel
theorem dX10_cause_58 : decode cX10_cause 58 = .ok (.getfield 75, 3) := by decide +kernel
theorem dX10_cause_61 : decode cX10_cause 61 = .ok (.ireturn, 1) := by decide +kernel
theorem dX10_out_0 : decode cX10_out 0 = .ok (.iload_n 1, 1) := by decide +kernel
theorem dX10_out_1 : decode cX10_out 1 = .ok (.ifCond .lt 33, 3) := by decide +kernel
theorem dX10_out_4 : decode cX10_out 4 = .ok (.iload_n 1, 1) := by decide +kernel
theorem dX10_out_5 : decode cX10_out 5 = .ok (.aload_n 0, 1) := by decide +kernel
theorem dX10_out_6 : decode cX10_out 6 = .ok (.getfield 26, 3) := by decide +kernel
theorem dX10_out_9 : decode cX10_out 9 = .ok (.getfield 83, 3) := by decide +kernel
theorem dX10_out_12 : decode cX10_out 12 = .ok (.if_icmp .ge 22, 3) := by decide +kernel
theorem dX10_out_15 : decode cX10_out 15 = .ok (.iload_n 1, 1) := by decide +kernel
theorem dX10_out_16 : decode cX10_out 16 = .ok (.sipush 500, 3) := by decide +kernel
theorem dX10_out_19 : decode cX10_out 19 = .ok (.if_icmp .ge 15, 3) := by decide +kernel
theorem dX10_out_22 : decode cX10_out 22 = .ok (.aload_n 0, 1) := by decide +kernel
theorem dX10_out_23 : decode cX10_out 23 = .ok (.getfield 26, 3) := by decide +kernel
theorem dX10_out_26 : decode cX10_out 26 = .ok (.getfield 86, 3) := by decide +kernel
theorem dX10_out_29 : decode cX10_out 29 = .ok (.iload_n 1, 1) := by decide +kernel
theorem dX10_out_30 : decode cX10_out 30 = .ok (.laload, 1) := by decide +kernel
theorem dX10_out_31 : decode cX10_out 31 = .ok (.goto 4, 3) := by decide +kernel
theorem dX10_out_34 : decode cX10_out 34 = .ok (.lconst 0, 1) := by decide +kernel
theorem dX10_out_35 : decode cX10_out 35 = .ok (.lreturn, 1) := by decide +kernel
theorem dX10_finished_0 : decode cX10_finished 0 = .ok (.iload_n 1, 1) := by decide +kernel
theorem dX10_finished_1 : decode cX10_finished 1 = .ok (.ifCond .lt 33, 3) := by decide +kernel
theorem dX10_finished_4 : decode cX10_finished 4 = .ok (.iload_n 1, 1) := by decide +kernel
theorem dX10_finished_5 : decode cX10_finished 5 = .ok (.aload_n 0, 1) := by decide +kernel
theorem dX10_finished_6 : decode cX10_finished 6 = .ok (.getfield 26, 3) := by decide +kernel
theorem dX10_finished_9 : decode cX10_finished 9 = .ok (.getfield 90, 3) := by decide +kernel
theorem dX10_finished_12 : decode cX10_finished 12 = .ok (.if_icmp .ge 22, 3) := by decide +kernel
theorem dX10_finished_15 : decode cX10_finished 15 = .ok (.iload_n 1, 1) := by decide +kernel
theorem dX10_finished_16 : decode cX10_finished 16 = .ok (.sipush 1000, 3) := by decide +kernel
theorem dX10_finished_19 : decode cX10_finished 19 = .ok (.if_icmp .ge 15, 3) := by decide +kernel
theorem dX10_finished_22 : decode cX10_finished 22 = .ok (.aload_n 0, 1) := by decide +kernel
theorem dX10_finished_23 : decode cX10_finished 23 = .ok (.getfield 26, 3) := by decide +kernel
theorem dX10_finished_26 : decode cX10_finished 26 = .ok (.getfield 93, 3) := by decide +kernel
theorem dX10_finished_29 : decode cX10_finished 29 = .ok (.iload_n 1, 1) := by decide +kernel
theorem dX10_finished_30 : decode cX10_finished 30 = .ok (.iaload, 1) := by decide +kernel
theorem dX10_finished_31 : decode cX10_finished 31 = .ok (.goto 4, 3) := by decide +kernel
theorem dX10_finished_34 : decode cX10_finished 34 = .ok (.iconst (-1), 1) := by decide +kernel
theorem dX10_finished_35 : decode cX10_finished 35 = .ok (.ireturn, 1) := by decide +kernel
theorem dX10_depth_0 : decode cX10_depth 0 = .ok (.aload_n 0, 1) := by decide +kernel
theorem dX10_depth_1 : decode cX10_depth 1 = .ok (.getfield 26, 3) := by decide +kernel
theorem dX10_depth_4 : decode cX10_depth 4 = .ok (.getfield 97, 3) := by decide +kernel
theorem dX10_depth_7 : decode cX10_depth 7 = .ok (.ireturn, 1) := by decide +kernel
theorem dX10_status_0 : decode cX10_status 0 = .ok (.iload_n 1, 1) := by decide +kernel
theorem dX10_status_1 : decode cX10_status 1 = .ok (.tableswitch 105 0 7 #[47, 55, 63, 68, 73, 81, 89, 97], 47) := by decide +kernel
theorem dX10_status_48 : decode cX10_status 48 = .ok (.aload_n 0, 1) := by decide +kernel
theorem dX10_status_49 : decode cX10_status 49 = .ok (.getfield 10, 3) := by decide +kernel
theorem dX10_status_52 : decode cX10_status 52 = .ok (.getfield 39, 3) := by decide +kernel
theorem dX10_status_55 : decode cX10_status 55 = .ok (.ireturn, 1) := by decide +kernel
theorem dX10_status_56 : decode cX10_status 56 = .ok (.aload_n 0, 1) := by decide +kernel
theorem dX10_status_57 : decode cX10_status 57 = .ok (.getfield 10, 3) := by decide +kernel
theorem dX10_status_60 : decode cX10_status 60 = .ok (.getfield 100, 3) := by decide +kernel
theorem dX10_status_63 : decode cX10_status 63 = .ok (.ireturn, 1) := by decide +kernel
theorem dX10_status_64 : decode cX10_status 64 = .ok (.aload_n 0, 1) := by decide +kernel
theorem dX10_status_65 : decode cX10_status 65 = .ok (.getfield 54, 3) := by decide +kernel
theorem dX10_status_68 : decode cX10_status 68 = .ok (.ireturn, 1) := by decide +kernel
theorem dX10_status_69 : decode cX10_status 69 = .ok (.aload_n 0, 1) := by decide +kernel
theorem dX10_status_70 : decode cX10_status 70 = .ok (.getfield 61, 3) := by decide +kernel
theorem dX10_status_73 : decode cX10_status 73 = .ok (.ireturn, 1) := by decide +kernel
theorem dX10_status_74 : decode cX10_status 74 = .ok (.aload_n 0, 1) := by decide +kernel
theorem dX10_status_75 : decode cX10_status 75 = .ok (.getfield 26, 3) := by decide +kernel
theorem dX10_status_78 : decode cX10_status 78 = .ok (.getfield 83, 3) := by decide +kernel
theorem dX10_status_81 : decode cX10_status 81 = .ok (.ireturn, 1) := by decide +kernel
theorem dX10_status_82 : decode cX10_status 82 = .ok (.aload_n 0, 1) := by decide +kernel
theorem dX10_status_83 : decode cX10_status 83 = .ok (.getfield 26, 3) := by decide +kernel
theorem dX10_status_86 : decode cX10_status 86 = .ok (.getfield 90, 3) := by decide +kernel
theorem dX10_status_89 : decode cX10_status 89 = .ok (.ireturn, 1) := by decide +kernel
theorem dX10_status_90 : decode cX10_status 90 = .ok (.aload_n 0, 1) := by decide +kernel
theorem dX10_status_91 : decode cX10_status 91 = .ok (.getfield 26, 3) := by decide +kernel
theorem dX10_status_94 : decode cX10_status 94 = .ok (.invokevirtual 103, 3) := by decide +kernel
theorem dX10_status_97 : decode cX10_status 97 = .ok (.ireturn, 1) := by decide +kernel
theorem dX10_status_98 : decode cX10_status 98 = .ok (.aload_n 0, 1) := by decide +kernel
theorem dX10_status_99 : decode cX10_status 99 = .ok (.getfield 26, 3) := by decide +kernel
theorem dX10_status_102 : decode cX10_status 102 = .ok (.getfield 107, 3) := by decide +kernel
theorem dX10_status_105 : decode cX10_status 105 = .ok (.ireturn, 1) := by decide +kernel
theorem dX10_status_106 : decode cX10_status 106 = .ok (.iconst (-1), 1) := by decide +kernel
theorem dX10_status_107 : decode cX10_status 107 = .ok (.ireturn, 1) := by decide +kernel
theorem dX10_number_0 : decode cX10_number 0 = .ok (.iload_n 1, 1) := by decide +kernel
theorem dX10_number_1 : decode cX10_number 1 = .ok (.invokestatic 110, 3) := by decide +kernel
theorem dX10_number_4 : decode cX10_number 4 = .ok (.ifCond .eq 14, 3) := by decide +kernel
theorem dX10_number_7 : decode cX10_number 7 = .ok (.aload_n 0, 1) := by decide +kernel
theorem dX10_number_8 : decode cX10_number 8 = .ok (.getfield 19, 3) := by decide +kernel
theorem dX10_number_11 : decode cX10_number 11 = .ok (.iload_n 1, 1) := by decide +kernel
theorem dX10_number_12 : decode cX10_number 12 = .ok (.invokevirtual 113, 3) := by decide +kernel
theorem dX10_number_15 : decode cX10_number 15 = .ok (.goto 4, 3) := by decide +kernel
theorem dX10_number_18 : decode cX10_number 18 = .ok (.lconst 0, 1) := by decide +kernel
theorem dX10_number_19 : decode cX10_number 19 = .ok (.lreturn, 1) := by decide +kernel
theorem dX10_hand_0 : decode cX10_hand 0 = .ok (.iload_n 1, 1) := by decide +kernel
theorem dX10_hand_1 : decode cX10_hand 1 = .ok (.invokestatic 110, 3) := by decide +kernel
theorem dX10_hand_4 : decode cX10_hand 4 = .ok (.ifCond .ne 6, 3) := by decide +kernel
theorem dX10_hand_7 : decode cX10_hand 7 = .ok (.bipush (-2), 2) := by decide +kernel
theorem dX10_hand_9 : decode cX10_hand 9 = .ok (.ireturn, 1) := by decide +kernel
theorem dX10_hand_10 : decode cX10_hand 10 = .ok (.aload_n 0, 1) := by decide +kernel
theorem dX10_hand_11 : decode cX10_hand 11 = .ok (.getfield 19, 3) := by decide +kernel
theorem dX10_hand_14 : decode cX10_hand 14 = .ok (.iload_n 1, 1) := by decide +kernel
theorem dX10_hand_15 : decode cX10_hand 15 = .ok (.invokevirtual 117, 3) := by decide +kernel
theorem dX10_hand_18 : decode cX10_hand 18 = .ok (.invokestatic 121, 3) := by decide +kernel
theorem dX10_hand_21 : decode cX10_hand 21 = .ok (.ireturn, 1) := by decide +kernel
theorem dX10_mark_0 : decode cX10_mark 0 = .ok (.iload_n 1, 1) := by decide +kernel
theorem dX10_mark_1 : decode cX10_mark 1 = .ok (.invokestatic 110, 3) := by decide +kernel
theorem dX10_mark_4 : decode cX10_mark 4 = .ok (.ifCond .eq 14, 3) := by decide +kernel
theorem dX10_mark_7 : decode cX10_mark 7 = .ok (.aload_n 0, 1) := by decide +kernel
theorem dX10_mark_8 : decode cX10_mark 8 = .ok (.getfield 19, 3) := by decide +kernel
theorem dX10_mark_11 : decode cX10_mark 11 = .ok (.iload_n 1, 1) := by decide +kernel
theorem dX10_mark_12 : decode cX10_mark 12 = .ok (.invokevirtual 117, 3) := by decide +kernel
theorem dX10_mark_15 : decode cX10_mark 15 = .ok (.goto 4, 3) := by decide +kernel
theorem dX10_mark_18 : decode cX10_mark 18 = .ok (.aconst_null, 1) := by decide +kernel
theorem dX10_mark_19 : decode cX10_mark 19 = .ok (.astore_n 2, 1) := by decide +kernel
theorem dX10_mark_20 : decode cX10_mark 20 = .ok (.aload_n 2, 1) := by decide +kernel
theorem dX10_mark_21 : decode cX10_mark 21 = .ok (.ifnonnull 7, 3) := by decide +kernel
theorem dX10_mark_24 : decode cX10_mark 24 = .ok (.lconst 0, 1) := by decide +kernel
theorem dX10_mark_25 : decode cX10_mark 25 = .ok (.goto 7, 3) := by decide +kernel
theorem dX10_mark_28 : decode cX10_mark 28 = .ok (.aload_n 2, 1) := by decide +kernel
theorem dX10_mark_29 : decode cX10_mark 29 = .ok (.getfield 125, 3) := by decide +kernel
theorem dX10_mark_32 : decode cX10_mark 32 = .ok (.lreturn, 1) := by decide +kernel
theorem dX10_size_0 : decode cX10_size 0 = .ok (.iload_n 1, 1) := by decide +kernel
theorem dX10_size_1 : decode cX10_size 1 = .ok (.invokestatic 110, 3) := by decide +kernel
theorem dX10_size_4 : decode cX10_size 4 = .ok (.ifCond .eq 10, 3) := by decide +kernel
theorem dX10_size_7 : decode cX10_size 7 = .ok (.iload_n 2, 1) := by decide +kernel
theorem dX10_size_8 : decode cX10_size 8 = .ok (.invokestatic 110, 3) := by decide +kernel
theorem dX10_size_11 : decode cX10_size 11 = .ok (.ifCond .ne 6, 3) := by decide +kernel
theorem dX10_size_14 : decode cX10_size 14 = .ok (.bipush (-2), 2) := by decide +kernel
theorem dX10_size_16 : decode cX10_size 16 = .ok (.ireturn, 1) := by decide +kernel
theorem dX10_size_17 : decode cX10_size 17 = .ok (.aload_n 0, 1) := by decide +kernel
theorem dX10_size_18 : decode cX10_size 18 = .ok (.getfield 19, 3) := by decide +kernel
theorem dX10_size_21 : decode cX10_size 21 = .ok (.iload_n 1, 1) := by decide +kernel
theorem dX10_size_22 : decode cX10_size 22 = .ok (.iload_n 2, 1) := by decide +kernel
theorem dX10_size_23 : decode cX10_size 23 = .ok (.invokevirtual 130, 3) := by decide +kernel
theorem dX10_size_26 : decode cX10_size 26 = .ok (.astore_n 3, 1) := by decide +kernel
theorem dX10_size_27 : decode cX10_size 27 = .ok (.aload_n 3, 1) := by decide +kernel
theorem dX10_size_28 : decode cX10_size 28 = .ok (.ifnonnull 7, 3) := by decide +kernel
theorem dX10_size_31 : decode cX10_size 31 = .ok (.iconst (-1), 1) := by decide +kernel
theorem dX10_size_32 : decode cX10_size 32 = .ok (.goto 7, 3) := by decide +kernel
theorem dX10_size_35 : decode cX10_size 35 = .ok (.aload_n 3, 1) := by decide +kernel
theorem dX10_size_36 : decode cX10_size 36 = .ok (.getfield 134, 3) := by decide +kernel
theorem dX10_size_39 : decode cX10_size 39 = .ok (.ireturn, 1) := by decide +kernel
theorem dX10_value_0 : decode cX10_value 0 = .ok (.iload_n 1, 1) := by decide +kernel
theorem dX10_value_1 : decode cX10_value 1 = .ok (.invokestatic 110, 3) := by decide +kernel
theorem dX10_value_4 : decode cX10_value 4 = .ok (.ifCond .eq 22, 3) := by decide +kernel
theorem dX10_value_7 : decode cX10_value 7 = .ok (.iload_n 2, 1) := by decide +kernel
theorem dX10_value_8 : decode cX10_value 8 = .ok (.invokestatic 110, 3) := by decide +kernel
theorem dX10_value_11 : decode cX10_value 11 = .ok (.ifCond .eq 15, 3) := by decide +kernel
theorem dX10_value_14 : decode cX10_value 14 = .ok (.aload_n 0, 1) := by decide +kernel
theorem dX10_value_15 : decode cX10_value 15 = .ok (.getfield 19, 3) := by decide +kernel
theorem dX10_value_18 : decode cX10_value 18 = .ok (.iload_n 1, 1) := by decide +kernel
theorem dX10_value_19 : decode cX10_value 19 = .ok (.iload_n 2, 1) := by decide +kernel
theorem dX10_value_20 : decode cX10_value 20 = .ok (.invokevirtual 130, 3) := by decide +kernel
theorem dX10_value_23 : decode cX10_value 23 = .ok (.goto 4, 3) := by decide +kernel
theorem dX10_value_26 : decode cX10_value 26 = .ok (.aconst_null, 1) := by decide +kernel
theorem dX10_value_27 : decode cX10_value 27 = .ok (.astore 4, 2) := by decide +kernel
theorem dX10_value_29 : decode cX10_value 29 = .ok (.aload 4, 2) := by decide +kernel
theorem dX10_value_31 : decode cX10_value 31 = .ok (.ifnull 12, 3) := by decide +kernel
theorem dX10_value_34 : decode cX10_value 34 = .ok (.aload 4, 2) := by decide +kernel
theorem dX10_value_36 : decode cX10_value 36 = .ok (.iload_n 3, 1) := by decide +kernel
theorem dX10_value_37 : decode cX10_value 37 = .ok (.invokevirtual 139, 3) := by decide +kernel
theorem dX10_value_40 : decode cX10_value 40 = .ok (.ifCond .ne 5, 3) := by decide +kernel
theorem dX10_value_43 : decode cX10_value 43 = .ok (.lconst 0, 1) := by decide +kernel
theorem dX10_value_44 : decode cX10_value 44 = .ok (.lreturn, 1) := by decide +kernel
theorem dX10_value_45 : decode cX10_value 45 = .ok (.iload_n 1, 1) := by decide +kernel
theorem dX10_value_46 : decode cX10_value 46 = .ok (.bipush 7, 2) := by decide +kernel
theorem dX10_value_48 : decode cX10_value 48 = .ok (.if_icmp .ne 16, 3) := by decide +kernel
theorem dX10_value_51 : decode cX10_value 51 = .ok (.aload 4, 2) := by decide +kernel
theorem dX10_value_53 : decode cX10_value 53 = .ok (.iload_n 3, 1) := by decide +kernel
theorem dX10_value_54 : decode cX10_value 54 = .ok (.invokevirtual 142, 3) := by decide +kernel
theorem dX10_value_57 : decode cX10_value 57 = .ok (.invokestatic 121, 3) := by decide +kernel
theorem dX10_value_60 : decode cX10_value 60 = .ok (.i2l, 1) := by decide +kernel
theorem dX10_value_61 : decode cX10_value 61 = .ok (.goto 9, 3) := by decide +kernel
theorem dX10_value_64 : decode cX10_value 64 = .ok (.aload 4, 2) := by decide +kernel
theorem dX10_value_66 : decode cX10_value 66 = .ok (.iload_n 3, 1) := by decide +kernel
theorem dX10_value_67 : decode cX10_value 67 = .ok (.invokevirtual 145, 3) := by decide +kernel
theorem dX10_value_70 : decode cX10_value 70 = .ok (.lreturn, 1) := by decide +kernel
theorem dX10_grid_0 : decode cX10_grid 0 = .ok (.aload_n 0, 1) := by decide +kernel
theorem dX10_grid_1 : decode cX10_grid 1 = .ok (.getfield 19, 3) := by decide +kernel
theorem dX10_grid_4 : decode cX10_grid 4 = .ok (.getfield 148, 3) := by decide +kernel
theorem dX10_grid_7 : decode cX10_grid 7 = .ok (.iload_n 1, 1) := by decide +kernel
theorem dX10_grid_8 : decode cX10_grid 8 = .ok (.iload_n 2, 1) := by decide +kernel
theorem dX10_grid_9 : decode cX10_grid 9 = .ok (.invokevirtual 152, 3) := by decide +kernel
theorem dX10_grid_12 : decode cX10_grid 12 = .ok (.ifCond .eq 18, 3) := by decide +kernel
theorem dX10_grid_15 : decode cX10_grid 15 = .ok (.aload_n 0, 1) := by decide +kernel
theorem dX10_grid_16 : decode cX10_grid 16 = .ok (.getfield 19, 3) := by decide +kernel
theorem dX10_grid_19 : decode cX10_grid 19 = .ok (.getfield 148, 3) := by decide +kernel
theorem dX10_grid_22 : decode cX10_grid 22 = .ok (.iload_n 1, 1) := by decide +kernel
theorem dX10_grid_23 : decode cX10_grid 23 = .ok (.iload_n 2, 1) := by decide +kernel
theorem dX10_grid_24 : decode cX10_grid 24 = .ok (.invokevirtual 157, 3) := by decide +kernel
theorem dX10_grid_27 : decode cX10_grid 27 = .ok (.goto 4, 3) := by decide +kernel
theorem dX10_grid_30 : decode cX10_grid 30 = .ok (.iconst 0, 1) := by decide +kernel
theorem dX10_grid_31 : decode cX10_grid 31 = .ok (.ireturn, 1) := by decide +kernel
theorem dX10_isOfEight_0 : decode cX10_isOfEight 0 = .ok (.iload_n 0, 1) := by decide +kernel
theorem dX10_isOfEight_1 : decode cX10_isOfEight 1 = .ok (.ifCond .lt 13, 3) := by decide +kernel
theorem dX10_isOfEight_4 : decode cX10_isOfEight 4 = .ok (.iload_n 0, 1) := by decide +kernel
theorem dX10_isOfEight_5 : decode cX10_isOfEight 5 = .ok (.bipush 8, 2) := by decide +kernel
theorem dX10_isOfEight_7 : decode cX10_isOfEight 7 = .ok (.if_icmp .ge 7, 3) := by decide +kernel
theorem dX10_isOfEight_10 : decode cX10_isOfEight 10 = .ok (.iconst 1, 1) := by decide +kernel
theorem dX10_isOfEight_11 : decode cX10_isOfEight 11 = .ok (.goto 4, 3) := by decide +kernel
theorem dX10_isOfEight_14 : decode cX10_isOfEight 14 = .ok (.iconst 0, 1) := by decide +kernel
theorem dX10_isOfEight_15 : decode cX10_isOfEight 15 = .ok (.ireturn, 1) := by decide +kernel
theorem dX10_kindOf_0 : decode cX10_kindOf 0 = .ok (.aload_n 0, 1) := by decide +kernel
theorem dX10_kindOf_1 : decode cX10_kindOf 1 = .ok (.ifnonnull 7, 3) := by decide +kernel
theorem dX10_kindOf_4 : decode cX10_kindOf 4 = .ok (.iconst (-1), 1) := by decide +kernel
theorem dX10_kindOf_5 : decode cX10_kindOf 5 = .ok (.goto 7, 3) := by decide +kernel
theorem dX10_kindOf_8 : decode cX10_kindOf 8 = .ok (.aload_n 0, 1) := by decide +kernel
theorem dX10_kindOf_9 : decode cX10_kindOf 9 = .ok (.getfield 160, 3) := by decide +kernel
theorem dX10_kindOf_12 : decode cX10_kindOf 12 = .ok (.ireturn, 1) := by decide +kernel
theorem dX11_init_0 : decode cX11_init 0 = .ok (.aload_n 0, 1) := by decide +kernel
theorem dX11_init_1 : decode cX11_init 1 = .ok (.invokespecial 1, 3) := by decide +kernel
theorem dX11_init_4 : decode cX11_init 4 = .ok (.aload_n 0, 1) := by decide +kernel
theorem dX11_init_5 : decode cX11_init 5 = .ok (.sipush 2000, 3) := by decide +kernel
theorem dX11_init_8 : decode cX11_init 8 = .ok (.newarray .int, 2) := by decide +kernel
theorem dX11_init_10 : decode cX11_init 10 = .ok (.putfield 7, 3) := by decide +kernel
theorem dX11_init_13 : decode cX11_init 13 = .ok (.aload_n 0, 1) := by decide +kernel
theorem dX11_init_14 : decode cX11_init 14 = .ok (.sipush 2000, 3) := by decide +kernel
theorem dX11_init_17 : decode cX11_init 17 = .ok (.newarray .int, 2) := by decide +kernel
theorem dX11_init_19 : decode cX11_init 19 = .ok (.putfield 13, 3) := by decide +kernel
theorem dX11_init_22 : decode cX11_init 22 = .ok (.aload_n 0, 1) := by decide +kernel
theorem dX11_init_23 : decode cX11_init 23 = .ok (.sipush 2000, 3) := by decide +kernel
theorem dX11_init_26 : decode cX11_init 26 = .ok (.newarray .int, 2) := by decide +kernel
theorem dX11_init_28 : decode cX11_init 28 = .ok (.putfield 16, 3) := by decide +kernel
theorem dX11_init_31 : decode cX11_init 31 = .ok (.aload_n 0, 1) := by decide +kernel
theorem dX11_init_32 : decode cX11_init 32 = .ok (.sipush 2000, 3) := by decide +kernel
theorem dX11_init_35 : decode cX11_init 35 = .ok (.newarray .int, 2) := by decide +kernel
theorem dX11_init_37 : decode cX11_init 37 = .ok (.putfield 19, 3) := by decide +kernel
theorem dX11_init_40 : decode cX11_init 40 = .ok (.aload_n 0, 1) := by decide +kernel
theorem dX11_init_41 : decode cX11_init 41 = .ok (.sipush 2000, 3) := by decide +kernel
theorem dX11_init_44 : decode cX11_init 44 = .ok (.newarray .int, 2) := by decide +kernel
theorem dX11_init_46 : decode cX11_init 46 = .ok (.putfield 22, 3) := by decide +kernel
theorem dX11_init_49 : decode cX11_init 49 = .ok (.aload_n 0, 1) := by decide +kernel
theorem dX11_init_50 : decode cX11_init 50 = .ok (.sipush 2000, 3) := by decide +kernel
theorem dX11_init_53 : decode cX11_init 53 = .ok (.newarray .int, 2) := by decide +kernel
theorem dX11_init_55 : decode cX11_init 55 = .ok (.putfield 25, 3) := by decide +kernel
theorem dX11_init_58 : decode cX11_init 58 = .ok (.aload_n 0, 1) := by decide +kernel
theorem dX11_init_59 : decode cX11_init 59 = .ok (.sipush 2000, 3) := by decide +kernel
theorem dX11_init_62 : decode cX11_init 62 = .ok (.newarray .int, 2) := by decide +kernel
theorem dX11_init_64 : decode cX11_init 64 = .ok (.putfield 28, 3) := by decide +kernel
theorem dX11_init_67 : decode cX11_init 67 = .ok (.aload_n 0, 1) := by decide +kernel
theorem dX11_init_68 : decode cX11_init 68 = .ok (.sipush 2000, 3) := by decide +kernel
theorem dX11_init_71 : decode cX11_init 71 = .ok (.newarray .int, 2) := by decide +kernel
theorem dX11_init_73 : decode cX11_init 73 = .ok (.putfield 31, 3) := by decide +kernel
theorem dX11_init_76 : decode cX11_init 76 = .ok (.aload_n 0, 1) := by decide +kernel
theorem dX11_init_77 : decode cX11_init 77 = .ok (.sipush 2000, 3) := by decide +kernel
theorem dX11_init_80 : decode cX11_init 80 = .ok (.newarray .int, 2) := by decide +kernel
theorem dX11_init_82 : decode cX11_init 82 = .ok (.putfield 34, 3) := by decide +kernel
theorem dX11_init_85 : decode cX11_init 85 = .ok (.aload_n 0, 1) := by decide +kernel
theorem dX11_init_86 : decode cX11_init 86 = .ok (.sipush 2000, 3) := by decide +kernel
theorem dX11_init_89 : decode cX11_init 89 = .ok (.newarray .int, 2) := by decide +kernel
theorem dX11_init_91 : decode cX11_init 91 = .ok (.putfield 37, 3) := by decide +kernel
theorem dX11_init_94 : decode cX11_init 94 = .ok (.aload_n 0, 1) := by decide +kernel
theorem dX11_init_95 : decode cX11_init 95 = .ok (.sipush 2000, 3) := by decide +kernel
theorem dX11_init_98 : decode cX11_init 98 = .ok (.newarray .int, 2) := by decide +kernel
theorem dX11_init_100 : decode cX11_init 100 = .ok (.putfield 40, 3) := by decide +kernel
theorem dX11_init_103 : decode cX11_init 103 = .ok (.aload_n 0, 1) := by decide +kernel
theorem dX11_init_104 : decode cX11_init 104 = .ok (.bipush 8, 2) := by decide +kernel
theorem dX11_init_106 : decode cX11_init 106 = .ok (.newarray .long, 2) := by decide +kernel
theorem dX11_init_108 : decode cX11_init 108 = .ok (.putfield 43, 3) := by decide +kernel
theorem dX11_init_111 : decode cX11_init 111 = .ok (.aload_n 0, 1) := by decide +kernel
theorem dX11_init_112 : decode cX11_init 112 = .ok (.bipush 8, 2) := by decide +kernel
theorem dX11_init_114 : decode cX11_init 114 = .ok (.newarray .int, 2) := by decide +kernel
theorem dX11_init_116 : decode cX11_init 116 = .ok (.putfield 47, 3) := by decide +kernel
theorem dX11_init_119 : decode cX11_init 119 = .ok (.aload_n 0, 1) := by decide +kernel
theorem dX11_init_120 : decode cX11_init 120 = .ok (.sipush 8001, 3) := by decide +kernel
theorem dX11_init_123 : decode cX11_init 123 = .ok (.newarray .int, 2) := by decide +kernel
theorem dX11_init_125 : decode cX11_init 125 = .ok (.putfield 50, 3) := by decide +kernel
theorem dX11_init_128 : decode cX11_init 128 = .ok (.aload_n 0, 1) := by decide +kernel
theorem dX11_init_129 : decode cX11_init 129 = .ok (.sipush 8001, 3) := by decide +kernel
theorem dX11_init_132 : decode cX11_init 132 = .ok (.newarray .long, 2) := by decide +kernel
theorem dX11_init_134 : decode cX11_init 134 = .ok (.putfield 53, 3) := by decide +kernel
theorem dX11_init_137 : decode cX11_init 137 = .ok (.aload_n 0, 1) := by decide +kernel
theorem dX11_init_138 : decode cX11_init 138 = .ok (.bipush 64, 2) := by decide +kernel
theorem dX11_init_140 : decode cX11_init 140 = .ok (.newarray .int, 2) := by decide +kernel
theorem dX11_init_142 : decode cX11_init 142 = .ok (.putfield 56, 3) := by decide +kernel
theorem dX11_init_145 : decode cX11_init 145 = .ok (.aload_n 0, 1) := by decide +kernel
theorem dX11_init_146 : decode cX11_init 146 = .ok (.bipush 64, 2) := by decide +kernel
theorem dX11_init_148 : decode cX11_init 148 = .ok (.newarray .boolean, 2) := by decide +kernel
theorem dX11_init_150 : decode cX11_init 150 = .ok (.putfield 59, 3) := by decide +kernel
theorem dX11_init_153 : decode cX11_init 153 = .ok (.aload_n 0, 1) := by decide +kernel
theorem dX11_init_154 : decode cX11_init 154 = .ok (.sipush 4096, 3) := by decide +kernel
theorem dX11_init_157 : decode cX11_init 157 = .ok (.newarray .long, 2) := by decide +kernel
theorem dX11_init_159 : decode cX11_init 159 = .ok (.putfield 63, 3) := by decide +kernel
theorem dX11_init_162 : decode cX11_init 162 = .ok (.aload_n 0, 1) := by decide +kernel
theorem dX11_init_163 : decode cX11_init 163 = .ok (.bipush 64, 2) := by decide +kernel
theorem dX11_init_165 : decode cX11_init 165 = .ok (.newarray .int, 2) := by decide +kernel
theorem dX11_init_167 : decode cX11_init 167 = .ok (.putfield 66, 3) := by decide +kernel
theorem dX11_init_170 : decode cX11_init 170 = .ok (.aload_n 0, 1) := by decide +kernel
theorem dX11_init_171 : decode cX11_init 171 = .ok (.sipush 201, 3) := by decide +kernel
theorem dX11_init_174 : decode cX11_init 174 = .ok (.newarray .int, 2) := by decide +kernel
theorem dX11_init_176 : decode cX11_init 176 = .ok (.putfield 69, 3) := by decide +kernel
theorem dX11_init_179 : decode cX11_init 179 = .ok (.aload_n 0, 1) := by decide +kernel
theorem dX11_init_180 : decode cX11_init 180 = .ok (.sipush 201, 3) := by decide +kernel
theorem dX11_init_183 : decode cX11_init 183 = .ok (.newarray .int, 2) := by decide +kernel
theorem dX11_init_185 : decode cX11_init 185 = .ok (.putfield 72, 3) := by decide +kernel
theorem dX11_init_188 : decode cX11_init 188 = .ok (.aload_n 0, 1) := by decide +kernel
theorem dX11_init_189 : decode cX11_init 189 = .ok (.sipush 201, 3) := by decide +kernel
theorem dX11_init_192 : decode cX11_init 192 = .ok (.newarray .int, 2) := by decide +kernel
theorem dX11_init_194 : decode cX11_init 194 = .ok (.putfield 75, 3) := by decide +kernel
theorem dX11_init_197 : decode cX11_init 197 = .ok (.aload_n 0, 1) := by decide +kernel
theorem dX11_init_198 : decode cX11_init 198 = .ok (.sipush 201, 3) := by decide +kernel
theorem dX11_init_201 : decode cX11_init 201 = .ok (.newarray .int, 2) := by decide +kernel
theorem dX11_init_203 : decode cX11_init 203 = .ok (.putfield 78, 3) := by decide +kernel
theorem dX11_init_206 : decode cX11_init 206 = .ok (.aload_n 0, 1) := by decide +kernel
theorem dX11_init_207 : decode cX11_init 207 = .ok (.sipush 201, 3) := by decide +kernel
theorem dX11_init_210 : decode cX11_init 210 = .ok (.newarray .int, 2) := by decide +kernel
theorem dX11_init_212 : decode cX11_init 212 = .ok (.putfield 81, 3) := by decide +kernel
theorem dX11_init_215 : decode cX11_init 215 = .ok (.aload_n 0, 1) := by decide +kernel
theorem dX11_init_216 : decode cX11_init 216 = .ok (.sipush 201, 3) := by decide +kernel
theorem dX11_init_219 : decode cX11_init 219 = .ok (.newarray .int, 2) := by decide +kernel
theorem dX11_init_221 : decode cX11_init 221 = .ok (.putfield 84, 3) := by decide +kernel
theorem dX11_init_224 : decode cX11_init 224 = .ok (.aload_n 0, 1) := by decide +kernel
theorem dX11_init_225 : decode cX11_init 225 = .ok (.sipush 201, 3) := by decide +kernel
theorem dX11_init_228 : decode cX11_init 228 = .ok (.newarray .long, 2) := by decide +kernel
theorem dX11_init_230 : decode cX11_init 230 = .ok (.putfield 87, 3) := by decide +kernel
theorem dX11_init_233 : decode cX11_init 233 = .ok (.aload_n 0, 1) := by decide +kernel
theorem dX11_init_234 : decode cX11_init 234 = .ok (.sipush 201, 3) := by decide +kernel
theorem dX11_init_237 : decode cX11_init 237 = .ok (.newarray .int, 2) := by decide +kernel
theorem dX11_init_239 : decode cX11_init 239 = .ok (.putfield 90, 3) := by decide +kernel
theorem dX11_init_242 : decode cX11_init 242 = .ok (.aload_n 0, 1) := by decide +kernel
theorem dX11_init_243 : decode cX11_init 243 = .ok (.sipush 1002, 3) := by decide +kernel
theorem dX11_init_246 : decode cX11_init 246 = .ok (.newarray .int, 2) := by decide +kernel
theorem dX11_init_248 : decode cX11_init 248 = .ok (.putfield 93, 3) := by decide +kernel
theorem dX11_init_251 : decode cX11_init 251 = .ok (.aload_n 0, 1) := by decide +kernel
theorem dX11_init_252 : decode cX11_init 252 = .ok (.sipush 1002, 3) := by decide +kernel
theorem dX11_init_255 : decode cX11_init 255 = .ok (.newarray .int, 2) := by decide +kernel
theorem dX11_init_257 : decode cX11_init 257 = .ok (.putfield 96, 3) := by decide +kernel
theorem dX11_init_260 : decode cX11_init 260 = .ok (.aload_n 0, 1) := by decide +kernel
theorem dX11_init_261 : decode cX11_init 261 = .ok (.iconst (-1), 1) := by decide +kernel
theorem dX11_init_262 : decode cX11_init 262 = .ok (.putfield 99, 3) := by decide +kernel
theorem dX11_init_265 : decode cX11_init 265 = .ok (.aload_n 0, 1) := by decide +kernel
theorem dX11_init_266 : decode cX11_init 266 = .ok (.sipush 500, 3) := by decide +kernel
theorem dX11_init_269 : decode cX11_init 269 = .ok (.newarray .long, 2) := by decide +kernel
theorem dX11_init_271 : decode cX11_init 271 = .ok (.putfield 103, 3) := by decide +kernel
theorem dX11_init_274 : decode cX11_init 274 = .ok (.aload_n 0, 1) := by decide +kernel
theorem dX11_init_275 : decode cX11_init 275 = .ok (.sipush 1002, 3) := by decide +kernel
theorem dX11_init_278 : decode cX11_init 278 = .ok (.newarray .int, 2) := by decide +kernel
theorem dX11_init_280 : decode cX11_init 280 = .ok (.putfield 106, 3) := by decide +kernel
theorem dX11_init_283 : decode cX11_init 283 = .ok (.iconst 0, 1) := by decide +kernel
theorem dX11_init_284 : decode cX11_init 284 = .ok (.istore_n 1, 1) := by decide +kernel
theorem dX11_init_285 : decode cX11_init 285 = .ok (.iload_n 1, 1) := by decide +kernel
theorem dX11_init_286 : decode cX11_init 286 = .ok (.bipush 64, 2) := by decide +kernel
theorem dX11_init_288 : decode cX11_init 288 = .ok (.if_icmp .ge 16, 3) := by decide +kernel
theorem dX11_init_291 : decode cX11_init 291 = .ok (.aload_n 0, 1) := by decide +kernel
theorem dX11_init_292 : decode cX11_init 292 = .ok (.getfield 56, 3) := by decide +kernel
theorem dX11_init_295 : decode cX11_init 295 = .ok (.iload_n 1, 1) := by decide +kernel
theorem dX11_init_296 : decode cX11_init 296 = .ok (.iconst (-1), 1) := by decide +kernel
theorem dX11_init_297 : decode cX11_init 297 = .ok (.iastore, 1) := by decide +kernel
theorem dX11_init_298 : decode cX11_init 298 = .ok (.iinc 1 1, 3) := by decide +kernel
theorem dX11_init_301 : decode cX11_init 301 = .ok (.goto (-16), 3) := by decide +kernel
theorem dX11_init_304 : decode cX11_init 304 = .ok (.return_, 1) := by decide +kernel
theorem dX11_step_0 : decode cX11_step 0 = .ok (.iload_n 1, 1) := by decide +kernel
theorem dX11_step_1 : decode cX11_step 1 = .ok (.ifCond .lt 9, 3) := by decide +kernel
theorem dX11_step_4 : decode cX11_step 4 = .ok (.iload_n 1, 1) := by decide +kernel
theorem dX11_step_5 : decode cX11_step 5 = .ok (.bipush 35, 2) := by decide +kernel
theorem dX11_step_7 : decode cX11_step 7 = .ok (.if_icmp .le 5, 3) := by decide +kernel
theorem dX11_step_10 : decode cX11_step 10 = .ok (.iconst (-1), 1) := by decide +kernel
theorem dX11_step_11 : decode cX11_step 11 = .ok (.ireturn, 1) := by decide +kernel
theorem dX11_step_12 : decode cX11_step 12 = .ok (.aload_n 0, 1) := by decide +kernel
theorem dX11_step_13 : decode cX11_step 13 = .ok (.getfield 109, 3) := by decide +kernel
theorem dX11_step_16 : decode cX11_step 16 = .ok (.sipush 2000, 3) := by decide +kernel
theorem dX11_step_19 : decode cX11_step 19 = .ok (.if_icmp .ne 6, 3) := by decide +kernel
theorem dX11_step_22 : decode cX11_step 22 = .ok (.bipush (-2), 2) := by decide +kernel
theorem dX11_step_24 : decode cX11_step 24 = .ok (.ireturn, 1) := by decide +kernel
theorem dX11_step_25 : decode cX11_step 25 = .ok (.aload_n 0, 1) := by decide +kernel
theorem dX11_step_26 : decode cX11_step 26 = .ok (.getfield 7, 3) := by decide +kernel
theorem dX11_step_29 : decode cX11_step 29 = .ok (.aload_n 0, 1) := by decide +kernel
theorem dX11_step_30 : decode cX11_step 30 = .ok (.getfield 109, 3) := by decide +kernel
theorem dX11_step_33 : decode cX11_step 33 = .ok (.iload_n 1, 1) := by decide +kernel
theorem dX11_step_34 : decode cX11_step 34 = .ok (.iastore, 1) := by decide +kernel
theorem dX11_step_35 : decode cX11_step 35 = .ok (.aload_n 0, 1) := by decide +kernel
theorem dX11_step_36 : decode cX11_step 36 = .ok (.getfield 13, 3) := by decide +kernel
theorem dX11_step_39 : decode cX11_step 39 = .ok (.aload_n 0, 1) := by decide +kernel
theorem dX11_step_40 : decode cX11_step 40 = .ok (.getfield 109, 3) := by decide +kernel
theorem dX11_step_43 : decode cX11_step 43 = .ok (.iload_n 2, 1) := by decide +kernel
theorem dX11_step_44 : decode cX11_step 44 = .ok (.iastore, 1) := by decide +kernel
theorem dX11_step_45 : decode cX11_step 45 = .ok (.aload_n 0, 1) := by decide +kernel
theorem dX11_step_46 : decode cX11_step 46 = .ok (.getfield 16, 3) := by decide +kernel
theorem dX11_step_49 : decode cX11_step 49 = .ok (.aload_n 0, 1) := by decide +kernel
theorem dX11_step_50 : decode cX11_step 50 = .ok (.getfield 109, 3) := by decide +kernel
theorem dX11_step_53 : decode cX11_step 53 = .ok (.iload_n 3, 1) := by decide +kernel
theorem dX11_step_54 : decode cX11_step 54 = .ok (.iastore, 1) := by decide +kernel
theorem dX11_step_55 : decode cX11_step 55 = .ok (.aload_n 0, 1) := by decide +kernel
theorem dX11_step_56 : decode cX11_step 56 = .ok (.getfield 19, 3) := by decide +kernel
theorem dX11_step_59 : decode cX11_step 59 = .ok (.aload_n 0, 1) := by decide +kernel
theorem dX11_step_60 : decode cX11_step 60 = .ok (.getfield 109, 3) := by decide +kernel
theorem dX11_step_63 : decode cX11_step 63 = .ok (.iload 4, 2) := by decide +kernel
theorem dX11_step_65 : decode cX11_step 65 = .ok (.iastore, 1) := by decide +kernel
theorem dX11_step_66 : decode cX11_step 66 = .ok (.aload_n 0, 1) := by decide +kernel
theorem dX11_step_67 : decode cX11_step 67 = .ok (.dup, 1) := by decide +kernel
theorem dX11_step_68 : decode cX11_step 68 = .ok (.getfield 109, 3) := by decide +kernel
theorem dX11_step_71 : decode cX11_step 71 = .ok (.iconst 1, 1) := by decide +kernel
theorem dX11_step_72 : decode cX11_step 72 = .ok (.iadd, 1) := by decide +kernel
theorem dX11_step_73 : decode cX11_step 73 = .ok (.putfield 109, 3) := by decide +kernel
theorem dX11_step_76 : decode cX11_step 76 = .ok (.aload_n 0, 1) := by decide +kernel
theorem dX11_step_77 : decode cX11_step 77 = .ok (.getfield 109, 3) := by decide +kernel
theorem dX11_step_80 : decode cX11_step 80 = .ok (.ireturn, 1) := by decide +kernel
theorem dX11_wipe_0 : decode cX11_wipe 0 = .ok (.aload_n 0, 1) := by decide +kernel
theorem dX11_wipe_1 : decode cX11_wipe 1 = .ok (.getfield 109, 3) := by decide +kernel
theorem dX11_wipe_4 : decode cX11_wipe 4 = .ok (.istore_n 1, 1) := by decide +kernel
theorem dX11_wipe_5 : decode cX11_wipe 5 = .ok (.aload_n 0, 1) := by decide +kernel
theorem dX11_wipe_6 : decode cX11_wipe 6 = .ok (.iconst 0, 1) := by decide +kernel
theorem dX11_wipe_7 : decode cX11_wipe 7 = .ok (.putfield 109, 3) := by decide +kernel
theorem dX11_wipe_10 : decode cX11_wipe 10 = .ok (.iload_n 1, 1) := by decide +kernel
theorem dX11_wipe_11 : decode cX11_wipe 11 = .ok (.ireturn, 1) := by decide +kernel
theorem dX11_isMark_0 : decode cX11_isMark 0 = .ok (.aload_n 0, 1) := by decide +kernel
theorem dX11_isMark_1 : decode cX11_isMark 1 = .ok (.getfield 7, 3) := by decide +kernel
theorem dX11_isMark_4 : decode cX11_isMark 4 = .ok (.iload_n 1, 1) := by decide +kernel
theorem dX11_isMark_5 : decode cX11_isMark 5 = .ok (.iaload, 1) := by decide +kernel
theorem dX11_isMark_6 : decode cX11_isMark 6 = .ok (.bipush 35, 2) := by decide +kernel
theorem dX11_isMark_8 : decode cX11_isMark 8 = .ok (.if_icmp .ne 18, 3) := by decide +kernel
theorem dX11_isMark_11 : decode cX11_isMark 11 = .ok (.aload_n 0, 1) := by decide +kernel
theorem dX11_isMark_12 : decode cX11_isMark 12 = .ok (.getfield 19, 3) := by decide +kernel
theorem dX11_isMark_15 : decode cX11_isMark 15 = .ok (.iload_n 1, 1) := by decide +kernel
theorem dX11_isMark_16 : decode cX11_isMark 16 = .ok (.iaload, 1) := by decide +kernel
theorem dX11_isMark_17 : decode cX11_isMark 17 = .ok (.iconst 1, 1) := by decide +kernel
theorem dX11_isMark_18 : decode cX11_isMark 18 = .ok (.iand, 1) := by decide +kernel
theorem dX11_isMark_19 : decode cX11_isMark 19 = .ok (.ifCond .ne 7, 3) := by decide +kernel
theorem dX11_isMark_22 : decode cX11_isMark 22 = .ok (.iconst 1, 1) := by decide +kernel
theorem dX11_isMark_23 : decode cX11_isMark 23 = .ok (.goto 4, 3) := by decide +kernel
theorem dX11_isMark_26 : decode cX11_isMark 26 = .ok (.iconst 0, 1) := by decide +kernel
theorem dX11_isMark_27 : decode cX11_isMark 27 = .ok (.ireturn, 1) := by decide +kernel
theorem dX11_layOut_0 : decode cX11_layOut 0 = .ok (.aload_n 0, 1) := by decide +kernel
theorem dX11_layOut_1 : decode cX11_layOut 1 = .ok (.iconst 0, 1) := by decide +kernel
theorem dX11_layOut_2 : decode cX11_layOut 2 = .ok (.putfield 112, 3) := by decide +kernel
theorem dX11_layOut_5 : decode cX11_layOut 5 = .ok (.iconst 0, 1) := by decide +kernel
theorem dX11_layOut_6 : decode cX11_layOut 6 = .ok (.istore_n 1, 1) := by decide +kernel
theorem dX11_layOut_7 : decode cX11_layOut 7 = .ok (.iload_n 1, 1) := by decide +kernel
theorem dX11_layOut_8 : decode cX11_layOut 8 = .ok (.aload_n 0, 1) := by decide +kernel
theorem dX11_layOut_9 : decode cX11_layOut 9 = .ok (.getfield 109, 3) := by decide +kernel
theorem dX11_layOut_12 : decode cX11_layOut 12 = .ok (.if_icmp .ge 71, 3) := by decide +kernel
theorem dX11_layOut_15 : decode cX11_layOut 15 = .ok (.aload_n 0, 1) := by decide +kernel
theorem dX11_layOut_16 : decode cX11_layOut 16 = .ok (.iload_n 1, 1) := by decide +kernel
theorem dX11_layOut_17 : decode cX11_layOut 17 = .ok (.invokevirtual 115, 3) := by decide +kernel
theorem dX11_layOut_20 : decode cX11_layOut 20 = .ok (.ifCond .eq 57, 3) := by decide +kernel
theorem dX11_layOut_23 : decode cX11_layOut 23 = .ok (.aload_n 0, 1) := by decide +kernel
theorem dX11_layOut_24 : decode cX11_layOut 24 = .ok (.getfield 37, 3) := by decide +kernel
theorem dX11_layOut_27 : decode cX11_layOut 27 = .ok (.aload_n 0, 1) := by decide +kernel
theorem dX11_layOut_28 : decode cX11_layOut 28 = .ok (.getfield 112, 3) := by decide +kernel
theorem dX11_layOut_31 : decode cX11_layOut 31 = .ok (.iload_n 1, 1) := by decide +kernel
theorem dX11_layOut_32 : decode cX11_layOut 32 = .ok (.iconst 1, 1) := by decide +kernel
theorem dX11_layOut_33 : decode cX11_layOut 33 = .ok (.iadd, 1) := by decide +kernel
theorem dX11_layOut_34 : decode cX11_layOut 34 = .ok (.iastore, 1) := by decide +kernel
theorem dX11_layOut_35 : decode cX11_layOut 35 = .ok (.aload_n 0, 1) := by decide +kernel
theorem dX11_layOut_36 : decode cX11_layOut 36 = .ok (.getfield 40, 3) := by decide +kernel
theorem dX11_layOut_39 : decode cX11_layOut 39 = .ok (.aload_n 0, 1) := by decide +kernel
theorem dX11_layOut_40 : decode cX11_layOut 40 = .ok (.getfield 112, 3) := by decide +kernel
theorem dX11_layOut_43 : decode cX11_layOut 43 = .ok (.aload_n 0, 1) := by decide +kernel
theorem dX11_layOut_44 : decode cX11_layOut 44 = .ok (.getfield 109, 3) := by decide +kernel
theorem dX11_layOut_47 : decode cX11_layOut 47 = .ok (.iastore, 1) := by decide +kernel
theorem dX11_layOut_48 : decode cX11_layOut 48 = .ok (.aload_n 0, 1) := by decide +kernel
theorem dX11_layOut_49 : decode cX11_layOut 49 = .ok (.getfield 112, 3) := by decide +kernel
theorem dX11_layOut_52 : decode cX11_layOut 52 = .ok (.ifCond .le 15, 3) := by decide +kernel
theorem dX11_layOut_55 : decode cX11_layOut 55 = .ok (.aload_n 0, 1) := by decide +kernel
theorem dX11_layOut_56 : decode cX11_layOut 56 = .ok (.getfield 40, 3) := by decide +kernel
theorem dX11_layOut_59 : decode cX11_layOut 59 = .ok (.aload_n 0, 1) := by decide +kernel
theorem dX11_layOut_60 : decode cX11_layOut 60 = .ok (.getfield 112, 3) := by decide +kernel
theorem dX11_layOut_63 : decode cX11_layOut 63 = .ok (.iconst 1, 1) := by decide +kernel
theorem dX11_layOut_64 : decode cX11_layOut 64 = .ok (.isub, 1) := by decide +kernel
theorem dX11_layOut_65 : decode cX11_layOut 65 = .ok (.iload_n 1, 1) := by decide +kernel
theorem dX11_layOut_66 : decode cX11_layOut 66 = .ok (.iastore, 1) := by decide +kernel
theorem dX11_layOut_67 : decode cX11_layOut 67 = .ok (.aload_n 0, 1) := by decide +kernel
theorem dX11_layOut_68 : decode cX11_layOut 68 = .ok (.dup, 1) := by decide +kernel
theorem dX11_layOut_69 : decode cX11_layOut 69 = .ok (.getfield 112, 3) := by decide +kernel
theorem dX11_layOut_72 : decode cX11_layOut 72 = .ok (.iconst 1, 1) := by decide +kernel
theorem dX11_layOut_73 : decode cX11_layOut 73 = .ok (.iadd, 1) := by decide +kernel
theorem dX11_layOut_74 : decode cX11_layOut 74 = .ok (.putfield 112, 3) := by decide +kernel
theorem dX11_layOut_77 : decode cX11_layOut 77 = .ok (.iinc 1 1, 3) := by decide +kernel
theorem dX11_layOut_80 : decode cX11_layOut 80 = .ok (.goto (-73), 3) := by decide +kernel
theorem dX11_layOut_83 : decode cX11_layOut 83 = .ok (.iconst 0, 1) := by decide +kernel
theorem dX11_layOut_84 : decode cX11_layOut 84 = .ok (.istore_n 1, 1) := by decide +kernel
theorem dX11_layOut_85 : decode cX11_layOut 85 = .ok (.iload_n 1, 1) := by decide +kernel
theorem dX11_layOut_86 : decode cX11_layOut 86 = .ok (.aload_n 0, 1) := by decide +kernel
theorem dX11_layOut_87 : decode cX11_layOut 87 = .ok (.getfield 112, 3) := by decide +kernel
theorem dX11_layOut_90 : decode cX11_layOut 90 = .ok (.if_icmp .ge 25, 3) := by decide +kernel
theorem dX11_layOut_93 : decode cX11_layOut 93 = .ok (.aload_n 0, 1) := by decide +kernel
theorem dX11_layOut_94 : decode cX11_layOut 94 = .ok (.aload_n 0, 1) := by decide +kernel
theorem dX11_layOut_95 : decode cX11_layOut 95 = .ok (.getfield 37, 3) := by decide +kernel
theorem dX11_layOut_98 : decode cX11_layOut 98 = .ok (.iload_n 1, 1) := by decide +kernel
theorem dX11_layOut_99 : decode cX11_layOut 99 = .ok (.iaload, 1) := by decide +kernel
theorem dX11_layOut_100 : decode cX11_layOut 100 = .ok (.aload_n 0, 1) := by decide +kernel
theorem dX11_layOut_101 : decode cX11_layOut 101 = .ok (.getfield 40, 3) := by decide +kernel
theorem dX11_layOut_104 : decode cX11_layOut 104 = .ok (.iload_n 1, 1) := by decide +kernel
theorem dX11_layOut_105 : decode cX11_layOut 105 = .ok (.iaload, 1) := by decide +kernel
theorem dX11_layOut_106 : decode cX11_layOut 106 = .ok (.invokevirtual 119, 3) := by decide +kernel
theorem dX11_layOut_109 : decode cX11_layOut 109 = .ok (.iinc 1 1, 3) := by decide +kernel
theorem dX11_layOut_112 : decode cX11_layOut 112 = .ok (.goto (-27), 3) := by decide +kernel
theorem dX11_layOut_115 : decode cX11_layOut 115 = .ok (.return_, 1) := by decide +kernel
theorem dX11_layOutRoutine_0 : decode cX11_layOutRoutine 0 = .ok (.iconst 0, 1) := by decide +kernel
theorem dX11_layOutRoutine_1 : decode cX11_layOutRoutine 1 = .ok (.istore_n 3, 1) := by decide +kernel
theorem dX11_layOutRoutine_2 : decode cX11_layOutRoutine 2 = .ok (.iload_n 1, 1) := by decide +kernel
theorem dX11_layOutRoutine_3 : decode cX11_layOutRoutine 3 = .ok (.istore 4, 2) := by decide +kernel
theorem dX11_layOutRoutine_5 : decode cX11_layOutRoutine 5 = .ok (.iload 4, 2) := by decide +kernel
theorem dX11_layOutRoutine_7 : decode cX11_layOutRoutine 7 = .ok (.iload_n 2, 1) := by decide +kernel
theorem dX11_layOutRoutine_8 : decode cX11_layOutRoutine 8 = .ok (.if_icmp .ge 119, 3) := by decide +kernel
theorem dX11_layOutRoutine_11 : decode cX11_layOutRoutine 11 = .ok (.aload_n 0, 1) := by decide +kernel
theorem dX11_layOutRoutine_12 : decode cX11_layOutRoutine 12 = .ok (.getfield 7, 3) := by decide +kernel
theorem dX11_layOutRoutine_15 : decode cX11_layOutRoutine 15 = .ok (.iload 4, 2) := by decide +kernel
theorem dX11_layOutRoutine_17 : decode cX11_layOutRoutine 17 = .ok (.iaload, 1) := by decide +kernel
theorem dX11_layOutRoutine_18 : decode cX11_layOutRoutine 18 = .ok (.istore 5, 2) := by decide +kernel
theorem dX11_layOutRoutine_20 : decode cX11_layOutRoutine 20 = .ok (.aload_n 0, 1) := by decide +kernel
theorem dX11_layOutRoutine_21 : decode cX11_layOutRoutine 21 = .ok (.getfield 22, 3) := by decide +kernel
theorem dX11_layOutRoutine_24 : decode cX11_layOutRoutine 24 = .ok (.iload 4, 2) := by decide +kernel
theorem dX11_layOutRoutine_26 : decode cX11_layOutRoutine 26 = .ok (.iconst (-1), 1) := by decide +kernel
theorem dX11_layOutRoutine_27 : decode cX11_layOutRoutine 27 = .ok (.iastore, 1) := by decide +kernel
theorem dX11_layOutRoutine_28 : decode cX11_layOutRoutine 28 = .ok (.iload 5, 2) := by decide +kernel
theorem dX11_layOutRoutine_30 : decode cX11_layOutRoutine 30 = .ok (.bipush 25, 2) := by decide +kernel
theorem dX11_layOutRoutine_32 : decode cX11_layOutRoutine 32 = .ok (.if_icmp .eq 17, 3) := by decide +kernel
theorem dX11_layOutRoutine_35 : decode cX11_layOutRoutine 35 = .ok (.iload 5, 2) := by decide +kernel
theorem dX11_layOutRoutine_37 : decode cX11_layOutRoutine 37 = .ok (.bipush 29, 2) := by decide +kernel
theorem dX11_layOutRoutine_39 : decode cX11_layOutRoutine 39 = .ok (.if_icmp .eq 10, 3) := by decide +kernel
theorem dX11_layOutRoutine_42 : decode cX11_layOutRoutine 42 = .ok (.iload 5, 2) := by decide +kernel
theorem dX11_layOutRoutine_44 : decode cX11_layOutRoutine 44 = .ok (.bipush 30, 2) := by decide +kernel
theorem dX11_layOutRoutine_46 : decode cX11_layOutRoutine 46 = .ok (.if_icmp .ne 49, 3) := by decide +kernel
theorem dX11_layOutRoutine_49 : decode cX11_layOutRoutine 49 = .ok (.aload_n 0, 1) := by decide +kernel
theorem dX11_layOutRoutine_50 : decode cX11_layOutRoutine 50 = .ok (.getfield 34, 3) := by decide +kernel
theorem dX11_layOutRoutine_53 : decode cX11_layOutRoutine 53 = .ok (.iload_n 3, 1) := by decide +kernel
theorem dX11_layOutRoutine_54 : decode cX11_layOutRoutine 54 = .ok (.iload 4, 2) := by decide +kernel
theorem dX11_layOutRoutine_56 : decode cX11_layOutRoutine 56 = .ok (.iastore, 1) := by decide +kernel
theorem dX11_layOutRoutine_57 : decode cX11_layOutRoutine 57 = .ok (.iinc 3 1, 3) := by decide +kernel
theorem dX11_layOutRoutine_60 : decode cX11_layOutRoutine 60 = .ok (.aload_n 0, 1) := by decide +kernel
theorem dX11_layOutRoutine_61 : decode cX11_layOutRoutine 61 = .ok (.getfield 25, 3) := by decide +kernel
theorem dX11_layOutRoutine_64 : decode cX11_layOutRoutine 64 = .ok (.iload 4, 2) := by decide +kernel
theorem dX11_layOutRoutine_66 : decode cX11_layOutRoutine 66 = .ok (.iconst (-1), 1) := by decide +kernel
theorem dX11_layOutRoutine_67 : decode cX11_layOutRoutine 67 = .ok (.iastore, 1) := by decide +kernel
theorem dX11_layOutRoutine_68 : decode cX11_layOutRoutine 68 = .ok (.aload_n 0, 1) := by decide +kernel
theorem dX11_layOutRoutine_69 : decode cX11_layOutRoutine 69 = .ok (.getfield 28, 3) := by decide +kernel
theorem dX11_layOutRoutine_72 : decode cX11_layOutRoutine 72 = .ok (.iload 4, 2) := by decide +kernel
theorem dX11_layOutRoutine_74 : decode cX11_layOutRoutine 74 = .ok (.iconst (-1), 1) := by decide +kernel
theorem dX11_layOutRoutine_75 : decode cX11_layOutRoutine 75 = .ok (.iastore, 1) := by decide +kernel
theorem dX11_layOutRoutine_76 : decode cX11_layOutRoutine 76 = .ok (.aload_n 0, 1) := by decide +kernel
theorem dX11_layOutRoutine_77 : decode cX11_layOutRoutine 77 = .ok (.getfield 22, 3) := by decide +kernel
theorem dX11_layOutRoutine_80 : decode cX11_layOutRoutine 80 = .ok (.iload 4, 2) := by decide +kernel
theorem dX11_layOutRoutine_82 : decode cX11_layOutRoutine 82 = .ok (.iload_n 2, 1) := by decide +kernel
theorem dX11_layOutRoutine_83 : decode cX11_layOutRoutine 83 = .ok (.iastore, 1) := by decide +kernel
theorem dX11_layOutRoutine_84 : decode cX11_layOutRoutine 84 = .ok (.aload_n 0, 1) := by decide +kernel
theorem dX11_layOutRoutine_85 : decode cX11_layOutRoutine 85 = .ok (.getfield 31, 3) := by decide +kernel
theorem dX11_layOutRoutine_88 : decode cX11_layOutRoutine 88 = .ok (.iload 4, 2) := by decide +kernel
theorem dX11_layOutRoutine_90 : decode cX11_layOutRoutine 90 = .ok (.iload_n 2, 1) := by decide +kernel
theorem dX11_layOutRoutine_91 : decode cX11_layOutRoutine 91 = .ok (.iastore, 1) := by decide +kernel
theorem dX11_layOutRoutine_92 : decode cX11_layOutRoutine 92 = .ok (.goto 29, 3) := by decide +kernel
theorem dX11_layOutRoutine_95 : decode cX11_layOutRoutine 95 = .ok (.iload_n 3, 1) := by decide +kernel
theorem dX11_layOutRoutine_96 : decode cX11_layOutRoutine 96 = .ok (.ifCond .le 25, 3) := by decide +kernel
theorem dX11_layOutRoutine_99 : decode cX11_layOutRoutine 99 = .ok (.aload_n 0, 1) := by decide +kernel
theorem dX11_layOutRoutine_100 : decode cX11_layOutRoutine 100 = .ok (.iload 4, 2) := by decide +kernel
theorem dX11_layOutRoutine_102 : decode cX11_layOutRoutine 102 = .ok (.iload 5, 2) := by decide +kernel
theorem dX11_layOutRoutine_104 : decode cX11_layOutRoutine 104 = .ok (.aload_n 0, 1) := by decide +kernel
theorem dX11_layOutRoutine_105 : decode cX11_layOutRoutine 105 = .ok (.getfield 34, 3) := by decide +kernel
theorem dX11_layOutRoutine_108 : decode cX11_layOutRoutine 108 = .ok (.iload_n 3, 1) := by decide +kernel
theorem dX11_layOutRoutine_109 : decode cX11_layOutRoutine 109 = .ok (.iconst 1, 1) := by decide +kernel
theorem dX11_layOutRoutine_110 : decode cX11_layOutRoutine 110 = .ok (.isub, 1) := by decide +kernel
theorem dX11_layOutRoutine_111 : decode cX11_layOutRoutine 111 = .ok (.iaload, 1) := by decide +kernel
theorem dX11_layOutRoutine_112 : decode cX11_layOutRoutine 112 = .ok (.invokevirtual 123, 3) := by decide +kernel
theorem dX11_layOutRoutine_115 : decode cX11_layOutRoutine 115 = .ok (.ifCond .eq 6, 3) := by decide +kernel
theorem dX11_layOutRoutine_118 : decode cX11_layOutRoutine 118 = .ok (.iinc 3 (-1), 3) := by decide +kernel
theorem dX11_layOutRoutine_121 : decode cX11_layOutRoutine 121 = .ok (.iinc 4 1, 3) := by decide +kernel
theorem dX11_layOutRoutine_124 : decode cX11_layOutRoutine 124 = .ok (.goto (-119), 3) := by decide +kernel
theorem dX11_layOutRoutine_127 : decode cX11_layOutRoutine 127 = .ok (.return_, 1) := by decide +kernel
theorem dX11_belongs_0 : decode cX11_belongs 0 = .ok (.aload_n 0, 1) := by decide +kernel
theorem dX11_belongs_1 : decode cX11_belongs 1 = .ok (.getfield 7, 3) := by decide +kernel
theorem dX11_belongs_4 : decode cX11_belongs 4 = .ok (.iload_n 3, 1) := by decide +kernel
theorem dX11_belongs_5 : decode cX11_belongs 5 = .ok (.iaload, 1) := by decide +kernel
theorem dX11_belongs_6 : decode cX11_belongs 6 = .ok (.bipush 25, 2) := by decide +kernel
theorem dX11_belongs_8 : decode cX11_belongs 8 = .ok (.if_icmp .ne 7, 3) := by decide +kernel
theorem dX11_belongs_11 : decode cX11_belongs 11 = .ok (.iconst 1, 1) := by decide +kernel
theorem dX11_belongs_12 : decode cX11_belongs 12 = .ok (.goto 4, 3) := by decide +kernel
theorem dX11_belongs_15 : decode cX11_belongs 15 = .ok (.iconst 0, 1) := by decide +kernel
theorem dX11_belongs_16 : decode cX11_belongs 16 = .ok (.istore 4, 2) := by decide +kernel
theorem dX11_belongs_18 : decode cX11_belongs 18 = .ok (.iload_n 2, 1) := by decide +kernel
theorem dX11_belongs_19 : decode cX11_belongs 19 = .ok (.bipush 26, 2) := by decide +kernel
theorem dX11_belongs_21 : decode cX11_belongs 21 = .ok (.if_icmp .ne 33, 3) := by decide +kernel
theorem dX11_belongs_24 : decode cX11_belongs 24 = .ok (.iload 4, 2) := by decide +kernel
theorem dX11_belongs_26 : decode cX11_belongs 26 = .ok (.ifCond .eq 28, 3) := by decide +kernel
theorem dX11_belongs_29 : decode cX11_belongs 29 = .ok (.aload_n 0, 1) := by decide +kernel
theorem dX11_belongs_30 : decode cX11_belongs 30 = .ok (.getfield 25, 3) := by decide +kernel
theorem dX11_belongs_33 : decode cX11_belongs 33 = .ok (.iload_n 3, 1) := by decide +kernel
theorem dX11_belongs_34 : decode cX11_belongs 34 = .ok (.iaload, 1) := by decide +kernel
theorem dX11_belongs_35 : decode cX11_belongs 35 = .ok (.ifCond .ge 19, 3) := by decide +kernel
theorem dX11_belongs_38 : decode cX11_belongs 38 = .ok (.aload_n 0, 1) := by decide +kernel
theorem dX11_belongs_39 : decode cX11_belongs 39 = .ok (.getfield 28, 3) := by decide +kernel
theorem dX11_belongs_42 : decode cX11_belongs 42 = .ok (.iload_n 3, 1) := by decide +kernel
theorem dX11_belongs_43 : decode cX11_belongs 43 = .ok (.iaload, 1) := by decide +kernel
theorem dX11_belongs_44 : decode cX11_belongs 44 = .ok (.ifCond .ge 10, 3) := by decide +kernel
theorem dX11_belongs_47 : decode cX11_belongs 47 = .ok (.aload_n 0, 1) := by decide +kernel
theorem dX11_belongs_48 : decode cX11_belongs 48 = .ok (.getfield 25, 3) := by decide +kernel
theorem dX11_belongs_51 : decode cX11_belongs 51 = .ok (.iload_n 3, 1) := by decide +kernel
theorem dX11_belongs_52 : decode cX11_belongs 52 = .ok (.iload_n 1, 1) := by decide +kernel
theorem dX11_belongs_53 : decode cX11_belongs 53 = .ok (.iastore, 1) := by decide +kernel
theorem dX11_belongs_54 : decode cX11_belongs 54 = .ok (.iload_n 2, 1) := by decide +kernel
theorem dX11_belongs_55 : decode cX11_belongs 55 = .ok (.bipush 27, 2) := by decide +kernel
theorem dX11_belongs_57 : decode cX11_belongs 57 = .ok (.if_icmp .ne 24, 3) := by decide +kernel
theorem dX11_belongs_60 : decode cX11_belongs 60 = .ok (.iload 4, 2) := by decide +kernel
theorem dX11_belongs_62 : decode cX11_belongs 62 = .ok (.ifCond .eq 19, 3) := by decide +kernel
theorem dX11_belongs_65 : decode cX11_belongs 65 = .ok (.aload_n 0, 1) := by decide +kernel
theorem dX11_belongs_66 : decode cX11_belongs 66 = .ok (.getfield 28, 3) := by decide +kernel
theorem dX11_belongs_69 : decode cX11_belongs 69 = .ok (.iload_n 3, 1) := by decide +kernel
theorem dX11_belongs_70 : decode cX11_belongs 70 = .ok (.iaload, 1) := by decide +kernel
theorem dX11_belongs_71 : decode cX11_belongs 71 = .ok (.ifCond .ge 10, 3) := by decide +kernel
theorem dX11_belongs_74 : decode cX11_belongs 74 = .ok (.aload_n 0, 1) := by decide +kernel
theorem dX11_belongs_75 : decode cX11_belongs 75 = .ok (.getfield 28, 3) := by decide +kernel
theorem dX11_belongs_78 : decode cX11_belongs 78 = .ok (.iload_n 3, 1) := by decide +kernel
theorem dX11_belongs_79 : decode cX11_belongs 79 = .ok (.iload_n 1, 1) := by decide +kernel
theorem dX11_belongs_80 : decode cX11_belongs 80 = .ok (.iastore, 1) := by decide +kernel
theorem dX11_belongs_81 : decode cX11_belongs 81 = .ok (.iload_n 2, 1) := by decide +kernel
theorem dX11_belongs_82 : decode cX11_belongs 82 = .ok (.bipush 28, 2) := by decide +kernel
theorem dX11_belongs_84 : decode cX11_belongs 84 = .ok (.if_icmp .ne 8, 3) := by decide +kernel
theorem dX11_belongs_87 : decode cX11_belongs 87 = .ok (.iload 4, 2) := by decide +kernel
theorem dX11_belongs_89 : decode cX11_belongs 89 = .ok (.ifCond .ne 14, 3) := by decide +kernel
theorem dX11_belongs_92 : decode cX11_belongs 92 = .ok (.iload_n 2, 1) := by decide +kernel
theorem dX11_belongs_93 : decode cX11_belongs 93 = .ok (.bipush 31, 2) := by decide +kernel
theorem dX11_belongs_95 : decode cX11_belongs 95 = .ok (.if_icmp .ne 12, 3) := by decide +kernel
theorem dX11_belongs_98 : decode cX11_belongs 98 = .ok (.iload 4, 2) := by decide +kernel
theorem dX11_belongs_100 : decode cX11_belongs 100 = .ok (.ifCond .ne 7, 3) := by decide +kernel
theorem dX11_belongs_103 : decode cX11_belongs 103 = .ok (.iconst 1, 1) := by decide +kernel
theorem dX11_belongs_104 : decode cX11_belongs 104 = .ok (.goto 4, 3) := by decide +kernel
theorem dX11_belongs_107 : decode cX11_belongs 107 = .ok (.iconst 0, 1) := by decide +kernel
theorem dX11_belongs_108 : decode cX11_belongs 108 = .ok (.istore 5, 2) := by decide +kernel
theorem dX11_belongs_110 : decode cX11_belongs 110 = .ok (.iload 5, 2) := by decide +kernel
theorem dX11_belongs_112 : decode cX11_belongs 112 = .ok (.ifCond .eq 19, 3) := by decide +kernel
theorem dX11_belongs_115 : decode cX11_belongs 115 = .ok (.aload_n 0, 1) := by decide +kernel
theorem dX11_belongs_116 : decode cX11_belongs 116 = .ok (.getfield 22, 3) := by decide +kernel
theorem dX11_belongs_119 : decode cX11_belongs 119 = .ok (.iload_n 3, 1) := by decide +kernel
theorem dX11_belongs_120 : decode cX11_belongs 120 = .ok (.iload_n 1, 1) := by decide +kernel
theorem dX11_belongs_121 : decode cX11_belongs 121 = .ok (.iastore, 1) := by decide +kernel
theorem dX11_belongs_122 : decode cX11_belongs 122 = .ok (.aload_n 0, 1) := by decide +kernel
theorem dX11_belongs_123 : decode cX11_belongs 123 = .ok (.getfield 31, 3) := by decide +kernel
theorem dX11_belongs_126 : decode cX11_belongs 126 = .ok (.iload_n 3, 1) := by decide +kernel
theorem dX11_belongs_127 : decode cX11_belongs 127 = .ok (.iload_n 1, 1) := by decide +kernel
theorem dX11_belongs_128 : decode cX11_belongs 128 = .ok (.iconst 1, 1) := by decide +kernel
theorem dX11_belongs_129 : decode cX11_belongs 129 = .ok (.iadd, 1) := by decide +kernel
theorem dX11_belongs_130 : decode cX11_belongs 130 = .ok (.iastore, 1) := by decide +kernel
theorem dX11_belongs_131 : decode cX11_belongs 131 = .ok (.iload 5, 2) := by decide +kernel
theorem dX11_belongs_133 : decode cX11_belongs 133 = .ok (.ireturn, 1) := by decide +kernel
theorem dX11_run_0 : decode cX11_run 0 = .ok (.aload_n 0, 1) := by decide +kernel
theorem dX11_run_1 : decode cX11_run 1 = .ok (.invokevirtual 127, 3) := by decide +kernel
theorem dX11_run_4 : decode cX11_run 4 = .ok (.iload_n 1, 1) := by decide +kernel
theorem dX11_run_5 : decode cX11_run 5 = .ok (.ifCond .lt 11, 3) := by decide +kernel
theorem dX11_run_8 : decode cX11_run 8 = .ok (.iload_n 1, 1) := by decide +kernel
theorem dX11_run_9 : decode cX11_run 9 = .ok (.aload_n 0, 1) := by decide +kernel
theorem dX11_run_10 : decode cX11_run 10 = .ok (.getfield 112, 3) := by decide +kernel
theorem dX11_run_13 : decode cX11_run 13 = .ok (.if_icmp .lt 5, 3) := by decide +kernel
theorem dX11_run_16 : decode cX11_run 16 = .ok (.iconst (-1), 1) := by decide +kernel
theorem dX11_run_17 : decode cX11_run 17 = .ok (.ireturn, 1) := by decide +kernel
theorem dX11_run_18 : decode cX11_run 18 = .ok (.iload_n 2, 1) := by decide +kernel
theorem dX11_run_19 : decode cX11_run 19 = .ok (.iconst 1, 1) := by decide +kernel
theorem dX11_run_20 : decode cX11_run 20 = .ok (.if_icmp .lt 10, 3) := by decide +kernel
theorem dX11_run_23 : decode cX11_run 23 = .ok (.iload_n 2, 1) := by decide +kernel
theorem dX11_run_24 : decode cX11_run 24 = .ok (.sipush 1000, 3) := by decide +kernel
theorem dX11_run_27 : decode cX11_run 27 = .ok (.if_icmp .le 6, 3) := by decide +kernel
theorem dX11_run_30 : decode cX11_run 30 = .ok (.bipush (-2), 2) := by decide +kernel
theorem dX11_run_32 : decode cX11_run 32 = .ok (.ireturn, 1) := by decide +kernel
theorem dX11_run_33 : decode cX11_run 33 = .ok (.aload_n 0, 1) := by decide +kernel
theorem dX11_run_34 : decode cX11_run 34 = .ok (.getfield 130, 3) := by decide +kernel
theorem dX11_run_37 : decode cX11_run 37 = .ok (.sipush 8000, 3) := by decide +kernel
theorem dX11_run_40 : decode cX11_run 40 = .ok (.iload_n 2, 1) := by decide +kernel
theorem dX11_run_41 : decode cX11_run 41 = .ok (.isub, 1) := by decide +kernel
theorem dX11_run_42 : decode cX11_run 42 = .ok (.if_icmp .le 6, 3) := by decide +kernel
theorem dX11_run_45 : decode cX11_run 45 = .ok (.bipush (-3), 2) := by decide +kernel
theorem dX11_run_47 : decode cX11_run 47 = .ok (.ireturn, 1) := by decide +kernel
theorem dX11_run_48 : decode cX11_run 48 = .ok (.aload_n 0, 1) := by decide +kernel
theorem dX11_run_49 : decode cX11_run 49 = .ok (.iload_n 2, 1) := by decide +kernel
theorem dX11_run_50 : decode cX11_run 50 = .ok (.invokevirtual 133, 3) := by decide +kernel
theorem dX11_run_53 : decode cX11_run 53 = .ok (.aload_n 0, 1) := by decide +kernel
theorem dX11_run_54 : decode cX11_run 54 = .ok (.iload_n 1, 1) := by decide +kernel
theorem dX11_run_55 : decode cX11_run 55 = .ok (.iconst (-1), 1) := by decide +kernel
theorem dX11_run_56 : decode cX11_run 56 = .ok (.invokevirtual 137, 3) := by decide +kernel
theorem dX11_run_59 : decode cX11_run 59 = .ok (.iconst 0, 1) := by decide +kernel
theorem dX11_run_60 : decode cX11_run 60 = .ok (.istore_n 3, 1) := by decide +kernel
theorem dX11_run_61 : decode cX11_run 61 = .ok (.iload_n 3, 1) := by decide +kernel
theorem dX11_run_62 : decode cX11_run 62 = .ok (.sipush 5000, 3) := by decide +kernel
theorem dX11_run_65 : decode cX11_run 65 = .ok (.if_icmp .ge 20, 3) := by decide +kernel
theorem dX11_run_68 : decode cX11_run 68 = .ok (.aload_n 0, 1) := by decide +kernel
theorem dX11_run_69 : decode cX11_run 69 = .ok (.getfield 140, 3) := by decide +kernel
theorem dX11_run_72 : decode cX11_run 72 = .ok (.ifCond .eq 13, 3) := by decide +kernel
theorem dX11_run_75 : decode cX11_run 75 = .ok (.aload_n 0, 1) := by decide +kernel
theorem dX11_run_76 : decode cX11_run 76 = .ok (.invokevirtual 144, 3) := by decide +kernel
theorem dX11_run_79 : decode cX11_run 79 = .ok (.iinc 3 1, 3) := by decide +kernel
theorem dX11_run_82 : decode cX11_run 82 = .ok (.goto (-21), 3) := by decide +kernel
theorem dX11_run_85 : decode cX11_run 85 = .ok (.aload_n 0, 1) := by decide +kernel
theorem dX11_run_86 : decode cX11_run 86 = .ok (.dup, 1) := by decide +kernel
theorem dX11_run_87 : decode cX11_run 87 = .ok (.getfield 147, 3) := by decide +kernel
theorem dX11_run_90 : decode cX11_run 90 = .ok (.iconst 1, 1) := by decide +kernel
theorem dX11_run_91 : decode cX11_run 91 = .ok (.iadd, 1) := by decide +kernel
theorem dX11_run_92 : decode cX11_run 92 = .ok (.putfield 147, 3) := by decide +kernel
theorem dX11_run_95 : decode cX11_run 95 = .ok (.aload_n 0, 1) := by decide +kernel
theorem dX11_run_96 : decode cX11_run 96 = .ok (.dup, 1) := by decide +kernel
theorem dX11_run_97 : decode cX11_run 97 = .ok (.getfield 130, 3) := by decide +kernel
theorem dX11_run_100 : decode cX11_run 100 = .ok (.aload_n 0, 1) := by decide +kernel
theorem dX11_run_101 : decode cX11_run 101 = .ok (.getfield 150, 3) := by decide +kernel
theorem dX11_run_104 : decode cX11_run 104 = .ok (.iadd, 1) := by decide +kernel
theorem dX11_run_105 : decode cX11_run 105 = .ok (.putfield 130, 3) := by decide +kernel
theorem dX11_run_108 : decode cX11_run 108 = .ok (.aload_n 0, 1) := by decide +kernel
theorem dX11_run_109 : decode cX11_run 109 = .ok (.getfield 150, 3) := by decide +kernel
theorem dX11_run_112 : decode cX11_run 112 = .ok (.ireturn, 1) := by decide +kernel
theorem dX11_begin_0 : decode cX11_begin 0 = .ok (.aload_n 0, 1) := by decide +kernel
theorem dX11_begin_1 : decode cX11_begin 1 = .ok (.iload_n 1, 1) := by decide +kernel
theorem dX11_begin_2 : decode cX11_begin 2 = .ok (.putfield 153, 3) := by decide +kernel
theorem dX11_begin_5 : decode cX11_begin 5 = .ok (.aload_n 0, 1) := by decide +kernel
theorem dX11_begin_6 : decode cX11_begin 6 = .ok (.iconst 0, 1) := by decide +kernel
theorem dX11_begin_7 : decode cX11_begin 7 = .ok (.putfield 150, 3) := by decide +kernel
theorem dX11_begin_10 : decode cX11_begin 10 = .ok (.aload_n 0, 1) := by decide +kernel
theorem dX11_begin_11 : decode cX11_begin 11 = .ok (.iconst 0, 1) := by decide +kernel
theorem dX11_begin_12 : decode cX11_begin 12 = .ok (.putfield 156, 3) := by decide +kernel
theorem dX11_begin_15 : decode cX11_begin 15 = .ok (.aload_n 0, 1) := by decide +kernel
theorem dX11_begin_16 : decode cX11_begin 16 = .ok (.iconst 0, 1) := by decide +kernel
theorem dX11_begin_17 : decode cX11_begin 17 = .ok (.putfield 159, 3) := by decide +kernel
theorem dX11_begin_20 : decode cX11_begin 20 = .ok (.aload_n 0, 1) := by decide +kernel
theorem dX11_begin_21 : decode cX11_begin 21 = .ok (.iconst 0, 1) := by decide +kernel
theorem dX11_begin_22 : decode cX11_begin 22 = .ok (.putfield 162, 3) := by decide +kernel
theorem dX11_begin_25 : decode cX11_begin 25 = .ok (.aload_n 0, 1) := by decide +kernel
theorem dX11_begin_26 : decode cX11_begin 26 = .ok (.iconst 0, 1) := by decide +kernel
theorem dX11_begin_27 : decode cX11_begin 27 = .ok (.putfield 165, 3) := by decide +kernel
theorem dX11_begin_30 : decode cX11_begin 30 = .ok (.aload_n 0, 1) := by decide +kernel
theorem dX11_begin_31 : decode cX11_begin 31 = .ok (.iconst 0, 1) := by decide +kernel
theorem dX11_begin_32 : decode cX11_begin 32 = .ok (.putfield 168, 3) := by decide +kernel
theorem dX11_begin_35 : decode cX11_begin 35 = .ok (.aload_n 0, 1) := by decide +kernel
theorem dX11_begin_36 : decode cX11_begin 36 = .ok (.iconst 0, 1) := by decide +kernel
theorem dX11_begin_37 : decode cX11_begin 37 = .ok (.putfield 171, 3) := by decide +kernel
theorem dX11_begin_40 : decode cX11_begin 40 = .ok (.aload_n 0, 1) := by decide +kernel
theorem dX11_begin_41 : decode cX11_begin 41 = .ok (.lconst 0, 1) := by decide +kernel
theorem dX11_begin_42 : decode cX11_begin 42 = .ok (.putfield 174, 3) := by decide +kernel
theorem dX11_begin_45 : decode cX11_begin 45 = .ok (.aload_n 0, 1) := by decide +kernel
theorem dX11_begin_46 : decode cX11_begin 46 = .ok (.iconst 0, 1) := by decide +kernel
theorem dX11_begin_47 : decode cX11_begin 47 = .ok (.putfield 178, 3) := by decide +kernel
theorem dX11_begin_50 : decode cX11_begin 50 = .ok (.aload_n 0, 1) := by decide +kernel
theorem dX11_begin_51 : decode cX11_begin 51 = .ok (.iconst 1, 1) := by decide +kernel
theorem dX11_begin_52 : decode cX11_begin 52 = .ok (.putfield 140, 3) := by decide +kernel
theorem dX11_begin_55 : decode cX11_begin 55 = .ok (.return_, 1) := by decide +kernel
theorem dX11_stop_0 : decode cX11_stop 0 = .ok (.aload_n 0, 1) := by decide +kernel
theorem dX11_stop_1 : decode cX11_stop 1 = .ok (.iload_n 1, 1) := by decide +kernel
theorem dX11_stop_2 : decode cX11_stop 2 = .ok (.putfield 99, 3) := by decide +kernel
theorem dX11_stop_5 : decode cX11_stop 5 = .ok (.aload_n 0, 1) := by decide +kernel
theorem dX11_stop_6 : decode cX11_stop 6 = .ok (.iconst 0, 1) := by decide +kernel
theorem dX11_stop_7 : decode cX11_stop 7 = .ok (.putfield 140, 3) := by decide +kernel
theorem dX11_stop_10 : decode cX11_stop 10 = .ok (.return_, 1) := by decide +kernel
theorem dX11_takes_0 : decode cX11_takes 0 = .ok (.aload_n 0, 1) := by decide +kernel
theorem dX11_takes_1 : decode cX11_takes 1 = .ok (.getfield 153, 3) := by decide +kernel
theorem dX11_takes_4 : decode cX11_takes 4 = .ok (.ifCond .ne 10, 3) := by decide +kernel
theorem dX11_takes_7 : decode cX11_takes 7 = .ok (.aload_n 0, 1) := by decide +kernel
theorem dX11_takes_8 : decode cX11_takes 8 = .ok (.iconst 3, 1) := by decide +kernel
theorem dX11_takes_9 : decode cX11_takes 9 = .ok (.invokevirtual 181, 3) := by decide +kernel
theorem dX11_takes_12 : decode cX11_takes 12 = .ok (.iconst 0, 1) := by decide +kernel
theorem dX11_takes_13 : decode cX11_takes 13 = .ok (.ireturn, 1) := by decide +kernel
theorem dX11_takes_14 : decode cX11_takes 14 = .ok (.aload_n 0, 1) := by decide +kernel
theorem dX11_takes_15 : decode cX11_takes 15 = .ok (.dup, 1) := by decide +kernel
theorem dX11_takes_16 : decode cX11_takes 16 = .ok (.getfield 153, 3) := by decide +kernel
theorem dX11_takes_19 : decode cX11_takes 19 = .ok (.iconst 1, 1) := by decide +kernel
theorem dX11_takes_20 : decode cX11_takes 20 = .ok (.isub, 1) := by decide +kernel
theorem dX11_takes_21 : decode cX11_takes 21 = .ok (.putfield 153, 3) := by decide +kernel
theorem dX11_takes_24 : decode cX11_takes 24 = .ok (.aload_n 0, 1) := by decide +kernel
theorem dX11_takes_25 : decode cX11_takes 25 = .ok (.dup, 1) := by decide +kernel
theorem dX11_takes_26 : decode cX11_takes 26 = .ok (.getfield 150, 3) := by decide +kernel
theorem dX11_takes_29 : decode cX11_takes 29 = .ok (.iconst 1, 1) := by decide +kernel
theorem dX11_takes_30 : decode cX11_takes 30 = .ok (.iadd, 1) := by decide +kernel
theorem dX11_takes_31 : decode cX11_takes 31 = .ok (.putfield 150, 3) := by decide +kernel
theorem dX11_takes_34 : decode cX11_takes 34 = .ok (.iconst 1, 1) := by decide +kernel
theorem dX11_takes_35 : decode cX11_takes 35 = .ok (.ireturn, 1) := by decide +kernel
theorem dX11_opens_0 : decode cX11_opens 0 = .ok (.aload_n 0, 1) := by decide +kernel
theorem dX11_opens_1 : decode cX11_opens 1 = .ok (.getfield 156, 3) := by decide +kernel
theorem dX11_opens_4 : decode cX11_opens 4 = .ok (.sipush 200, 3) := by decide +kernel
theorem dX11_opens_7 : decode cX11_opens 7 = .ok (.if_icmp .ne 10, 3) := by decide +kernel
theorem dX11_opens_10 : decode cX11_opens 10 = .ok (.aload_n 0, 1) := by decide +kernel
theorem dX11_opens_11 : decode cX11_opens 11 = .ok (.iconst 4, 1) := by decide +kernel
theorem dX11_opens_12 : decode cX11_opens 12 = .ok (.invokevirtual 181, 3) := by decide +kernel
theorem dX11_opens_15 : decode cX11_opens 15 = .ok (.iconst 0, 1) := by decide +kernel
theorem dX11_opens_16 : decode cX11_opens 16 = .ok (.ireturn, 1) := by decide +kernel
theorem dX11_opens_17 : decode cX11_opens 17 = .ok (.aload_n 0, 1) := by decide +kernel
theorem dX11_opens_18 : decode cX11_opens 18 = .ok (.getfield 69, 3) := by decide +kernel
theorem dX11_opens_21 : decode cX11_opens 21 = .ok (.aload_n 0, 1) := by decide +kernel
theorem dX11_opens_22 : decode cX11_opens 22 = .ok (.getfield 156, 3) := by decide +kernel
theorem dX11_opens_25 : decode cX11_opens 25 = .ok (.iload_n 1, 1) := by decide +kernel
theorem dX11_opens_26 : decode cX11_opens 26 = .ok (.iastore, 1) := by decide +kernel
theorem dX11_opens_27 : decode cX11_opens 27 = .ok (.aload_n 0, 1) := by decide +kernel
theorem dX11_opens_28 : decode cX11_opens 28 = .ok (.getfield 72, 3) := by decide +kernel
theorem dX11_opens_31 : decode cX11_opens 31 = .ok (.aload_n 0, 1) := by decide +kernel
theorem dX11_opens_32 : decode cX11_opens 32 = .ok (.getfield 156, 3) := by decide +kernel
theorem dX11_opens_35 : decode cX11_opens 35 = .ok (.iload_n 2, 1) := by decide +kernel
theorem dX11_opens_36 : decode cX11_opens 36 = .ok (.iastore, 1) := by decide +kernel
theorem dX11_opens_37 : decode cX11_opens 37 = .ok (.aload_n 0, 1) := by decide +kernel
theorem dX11_opens_38 : decode cX11_opens 38 = .ok (.getfield 75, 3) := by decide +kernel
theorem dX11_opens_41 : decode cX11_opens 41 = .ok (.aload_n 0, 1) := by decide +kernel
theorem dX11_opens_42 : decode cX11_opens 42 = .ok (.getfield 156, 3) := by decide +kernel
theorem dX11_opens_45 : decode cX11_opens 45 = .ok (.iload_n 3, 1) := by decide +kernel
theorem dX11_opens_46 : decode cX11_opens 46 = .ok (.iastore, 1) := by decide +kernel
theorem dX11_opens_47 : decode cX11_opens 47 = .ok (.aload_n 0, 1) := by decide +kernel
theorem dX11_opens_48 : decode cX11_opens 48 = .ok (.getfield 78, 3) := by decide +kernel
theorem dX11_opens_51 : decode cX11_opens 51 = .ok (.aload_n 0, 1) := by decide +kernel
theorem dX11_opens_52 : decode cX11_opens 52 = .ok (.getfield 156, 3) := by decide +kernel
theorem dX11_opens_55 : decode cX11_opens 55 = .ok (.iconst 0, 1) := by decide +kernel
theorem dX11_opens_56 : decode cX11_opens 56 = .ok (.iastore, 1) := by decide +kernel
theorem dX11_opens_57 : decode cX11_opens 57 = .ok (.aload_n 0, 1) := by decide +kernel
theorem dX11_opens_58 : decode cX11_opens 58 = .ok (.getfield 81, 3) := by decide +kernel
theorem dX11_opens_61 : decode cX11_opens 61 = .ok (.aload_n 0, 1) := by decide +kernel
theorem dX11_opens_62 : decode cX11_opens 62 = .ok (.getfield 156, 3) := by decide +kernel
theorem dX11_opens_65 : decode cX11_opens 65 = .ok (.iconst 0, 1) := by decide +kernel
theorem dX11_opens_66 : decode cX11_opens 66 = .ok (.iastore, 1) := by decide +kernel
theorem dX11_opens_67 : decode cX11_opens 67 = .ok (.aload_n 0, 1) := by decide +kernel
theorem dX11_opens_68 : decode cX11_opens 68 = .ok (.dup, 1) := by decide +kernel
theorem dX11_opens_69 : decode cX11_opens 69 = .ok (.getfield 156, 3) := by decide +kernel
theorem dX11_opens_72 : decode cX11_opens 72 = .ok (.iconst 1, 1) := by decide +kernel
theorem dX11_opens_73 : decode cX11_opens 73 = .ok (.iadd, 1) := by decide +kernel
theorem dX11_opens_74 : decode cX11_opens 74 = .ok (.putfield 156, 3) := by decide +kernel
theorem dX11_opens_77 : decode cX11_opens 77 = .ok (.aload_n 0, 1) := by decide +kernel
theorem dX11_opens_78 : decode cX11_opens 78 = .ok (.aload_n 0, 1) := by decide +kernel
theorem dX11_opens_79 : decode cX11_opens 79 = .ok (.getfield 156, 3) := by decide +kernel
theorem dX11_opens_82 : decode cX11_opens 82 = .ok (.aload_n 0, 1) := by decide +kernel
theorem dX11_opens_83 : decode cX11_opens 83 = .ok (.getfield 171, 3) := by decide +kernel
theorem dX11_opens_86 : decode cX11_opens 86 = .ok (.if_icmp .le 10, 3) := by decide +kernel
theorem dX11_opens_89 : decode cX11_opens 89 = .ok (.aload_n 0, 1) := by decide +kernel
theorem dX11_opens_90 : decode cX11_opens 90 = .ok (.getfield 156, 3) := by decide +kernel
theorem dX11_opens_93 : decode cX11_opens 93 = .ok (.goto 7, 3) := by decide +kernel
theorem dX11_opens_96 : decode cX11_opens 96 = .ok (.aload_n 0, 1) := by decide +kernel
theorem dX11_opens_97 : decode cX11_opens 97 = .ok (.getfield 171, 3) := by decide +kernel
theorem dX11_opens_100 : decode cX11_opens 100 = .ok (.putfield 171, 3) := by decide +kernel
theorem dX11_opens_103 : decode cX11_opens 103 = .ok (.iconst 1, 1) := by decide +kernel
theorem dX11_opens_104 : decode cX11_opens 104 = .ok (.ireturn, 1) := by decide +kernel
theorem dX11_enter_0 : decode cX11_enter 0 = .ok (.aload_n 0, 1) := by decide +kernel
theorem dX11_enter_1 : decode cX11_enter 1 = .ok (.iconst 0, 1) := by decide +kernel
theorem dX11_enter_2 : decode cX11_enter 2 = .ok (.iload_n 2, 1) := by decide +kernel
theorem dX11_enter_3 : decode cX11_enter 3 = .ok (.aload_n 0, 1) := by decide +kernel
theorem dX11_enter_4 : decode cX11_enter 4 = .ok (.getfield 40, 3) := by decide +kernel
theorem dX11_enter_7 : decode cX11_enter 7 = .ok (.iload_n 1, 1) := by decide +kernel
theorem dX11_enter_8 : decode cX11_enter 8 = .ok (.iaload, 1) := by decide +kernel
theorem dX11_enter_9 : decode cX11_enter 9 = .ok (.invokevirtual 184, 3) := by decide +kernel
theorem dX11_enter_12 : decode cX11_enter 12 = .ok (.ifCond .eq 13, 3) := by decide +kernel
theorem dX11_enter_15 : decode cX11_enter 15 = .ok (.aload_n 0, 1) := by decide +kernel
theorem dX11_enter_16 : decode cX11_enter 16 = .ok (.aload_n 0, 1) := by decide +kernel
theorem dX11_enter_17 : decode cX11_enter 17 = .ok (.getfield 37, 3) := by decide +kernel
theorem dX11_enter_20 : decode cX11_enter 20 = .ok (.iload_n 1, 1) := by decide +kernel
theorem dX11_enter_21 : decode cX11_enter 21 = .ok (.iaload, 1) := by decide +kernel
theorem dX11_enter_22 : decode cX11_enter 22 = .ok (.putfield 187, 3) := by decide +kernel
theorem dX11_enter_25 : decode cX11_enter 25 = .ok (.return_, 1) := by decide +kernel
theorem dX11_partEnd_0 : decode cX11_partEnd 0 = .ok (.aload_n 0, 1) := by decide +kernel
theorem dX11_partEnd_1 : decode cX11_partEnd 1 = .ok (.getfield 156, 3) := by decide +kernel
theorem dX11_partEnd_4 : decode cX11_partEnd 4 = .ok (.iconst 1, 1) := by decide +kernel
theorem dX11_partEnd_5 : decode cX11_partEnd 5 = .ok (.isub, 1) := by decide +kernel
theorem dX11_partEnd_6 : decode cX11_partEnd 6 = .ok (.istore_n 1, 1) := by decide +kernel
theorem dX11_partEnd_7 : decode cX11_partEnd 7 = .ok (.aload_n 0, 1) := by decide +kernel
theorem dX11_partEnd_8 : decode cX11_partEnd 8 = .ok (.getfield 69, 3) := by decide +kernel
theorem dX11_partEnd_11 : decode cX11_partEnd 11 = .ok (.iload_n 1, 1) := by decide +kernel
theorem dX11_partEnd_12 : decode cX11_partEnd 12 = .ok (.iaload, 1) := by decide +kernel
theorem dX11_partEnd_13 : decode cX11_partEnd 13 = .ok (.ifCond .ne 10, 3) := by decide +kernel
theorem dX11_partEnd_16 : decode cX11_partEnd 16 = .ok (.aload_n 0, 1) := by decide +kernel
theorem dX11_partEnd_17 : decode cX11_partEnd 17 = .ok (.getfield 75, 3) := by decide +kernel
theorem dX11_partEnd_20 : decode cX11_partEnd 20 = .ok (.iload_n 1, 1) := by decide +kernel
theorem dX11_partEnd_21 : decode cX11_partEnd 21 = .ok (.iaload, 1) := by decide +kernel
theorem dX11_partEnd_22 : decode cX11_partEnd 22 = .ok (.ireturn, 1) := by decide +kernel
theorem dX11_partEnd_23 : decode cX11_partEnd 23 = .ok (.aload_n 0, 1) := by decide +kernel
theorem dX11_partEnd_24 : decode cX11_partEnd 24 = .ok (.getfield 72, 3) := by decide +kernel
theorem dX11_partEnd_27 : decode cX11_partEnd 27 = .ok (.iload_n 1, 1) := by decide +kernel
theorem dX11_partEnd_28 : decode cX11_partEnd 28 = .ok (.iaload, 1) := by decide +kernel
theorem dX11_partEnd_29 : decode cX11_partEnd 29 = .ok (.istore_n 2, 1) := by decide +kernel
theorem dX11_partEnd_30 : decode cX11_partEnd 30 = .ok (.aload_n 0, 1) := by decide +kernel
theorem dX11_partEnd_31 : decode cX11_partEnd 31 = .ok (.getfield 22, 3) := by decide +kernel
theorem dX11_partEnd_34 : decode cX11_partEnd 34 = .ok (.iload_n 2, 1) := by decide +kernel
theorem dX11_partEnd_35 : decode cX11_partEnd 35 = .ok (.iaload, 1) := by decide +kernel
theorem dX11_partEnd_36 : decode cX11_partEnd 36 = .ok (.istore_n 3, 1) := by decide +kernel
theorem dX11_partEnd_37 : decode cX11_partEnd 37 = .ok (.aload_n 0, 1) := by decide +kernel
theorem dX11_partEnd_38 : decode cX11_partEnd 38 = .ok (.getfield 69, 3) := by decide +kernel
theorem dX11_partEnd_41 : decode cX11_partEnd 41 = .ok (.iload_n 1, 1) := by decide +kernel
theorem dX11_partEnd_42 : decode cX11_partEnd 42 = .ok (.iaload, 1) := by decide +kernel
theorem dX11_partEnd_43 : decode cX11_partEnd 43 = .ok (.iconst 1, 1) := by decide +kernel
theorem dX11_partEnd_44 : decode cX11_partEnd 44 = .ok (.if_icmp .ne 13, 3) := by decide +kernel
theorem dX11_partEnd_47 : decode cX11_partEnd 47 = .ok (.aload_n 0, 1) := by decide +kernel
theorem dX11_partEnd_48 : decode cX11_partEnd 48 = .ok (.getfield 78, 3) := by decide +kernel
theorem dX11_partEnd_51 : decode cX11_partEnd 51 = .ok (.iload_n 1, 1) := by decide +kernel
theorem dX11_partEnd_52 : decode cX11_partEnd 52 = .ok (.iaload, 1) := by decide +kernel
theorem dX11_partEnd_53 : decode cX11_partEnd 53 = .ok (.iconst 2, 1) := by decide +kernel
theorem dX11_partEnd_54 : decode cX11_partEnd 54 = .ok (.if_icmp .ne 5, 3) := by decide +kernel
theorem dX11_partEnd_57 : decode cX11_partEnd 57 = .ok (.iload_n 3, 1) := by decide +kernel
theorem dX11_partEnd_58 : decode cX11_partEnd 58 = .ok (.ireturn, 1) := by decide +kernel
theorem dX11_partEnd_59 : decode cX11_partEnd 59 = .ok (.aload_n 0, 1) := by decide +kernel
theorem dX11_partEnd_60 : decode cX11_partEnd 60 = .ok (.getfield 28, 3) := by decide +kernel
theorem dX11_partEnd_63 : decode cX11_partEnd 63 = .ok (.iload_n 2, 1) := by decide +kernel
theorem dX11_partEnd_64 : decode cX11_partEnd 64 = .ok (.iaload, 1) := by decide +kernel
theorem dX11_partEnd_65 : decode cX11_partEnd 65 = .ok (.ifCond .lt 12, 3) := by decide +kernel
theorem dX11_partEnd_68 : decode cX11_partEnd 68 = .ok (.aload_n 0, 1) := by decide +kernel
theorem dX11_partEnd_69 : decode cX11_partEnd 69 = .ok (.getfield 28, 3) := by decide +kernel
theorem dX11_partEnd_72 : decode cX11_partEnd 72 = .ok (.iload_n 2, 1) := by decide +kernel
theorem dX11_partEnd_73 : decode cX11_partEnd 73 = .ok (.iaload, 1) := by decide +kernel
theorem dX11_partEnd_74 : decode cX11_partEnd 74 = .ok (.goto 4, 3) := by decide +kernel
theorem dX11_partEnd_77 : decode cX11_partEnd 77 = .ok (.iload_n 3, 1) := by decide +kernel
theorem dX11_partEnd_78 : decode cX11_partEnd 78 = .ok (.istore_n 3, 1) := by decide +kernel
theorem dX11_partEnd_79 : decode cX11_partEnd 79 = .ok (.aload_n 0, 1) := by decide +kernel
theorem dX11_partEnd_80 : decode cX11_partEnd 80 = .ok (.getfield 78, 3) := by decide +kernel
theorem dX11_partEnd_83 : decode cX11_partEnd 83 = .ok (.iload_n 1, 1) := by decide +kernel
theorem dX11_partEnd_84 : decode cX11_partEnd 84 = .ok (.iaload, 1) := by decide +kernel
theorem dX11_partEnd_85 : decode cX11_partEnd 85 = .ok (.ifCond .ne 21, 3) := by decide +kernel
theorem dX11_partEnd_88 : decode cX11_partEnd 88 = .ok (.aload_n 0, 1) := by decide +kernel
theorem dX11_partEnd_89 : decode cX11_partEnd 89 = .ok (.getfield 25, 3) := by decide +kernel
theorem dX11_partEnd_92 : decode cX11_partEnd 92 = .ok (.iload_n 2, 1) := by decide +kernel
theorem dX11_partEnd_93 : decode cX11_partEnd 93 = .ok (.iaload, 1) := by decide +kernel
theorem dX11_partEnd_94 : decode cX11_partEnd 94 = .ok (.ifCond .lt 12, 3) := by decide +kernel
theorem dX11_partEnd_97 : decode cX11_partEnd 97 = .ok (.aload_n 0, 1) := by decide +kernel
theorem dX11_partEnd_98 : decode cX11_partEnd 98 = .ok (.getfield 25, 3) := by decide +kernel
theorem dX11_partEnd_101 : decode cX11_partEnd 101 = .ok (.iload_n 2, 1) := by decide +kernel
theorem dX11_partEnd_102 : decode cX11_partEnd 102 = .ok (.iaload, 1) := by decide +kernel
theorem dX11_partEnd_103 : decode cX11_partEnd 103 = .ok (.goto 4, 3) := by decide +kernel
theorem dX11_partEnd_106 : decode cX11_partEnd 106 = .ok (.iload_n 3, 1) := by decide +kernel
theorem dX11_partEnd_107 : decode cX11_partEnd 107 = .ok (.ireturn, 1) := by decide +kernel
theorem dX11_goes_0 : decode cX11_goes 0 = .ok (.aload_n 0, 1) := by decide +kernel
theorem dX11_goes_1 : decode cX11_goes 1 = .ok (.getfield 187, 3) := by decide +kernel
theorem dX11_goes_4 : decode cX11_goes 4 = .ok (.aload_n 0, 1) := by decide +kernel
theorem dX11_goes_5 : decode cX11_goes 5 = .ok (.invokevirtual 190, 3) := by decide +kernel
theorem dX11_goes_8 : decode cX11_goes 8 = .ok (.if_icmp .ne 13, 3) := by decide +kernel
theorem dX11_goes_11 : decode cX11_goes 11 = .ok (.aload_n 0, 1) := by decide +kernel
theorem dX11_goes_12 : decode cX11_goes 12 = .ok (.iconst 0, 1) := by decide +kernel
theorem dX11_goes_13 : decode cX11_goes 13 = .ok (.putfield 194, 3) := by decide +kernel
theorem dX11_goes_16 : decode cX11_goes 16 = .ok (.aload_n 0, 1) := by decide +kernel
theorem dX11_goes_17 : decode cX11_goes 17 = .ok (.invokevirtual 197, 3) := by decide +kernel
theorem dX11_goes_20 : decode cX11_goes 20 = .ok (.return_, 1) := by decide +kernel
theorem dX11_goes_21 : decode cX11_goes 21 = .ok (.aload_n 0, 1) := by decide +kernel
theorem dX11_goes_22 : decode cX11_goes 22 = .ok (.invokevirtual 200, 3) := by decide +kernel
theorem dX11_goes_25 : decode cX11_goes 25 = .ok (.ifCond .ne 4, 3) := by decide +kernel
theorem dX11_goes_28 : decode cX11_goes 28 = .ok (.return_, 1) := by decide +kernel
theorem dX11_goes_29 : decode cX11_goes 29 = .ok (.aload_n 0, 1) := by decide +kernel
theorem dX11_goes_30 : decode cX11_goes 30 = .ok (.getfield 187, 3) := by decide +kernel
theorem dX11_goes_33 : decode cX11_goes 33 = .ok (.istore_n 1, 1) := by decide +kernel
theorem dX11_goes_34 : decode cX11_goes 34 = .ok (.aload_n 0, 1) := by decide +kernel
theorem dX11_goes_35 : decode cX11_goes 35 = .ok (.getfield 7, 3) := by decide +kernel
theorem dX11_goes_38 : decode cX11_goes 38 = .ok (.iload_n 1, 1) := by decide +kernel
theorem dX11_goes_39 : decode cX11_goes 39 = .ok (.iaload, 1) := by decide +kernel
theorem dX11_goes_40 : decode cX11_goes 40 = .ok (.istore_n 2, 1) := by decide +kernel
theorem dX11_goes_41 : decode cX11_goes 41 = .ok (.iload_n 2, 1) := by decide +kernel
theorem dX11_goes_42 : decode cX11_goes 42 = .ok (.bipush 25, 2) := by decide +kernel
theorem dX11_goes_44 : decode cX11_goes 44 = .ok (.if_icmp .ge 60, 3) := by decide +kernel
theorem dX11_goes_47 : decode cX11_goes 47 = .ok (.iload_n 2, 1) := by decide +kernel
theorem dX11_goes_48 : decode cX11_goes 48 = .ok (.bipush 7, 2) := by decide +kernel
theorem dX11_goes_50 : decode cX11_goes 50 = .ok (.if_icmp .ge 11, 3) := by decide +kernel
theorem dX11_goes_53 : decode cX11_goes 53 = .ok (.aload_n 0, 1) := by decide +kernel
theorem dX11_goes_54 : decode cX11_goes 54 = .ok (.iload_n 1, 1) := by decide +kernel
theorem dX11_goes_55 : decode cX11_goes 55 = .ok (.invokevirtual 204, 3) := by decide +kernel
theorem dX11_goes_58 : decode cX11_goes 58 = .ok (.goto 36, 3) := by decide +kernel
theorem dX11_goes_61 : decode cX11_goes 61 = .ok (.iload_n 2, 1) := by decide +kernel
theorem dX11_goes_62 : decode cX11_goes 62 = .ok (.bipush 14, 2) := by decide +kernel
theorem dX11_goes_64 : decode cX11_goes 64 = .ok (.if_icmp .ge 11, 3) := by decide +kernel
theorem dX11_goes_67 : decode cX11_goes 67 = .ok (.aload_n 0, 1) := by decide +kernel
theorem dX11_goes_68 : decode cX11_goes 68 = .ok (.iload_n 1, 1) := by decide +kernel
theorem dX11_goes_69 : decode cX11_goes 69 = .ok (.invokevirtual 208, 3) := by decide +kernel
theorem dX11_goes_72 : decode cX11_goes 72 = .ok (.goto 22, 3) := by decide +kernel
theorem dX11_goes_75 : decode cX11_goes 75 = .ok (.iload_n 2, 1) := by decide +kernel
theorem dX11_goes_76 : decode cX11_goes 76 = .ok (.bipush 22, 2) := by decide +kernel
theorem dX11_goes_78 : decode cX11_goes 78 = .ok (.if_icmp .ge 11, 3) := by decide +kernel
theorem dX11_goes_81 : decode cX11_goes 81 = .ok (.aload_n 0, 1) := by decide +kernel
theorem dX11_goes_82 : decode cX11_goes 82 = .ok (.iload_n 1, 1) := by decide +kernel
theorem dX11_goes_83 : decode cX11_goes 83 = .ok (.invokevirtual 211, 3) := by decide +kernel
theorem dX11_goes_86 : decode cX11_goes 86 = .ok (.goto 8, 3) := by decide +kernel
theorem dX11_goes_89 : decode cX11_goes 89 = .ok (.aload_n 0, 1) := by decide +kernel
theorem dX11_goes_90 : decode cX11_goes 90 = .ok (.iload_n 1, 1) := by decide +kernel
theorem dX11_goes_91 : decode cX11_goes 91 = .ok (.invokevirtual 214, 3) := by decide +kernel
theorem dX11_goes_94 : decode cX11_goes 94 = .ok (.istore_n 3, 1) := by decide +kernel
theorem dX11_goes_95 : decode cX11_goes 95 = .ok (.aload_n 0, 1) := by decide +kernel
theorem dX11_goes_96 : decode cX11_goes 96 = .ok (.iload_n 1, 1) := by decide +kernel
theorem dX11_goes_97 : decode cX11_goes 97 = .ok (.iload_n 3, 1) := by decide +kernel
theorem dX11_goes_98 : decode cX11_goes 98 = .ok (.invokevirtual 217, 3) := by decide +kernel
theorem dX11_goes_101 : decode cX11_goes 101 = .ok (.goto 132, 3) := by decide +kernel
theorem dX11_goes_104 : decode cX11_goes 104 = .ok (.iload_n 2, 1) := by decide +kernel
theorem dX11_goes_105 : decode cX11_goes 105 = .ok (.bipush 25, 2) := by decide +kernel
theorem dX11_goes_107 : decode cX11_goes 107 = .ok (.if_icmp .eq 15, 3) := by decide +kernel
theorem dX11_goes_110 : decode cX11_goes 110 = .ok (.iload_n 2, 1) := by decide +kernel
theorem dX11_goes_111 : decode cX11_goes 111 = .ok (.bipush 29, 2) := by decide +kernel
theorem dX11_goes_113 : decode cX11_goes 113 = .ok (.if_icmp .eq 9, 3) := by decide +kernel
theorem dX11_goes_116 : decode cX11_goes 116 = .ok (.iload_n 2, 1) := by decide +kernel
theorem dX11_goes_117 : decode cX11_goes 117 = .ok (.bipush 30, 2) := by decide +kernel
theorem dX11_goes_119 : decode cX11_goes 119 = .ok (.if_icmp .ne 12, 3) := by decide +kernel
theorem dX11_goes_122 : decode cX11_goes 122 = .ok (.aload_n 0, 1) := by decide +kernel
theorem dX11_goes_123 : decode cX11_goes 123 = .ok (.iload_n 1, 1) := by decide +kernel
theorem dX11_goes_124 : decode cX11_goes 124 = .ok (.iload_n 2, 1) := by decide +kernel
theorem dX11_goes_125 : decode cX11_goes 125 = .ok (.invokevirtual 220, 3) := by decide +kernel
theorem dX11_goes_128 : decode cX11_goes 128 = .ok (.goto 105, 3) := by decide +kernel
theorem dX11_goes_131 : decode cX11_goes 131 = .ok (.iload_n 2, 1) := by decide +kernel
theorem dX11_goes_132 : decode cX11_goes 132 = .ok (.bipush 35, 2) := by decide +kernel
theorem dX11_goes_134 : decode cX11_goes 134 = .ok (.if_icmp .ne 11, 3) := by decide +kernel
theorem dX11_goes_137 : decode cX11_goes 137 = .ok (.aload_n 0, 1) := by decide +kernel
theorem dX11_goes_138 : decode cX11_goes 138 = .ok (.iload_n 1, 1) := by decide +kernel
theorem dX11_goes_139 : decode cX11_goes 139 = .ok (.invokevirtual 223, 3) := by decide +kernel
theorem dX11_goes_142 : decode cX11_goes 142 = .ok (.goto 91, 3) := by decide +kernel
theorem dX11_goes_145 : decode cX11_goes 145 = .ok (.iload_n 2, 1) := by decide +kernel
theorem dX11_goes_146 : decode cX11_goes 146 = .ok (.bipush 32, 2) := by decide +kernel
theorem dX11_goes_148 : decode cX11_goes 148 = .ok (.if_icmp .eq 15, 3) := by decide +kernel
theorem dX11_goes_151 : decode cX11_goes 151 = .ok (.iload_n 2, 1) := by decide +kernel
theorem dX11_goes_152 : decode cX11_goes 152 = .ok (.bipush 33, 2) := by decide +kernel
theorem dX11_goes_154 : decode cX11_goes 154 = .ok (.if_icmp .eq 9, 3) := by decide +kernel
theorem dX11_goes_157 : decode cX11_goes 157 = .ok (.iload_n 2, 1) := by decide +kernel
theorem dX11_goes_158 : decode cX11_goes 158 = .ok (.bipush 34, 2) := by decide +kernel
theorem dX11_goes_160 : decode cX11_goes 160 = .ok (.if_icmp .ne 63, 3) := by decide +kernel
theorem dX11_goes_163 : decode cX11_goes 163 = .ok (.aload_n 0, 1) := by decide +kernel
theorem dX11_goes_164 : decode cX11_goes 164 = .ok (.iload_n 2, 1) := by decide +kernel
theorem dX11_goes_165 : decode cX11_goes 165 = .ok (.bipush 32, 2) := by decide +kernel
theorem dX11_goes_167 : decode cX11_goes 167 = .ok (.if_icmp .ne 7, 3) := by decide +kernel
theorem dX11_goes_170 : decode cX11_goes 170 = .ok (.iconst 3, 1) := by decide +kernel
theorem dX11_goes_171 : decode cX11_goes 171 = .ok (.goto 14, 3) := by decide +kernel
theorem dX11_goes_174 : decode cX11_goes 174 = .ok (.iload_n 2, 1) := by decide +kernel
theorem dX11_goes_175 : decode cX11_goes 175 = .ok (.bipush 33, 2) := by decide +kernel
theorem dX11_goes_177 : decode cX11_goes 177 = .ok (.if_icmp .ne 7, 3) := by decide +kernel
theorem dX11_goes_180 : decode cX11_goes 180 = .ok (.iconst 4, 1) := by decide +kernel
theorem dX11_goes_181 : decode cX11_goes 181 = .ok (.goto 4, 3) := by decide +kernel
theorem dX11_goes_184 : decode cX11_goes 184 = .ok (.iconst 1, 1) := by decide +kernel
theorem dX11_goes_185 : decode cX11_goes 185 = .ok (.putfield 194, 3) := by decide +kernel
theorem dX11_goes_188 : decode cX11_goes 188 = .ok (.aload_n 0, 1) := by decide +kernel
theorem dX11_goes_189 : decode cX11_goes 189 = .ok (.iload_n 2, 1) := by decide +kernel
theorem dX11_goes_190 : decode cX11_goes 190 = .ok (.bipush 34, 2) := by decide +kernel
theorem dX11_goes_192 : decode cX11_goes 192 = .ok (.if_icmp .ne 20, 3) := by decide +kernel
theorem dX11_goes_195 : decode cX11_goes 195 = .ok (.aload_n 0, 1) := by decide +kernel
theorem dX11_goes_196 : decode cX11_goes 196 = .ok (.getfield 43, 3) := by decide +kernel
theorem dX11_goes_199 : decode cX11_goes 199 = .ok (.aload_n 0, 1) := by decide +kernel
theorem dX11_goes_200 : decode cX11_goes 200 = .ok (.getfield 13, 3) := by decide +kernel
theorem dX11_goes_203 : decode cX11_goes 203 = .ok (.iload_n 1, 1) := by decide +kernel
theorem dX11_goes_204 : decode cX11_goes 204 = .ok (.iaload, 1) := by decide +kernel
theorem dX11_goes_205 : decode cX11_goes 205 = .ok (.bipush 7, 2) := by decide +kernel
theorem dX11_goes_207 : decode cX11_goes 207 = .ok (.iand, 1) := by decide +kernel
theorem dX11_goes_208 : decode cX11_goes 208 = .ok (.laload, 1) := by decide +kernel
theorem dX11_goes_209 : decode cX11_goes 209 = .ok (.goto 4, 3) := by decide +kernel
theorem dX11_goes_212 : decode cX11_goes 212 = .ok (.lconst 0, 1) := by decide +kernel
theorem dX11_goes_213 : decode cX11_goes 213 = .ok (.putfield 226, 3) := by decide +kernel
theorem dX11_goes_216 : decode cX11_goes 216 = .ok (.aload_n 0, 1) := by decide +kernel
theorem dX11_goes_217 : decode cX11_goes 217 = .ok (.invokevirtual 197, 3) := by decide +kernel
theorem dX11_goes_220 : decode cX11_goes 220 = .ok (.goto 13, 3) := by decide +kernel
theorem dX11_goes_223 : decode cX11_goes 223 = .ok (.aload_n 0, 1) := by decide +kernel
theorem dX11_goes_224 : decode cX11_goes 224 = .ok (.dup, 1) := by decide +kernel
theorem dX11_goes_225 : decode cX11_goes 225 = .ok (.getfield 187, 3) := by decide +kernel
theorem dX11_goes_228 : decode cX11_goes 228 = .ok (.iconst 1, 1) := by decide +kernel
theorem dX11_goes_229 : decode cX11_goes 229 = .ok (.iadd, 1) := by decide +kernel
theorem dX11_goes_230 : decode cX11_goes 230 = .ok (.putfield 187, 3) := by decide +kernel
theorem dX11_goes_233 : decode cX11_goes 233 = .ok (.return_, 1) := by decide +kernel
theorem dX11_goOn_0 : decode cX11_goOn 0 = .ok (.iload_n 2, 1) := by decide +kernel
theorem dX11_goOn_1 : decode cX11_goOn 1 = .ok (.ifCond .ne 11, 3) := by decide +kernel
theorem dX11_goOn_4 : decode cX11_goOn 4 = .ok (.aload_n 0, 1) := by decide +kernel
theorem dX11_goOn_5 : decode cX11_goOn 5 = .ok (.iload_n 1, 1) := by decide +kernel
theorem dX11_goOn_6 : decode cX11_goOn 6 = .ok (.iconst 1, 1) := by decide +kernel
theorem dX11_goOn_7 : decode cX11_goOn 7 = .ok (.iadd, 1) := by decide +kernel
theorem dX11_goOn_8 : decode cX11_goOn 8 = .ok (.putfield 187, 3) := by decide +kernel
theorem dX11_goOn_11 : decode cX11_goOn 11 = .ok (.return_, 1) := by decide +kernel
theorem dX11_goOn_12 : decode cX11_goOn 12 = .ok (.iload_n 2, 1) := by decide +kernel
theorem dX11_goOn_13 : decode cX11_goOn 13 = .ok (.ifCond .le 11, 3) := by decide +kernel
theorem dX11_goOn_16 : decode cX11_goOn 16 = .ok (.aload_n 0, 1) := by decide +kernel
theorem dX11_goOn_17 : decode cX11_goOn 17 = .ok (.iload_n 2, 1) := by decide +kernel
theorem dX11_goOn_18 : decode cX11_goOn 18 = .ok (.iconst 1, 1) := by decide +kernel
theorem dX11_goOn_19 : decode cX11_goOn 19 = .ok (.isub, 1) := by decide +kernel
theorem dX11_goOn_20 : decode cX11_goOn 20 = .ok (.iconst 0, 1) := by decide +kernel
theorem dX11_goOn_21 : decode cX11_goOn 21 = .ok (.invokevirtual 229, 3) := by decide +kernel
theorem dX11_goOn_24 : decode cX11_goOn 24 = .ok (.aload_n 0, 1) := by decide +kernel
theorem dX11_goOn_25 : decode cX11_goOn 25 = .ok (.iconst 2, 1) := by decide +kernel
theorem dX11_goOn_26 : decode cX11_goOn 26 = .ok (.putfield 194, 3) := by decide +kernel
theorem dX11_goOn_29 : decode cX11_goOn 29 = .ok (.aload_n 0, 1) := by decide +kernel
theorem dX11_goOn_30 : decode cX11_goOn 30 = .ok (.invokevirtual 197, 3) := by decide +kernel
theorem dX11_goOn_33 : decode cX11_goOn 33 = .ok (.return_, 1) := by decide +kernel
theorem dX11_makeFailure_0 : decode cX11_makeFailure 0 = .ok (.aload_n 0, 1) := by decide +kernel
theorem dX11_makeFailure_1 : decode cX11_makeFailure 1 = .ok (.dup, 1) := by decide +kernel
theorem dX11_makeFailure_2 : decode cX11_makeFailure 2 = .ok (.getfield 159, 3) := by decide +kernel
theorem dX11_makeFailure_5 : decode cX11_makeFailure 5 = .ok (.iconst 1, 1) := by decide +kernel
theorem dX11_makeFailure_6 : decode cX11_makeFailure 6 = .ok (.iadd, 1) := by decide +kernel
theorem dX11_makeFailure_7 : decode cX11_makeFailure 7 = .ok (.putfield 159, 3) := by decide +kernel
theorem dX11_makeFailure_10 : decode cX11_makeFailure 10 = .ok (.aload_n 0, 1) := by decide +kernel
theorem dX11_makeFailure_11 : decode cX11_makeFailure 11 = .ok (.getfield 93, 3) := by decide +kernel
theorem dX11_makeFailure_14 : decode cX11_makeFailure 14 = .ok (.aload_n 0, 1) := by decide +kernel
theorem dX11_makeFailure_15 : decode cX11_makeFailure 15 = .ok (.getfield 159, 3) := by decide +kernel
theorem dX11_makeFailure_18 : decode cX11_makeFailure 18 = .ok (.iload_n 1, 1) := by decide +kernel
theorem dX11_makeFailure_19 : decode cX11_makeFailure 19 = .ok (.iastore, 1) := by decide +kernel
theorem dX11_makeFailure_20 : decode cX11_makeFailure 20 = .ok (.aload_n 0, 1) := by decide +kernel
theorem dX11_makeFailure_21 : decode cX11_makeFailure 21 = .ok (.getfield 96, 3) := by decide +kernel
theorem dX11_makeFailure_24 : decode cX11_makeFailure 24 = .ok (.aload_n 0, 1) := by decide +kernel
theorem dX11_makeFailure_25 : decode cX11_makeFailure 25 = .ok (.getfield 159, 3) := by decide +kernel
theorem dX11_makeFailure_28 : decode cX11_makeFailure 28 = .ok (.iload_n 2, 1) := by decide +kernel
theorem dX11_makeFailure_29 : decode cX11_makeFailure 29 = .ok (.iastore, 1) := by decide +kernel
theorem dX11_makeFailure_30 : decode cX11_makeFailure 30 = .ok (.aload_n 0, 1) := by decide +kernel
theorem dX11_makeFailure_31 : decode cX11_makeFailure 31 = .ok (.aload_n 0, 1) := by decide +kernel
theorem dX11_makeFailure_32 : decode cX11_makeFailure 32 = .ok (.getfield 159, 3) := by decide +kernel
theorem dX11_makeFailure_35 : decode cX11_makeFailure 35 = .ok (.putfield 232, 3) := by decide +kernel
theorem dX11_makeFailure_38 : decode cX11_makeFailure 38 = .ok (.return_, 1) := by decide +kernel
theorem dX11_block_0 : decode cX11_block 0 = .ok (.aload_n 0, 1) := by decide +kernel
theorem dX11_block_1 : decode cX11_block 1 = .ok (.iload_n 2, 1) := by decide +kernel
theorem dX11_block_2 : decode cX11_block 2 = .ok (.bipush 25, 2) := by decide +kernel
theorem dX11_block_4 : decode cX11_block 4 = .ok (.if_icmp .ne 7, 3) := by decide +kernel
theorem dX11_block_7 : decode cX11_block 7 = .ok (.iconst 1, 1) := by decide +kernel
theorem dX11_block_8 : decode cX11_block 8 = .ok (.goto 14, 3) := by decide +kernel
theorem dX11_block_11 : decode cX11_block 11 = .ok (.iload_n 2, 1) := by decide +kernel
theorem dX11_block_12 : decode cX11_block 12 = .ok (.bipush 29, 2) := by decide +kernel
theorem dX11_block_14 : decode cX11_block 14 = .ok (.if_icmp .ne 7, 3) := by decide +kernel
theorem dX11_block_17 : decode cX11_block 17 = .ok (.iconst 2, 1) := by decide +kernel
theorem dX11_block_18 : decode cX11_block 18 = .ok (.goto 4, 3) := by decide +kernel
theorem dX11_block_21 : decode cX11_block 21 = .ok (.iconst 3, 1) := by decide +kernel
theorem dX11_block_22 : decode cX11_block 22 = .ok (.iload_n 1, 1) := by decide +kernel
theorem dX11_block_23 : decode cX11_block 23 = .ok (.iconst 0, 1) := by decide +kernel
theorem dX11_block_24 : decode cX11_block 24 = .ok (.invokevirtual 184, 3) := by decide +kernel
theorem dX11_block_27 : decode cX11_block 27 = .ok (.ifCond .ne 4, 3) := by decide +kernel
theorem dX11_block_30 : decode cX11_block 30 = .ok (.return_, 1) := by decide +kernel
theorem dX11_block_31 : decode cX11_block 31 = .ok (.iload_n 2, 1) := by decide +kernel
theorem dX11_block_32 : decode cX11_block 32 = .ok (.bipush 29, 2) := by decide +kernel
theorem dX11_block_34 : decode cX11_block 34 = .ok (.if_icmp .ne 9, 3) := by decide +kernel
theorem dX11_block_37 : decode cX11_block 37 = .ok (.aload_n 0, 1) := by decide +kernel
theorem dX11_block_38 : decode cX11_block 38 = .ok (.iload_n 1, 1) := by decide +kernel
theorem dX11_block_39 : decode cX11_block 39 = .ok (.invokevirtual 235, 3) := by decide +kernel
theorem dX11_block_42 : decode cX11_block 42 = .ok (.return_, 1) := by decide +kernel
theorem dX11_block_43 : decode cX11_block 43 = .ok (.iload_n 2, 1) := by decide +kernel
theorem dX11_block_44 : decode cX11_block 44 = .ok (.bipush 25, 2) := by decide +kernel
theorem dX11_block_46 : decode cX11_block 46 = .ok (.if_icmp .eq 35, 3) := by decide +kernel
theorem dX11_block_49 : decode cX11_block 49 = .ok (.aload_n 0, 1) := by decide +kernel
theorem dX11_block_50 : decode cX11_block 50 = .ok (.getfield 43, 3) := by decide +kernel
theorem dX11_block_53 : decode cX11_block 53 = .ok (.aload_n 0, 1) := by decide +kernel
theorem dX11_block_54 : decode cX11_block 54 = .ok (.getfield 13, 3) := by decide +kernel
theorem dX11_block_57 : decode cX11_block 57 = .ok (.iload_n 1, 1) := by decide +kernel
theorem dX11_block_58 : decode cX11_block 58 = .ok (.iaload, 1) := by decide +kernel
theorem dX11_block_59 : decode cX11_block 59 = .ok (.bipush 7, 2) := by decide +kernel
theorem dX11_block_61 : decode cX11_block 61 = .ok (.iand, 1) := by decide +kernel
theorem dX11_block_62 : decode cX11_block 62 = .ok (.laload, 1) := by decide +kernel
theorem dX11_block_63 : decode cX11_block 63 = .ok (.aload_n 0, 1) := by decide +kernel
theorem dX11_block_64 : decode cX11_block 64 = .ok (.getfield 43, 3) := by decide +kernel
theorem dX11_block_67 : decode cX11_block 67 = .ok (.aload_n 0, 1) := by decide +kernel
theorem dX11_block_68 : decode cX11_block 68 = .ok (.getfield 16, 3) := by decide +kernel
theorem dX11_block_71 : decode cX11_block 71 = .ok (.iload_n 1, 1) := by decide +kernel
theorem dX11_block_72 : decode cX11_block 72 = .ok (.iaload, 1) := by decide +kernel
theorem dX11_block_73 : decode cX11_block 73 = .ok (.bipush 7, 2) := by decide +kernel
theorem dX11_block_75 : decode cX11_block 75 = .ok (.iand, 1) := by decide +kernel
theorem dX11_block_76 : decode cX11_block 76 = .ok (.laload, 1) := by decide +kernel
theorem dX11_block_77 : decode cX11_block 77 = .ok (.lcmp, 1) := by decide +kernel
theorem dX11_block_78 : decode cX11_block 78 = .ok (.ifCond .ge 7, 3) := by decide +kernel
theorem dX11_block_81 : decode cX11_block 81 = .ok (.iconst 1, 1) := by decide +kernel
theorem dX11_block_82 : decode cX11_block 82 = .ok (.goto 4, 3) := by decide +kernel
theorem dX11_block_85 : decode cX11_block 85 = .ok (.iconst 0, 1) := by decide +kernel
theorem dX11_block_86 : decode cX11_block 86 = .ok (.istore_n 3, 1) := by decide +kernel
theorem dX11_block_87 : decode cX11_block 87 = .ok (.aload_n 0, 1) := by decide +kernel
theorem dX11_block_88 : decode cX11_block 88 = .ok (.iload_n 3, 1) := by decide +kernel
theorem dX11_block_89 : decode cX11_block 89 = .ok (.ifCond .eq 9, 3) := by decide +kernel
theorem dX11_block_92 : decode cX11_block 92 = .ok (.iload_n 1, 1) := by decide +kernel
theorem dX11_block_93 : decode cX11_block 93 = .ok (.iconst 1, 1) := by decide +kernel
theorem dX11_block_94 : decode cX11_block 94 = .ok (.iadd, 1) := by decide +kernel
theorem dX11_block_95 : decode cX11_block 95 = .ok (.goto 9, 3) := by decide +kernel
theorem dX11_block_98 : decode cX11_block 98 = .ok (.aload_n 0, 1) := by decide +kernel
theorem dX11_block_99 : decode cX11_block 99 = .ok (.getfield 31, 3) := by decide +kernel
theorem dX11_block_102 : decode cX11_block 102 = .ok (.iload_n 1, 1) := by decide +kernel
theorem dX11_block_103 : decode cX11_block 103 = .ok (.iaload, 1) := by decide +kernel
theorem dX11_block_104 : decode cX11_block 104 = .ok (.putfield 187, 3) := by decide +kernel
theorem dX11_block_107 : decode cX11_block 107 = .ok (.aload_n 0, 1) := by decide +kernel
theorem dX11_block_108 : decode cX11_block 108 = .ok (.dup, 1) := by decide +kernel
theorem dX11_block_109 : decode cX11_block 109 = .ok (.getfield 156, 3) := by decide +kernel
theorem dX11_block_112 : decode cX11_block 112 = .ok (.iload_n 3, 1) := by decide +kernel
theorem dX11_block_113 : decode cX11_block 113 = .ok (.ifCond .eq 7, 3) := by decide +kernel
theorem dX11_block_116 : decode cX11_block 116 = .ok (.iconst 0, 1) := by decide +kernel
theorem dX11_block_117 : decode cX11_block 117 = .ok (.goto 4, 3) := by decide +kernel
theorem dX11_block_120 : decode cX11_block 120 = .ok (.iconst 1, 1) := by decide +kernel
theorem dX11_block_121 : decode cX11_block 121 = .ok (.isub, 1) := by decide +kernel
theorem dX11_block_122 : decode cX11_block 122 = .ok (.putfield 156, 3) := by decide +kernel
theorem dX11_block_125 : decode cX11_block 125 = .ok (.return_, 1) := by decide +kernel
theorem dX11_looks_0 : decode cX11_looks 0 = .ok (.aload_n 0, 1) := by decide +kernel
theorem dX11_looks_1 : decode cX11_looks 1 = .ok (.getfield 13, 3) := by decide +kernel
theorem dX11_looks_4 : decode cX11_looks 4 = .ok (.iload_n 1, 1) := by decide +kernel
theorem dX11_looks_5 : decode cX11_looks 5 = .ok (.iaload, 1) := by decide +kernel
theorem dX11_looks_6 : decode cX11_looks 6 = .ok (.bipush 7, 2) := by decide +kernel
theorem dX11_looks_8 : decode cX11_looks 8 = .ok (.iand, 1) := by decide +kernel
theorem dX11_looks_9 : decode cX11_looks 9 = .ok (.istore_n 2, 1) := by decide +kernel
theorem dX11_looks_10 : decode cX11_looks 10 = .ok (.aload_n 0, 1) := by decide +kernel
theorem dX11_looks_11 : decode cX11_looks 11 = .ok (.getfield 43, 3) := by decide +kernel
theorem dX11_looks_14 : decode cX11_looks 14 = .ok (.iload_n 2, 1) := by decide +kernel
theorem dX11_looks_15 : decode cX11_looks 15 = .ok (.laload, 1) := by decide +kernel
theorem dX11_looks_16 : decode cX11_looks 16 = .ok (.lconst 0, 1) := by decide +kernel
theorem dX11_looks_17 : decode cX11_looks 17 = .ok (.lcmp, 1) := by decide +kernel
theorem dX11_looks_18 : decode cX11_looks 18 = .ok (.ifCond .le 21, 3) := by decide +kernel
theorem dX11_looks_21 : decode cX11_looks 21 = .ok (.aload_n 0, 1) := by decide +kernel
theorem dX11_looks_22 : decode cX11_looks 22 = .ok (.getfield 43, 3) := by decide +kernel
theorem dX11_looks_25 : decode cX11_looks 25 = .ok (.iload_n 2, 1) := by decide +kernel
theorem dX11_looks_26 : decode cX11_looks 26 = .ok (.dup2, 1) := by decide +kernel
theorem dX11_looks_27 : decode cX11_looks 27 = .ok (.laload, 1) := by decide +kernel
theorem dX11_looks_28 : decode cX11_looks 28 = .ok (.lconst 1, 1) := by decide +kernel
theorem dX11_looks_29 : decode cX11_looks 29 = .ok (.lsub, 1) := by decide +kernel
theorem dX11_looks_30 : decode cX11_looks 30 = .ok (.lastore, 1) := by decide +kernel
theorem dX11_looks_31 : decode cX11_looks 31 = .ok (.aload_n 0, 1) := by decide +kernel
theorem dX11_looks_32 : decode cX11_looks 32 = .ok (.iload_n 1, 1) := by decide +kernel
theorem dX11_looks_33 : decode cX11_looks 33 = .ok (.iconst 1, 1) := by decide +kernel
theorem dX11_looks_34 : decode cX11_looks 34 = .ok (.iadd, 1) := by decide +kernel
theorem dX11_looks_35 : decode cX11_looks 35 = .ok (.putfield 187, 3) := by decide +kernel
theorem dX11_looks_38 : decode cX11_looks 38 = .ok (.return_, 1) := by decide +kernel
theorem dX11_looks_39 : decode cX11_looks 39 = .ok (.aload_n 0, 1) := by decide +kernel
theorem dX11_looks_40 : decode cX11_looks 40 = .ok (.dup, 1) := by decide +kernel
theorem dX11_looks_41 : decode cX11_looks 41 = .ok (.getfield 156, 3) := by decide +kernel
theorem dX11_looks_44 : decode cX11_looks 44 = .ok (.iconst 1, 1) := by decide +kernel
theorem dX11_looks_45 : decode cX11_looks 45 = .ok (.isub, 1) := by decide +kernel
theorem dX11_looks_46 : decode cX11_looks 46 = .ok (.putfield 156, 3) := by decide +kernel
theorem dX11_looks_49 : decode cX11_looks 49 = .ok (.aload_n 0, 1) := by decide +kernel
theorem dX11_looks_50 : decode cX11_looks 50 = .ok (.aload_n 0, 1) := by decide +kernel
theorem dX11_looks_51 : decode cX11_looks 51 = .ok (.getfield 31, 3) := by decide +kernel
theorem dX11_looks_54 : decode cX11_looks 54 = .ok (.iload_n 1, 1) := by decide +kernel
theorem dX11_looks_55 : decode cX11_looks 55 = .ok (.iaload, 1) := by decide +kernel
theorem dX11_looks_56 : decode cX11_looks 56 = .ok (.putfield 187, 3) := by decide +kernel
theorem dX11_looks_59 : decode cX11_looks 59 = .ok (.return_, 1) := by decide +kernel
theorem dX11_call_0 : decode cX11_call 0 = .ok (.aload_n 0, 1) := by decide +kernel
theorem dX11_call_1 : decode cX11_call 1 = .ok (.getfield 13, 3) := by decide +kernel
theorem dX11_call_4 : decode cX11_call 4 = .ok (.iload_n 1, 1) := by decide +kernel
theorem dX11_call_5 : decode cX11_call 5 = .ok (.iaload, 1) := by decide +kernel
theorem dX11_call_6 : decode cX11_call 6 = .ok (.istore_n 2, 1) := by decide +kernel
theorem dX11_call_7 : decode cX11_call 7 = .ok (.iload_n 2, 1) := by decide +kernel
theorem dX11_call_8 : decode cX11_call 8 = .ok (.ifCond .lt 11, 3) := by decide +kernel
theorem dX11_call_11 : decode cX11_call 11 = .ok (.iload_n 2, 1) := by decide +kernel
theorem dX11_call_12 : decode cX11_call 12 = .ok (.aload_n 0, 1) := by decide +kernel
theorem dX11_call_13 : decode cX11_call 13 = .ok (.getfield 112, 3) := by decide +kernel
theorem dX11_call_16 : decode cX11_call 16 = .ok (.if_icmp .lt 11, 3) := by decide +kernel
theorem dX11_call_19 : decode cX11_call 19 = .ok (.aload_n 0, 1) := by decide +kernel
theorem dX11_call_20 : decode cX11_call 20 = .ok (.iload_n 1, 1) := by decide +kernel
theorem dX11_call_21 : decode cX11_call 21 = .ok (.bipush 7, 2) := by decide +kernel
theorem dX11_call_23 : decode cX11_call 23 = .ok (.invokevirtual 217, 3) := by decide +kernel
theorem dX11_call_26 : decode cX11_call 26 = .ok (.return_, 1) := by decide +kernel
theorem dX11_call_27 : decode cX11_call 27 = .ok (.aload_n 0, 1) := by decide +kernel
theorem dX11_call_28 : decode cX11_call 28 = .ok (.iload_n 2, 1) := by decide +kernel
theorem dX11_call_29 : decode cX11_call 29 = .ok (.iload_n 1, 1) := by decide +kernel
theorem dX11_call_30 : decode cX11_call 30 = .ok (.invokevirtual 137, 3) := by decide +kernel
theorem dX11_call_33 : decode cX11_call 33 = .ok (.return_, 1) := by decide +kernel
theorem dX11_comes_0 : decode cX11_comes 0 = .ok (.iconst 1, 1) := by decide +kernel
theorem dX11_comes_1 : decode cX11_comes 1 = .ok (.istore_n 1, 1) := by decide +kernel
theorem dX11_comes_2 : decode cX11_comes 2 = .ok (.iconst 0, 1) := by decide +kernel
theorem dX11_comes_3 : decode cX11_comes 3 = .ok (.istore_n 2, 1) := by decide +kernel
theorem dX11_comes_4 : decode cX11_comes 4 = .ok (.iload_n 2, 1) := by decide +kernel
theorem dX11_comes_5 : decode cX11_comes 5 = .ok (.sipush 500, 3) := by decide +kernel
theorem dX11_comes_8 : decode cX11_comes 8 = .ok (.if_icmp .ge 78, 3) := by decide +kernel
theorem dX11_comes_11 : decode cX11_comes 11 = .ok (.iload_n 1, 1) := by decide +kernel
theorem dX11_comes_12 : decode cX11_comes 12 = .ok (.ifCond .eq 74, 3) := by decide +kernel
theorem dX11_comes_15 : decode cX11_comes 15 = .ok (.aload_n 0, 1) := by decide +kernel
theorem dX11_comes_16 : decode cX11_comes 16 = .ok (.getfield 156, 3) := by decide +kernel
theorem dX11_comes_19 : decode cX11_comes 19 = .ok (.iconst 1, 1) := by decide +kernel
theorem dX11_comes_20 : decode cX11_comes 20 = .ok (.isub, 1) := by decide +kernel
theorem dX11_comes_21 : decode cX11_comes 21 = .ok (.istore_n 3, 1) := by decide +kernel
theorem dX11_comes_22 : decode cX11_comes 22 = .ok (.aload_n 0, 1) := by decide +kernel
theorem dX11_comes_23 : decode cX11_comes 23 = .ok (.getfield 69, 3) := by decide +kernel
theorem dX11_comes_26 : decode cX11_comes 26 = .ok (.iload_n 3, 1) := by decide +kernel
theorem dX11_comes_27 : decode cX11_comes 27 = .ok (.iaload, 1) := by decide +kernel
theorem dX11_comes_28 : decode cX11_comes 28 = .ok (.istore 4, 2) := by decide +kernel
theorem dX11_comes_30 : decode cX11_comes 30 = .ok (.iload 4, 2) := by decide +kernel
theorem dX11_comes_32 : decode cX11_comes 32 = .ok (.ifCond .ne 12, 3) := by decide +kernel
theorem dX11_comes_35 : decode cX11_comes 35 = .ok (.aload_n 0, 1) := by decide +kernel
theorem dX11_comes_36 : decode cX11_comes 36 = .ok (.iload_n 3, 1) := by decide +kernel
theorem dX11_comes_37 : decode cX11_comes 37 = .ok (.invokevirtual 238, 3) := by decide +kernel
theorem dX11_comes_40 : decode cX11_comes 40 = .ok (.istore_n 1, 1) := by decide +kernel
theorem dX11_comes_41 : decode cX11_comes 41 = .ok (.goto 39, 3) := by decide +kernel
theorem dX11_comes_44 : decode cX11_comes 44 = .ok (.iload 4, 2) := by decide +kernel
theorem dX11_comes_46 : decode cX11_comes 46 = .ok (.iconst 1, 1) := by decide +kernel
theorem dX11_comes_47 : decode cX11_comes 47 = .ok (.if_icmp .ne 12, 3) := by decide +kernel
theorem dX11_comes_50 : decode cX11_comes 50 = .ok (.aload_n 0, 1) := by decide +kernel
theorem dX11_comes_51 : decode cX11_comes 51 = .ok (.iload_n 3, 1) := by decide +kernel
theorem dX11_comes_52 : decode cX11_comes 52 = .ok (.invokevirtual 241, 3) := by decide +kernel
theorem dX11_comes_55 : decode cX11_comes 55 = .ok (.istore_n 1, 1) := by decide +kernel
theorem dX11_comes_56 : decode cX11_comes 56 = .ok (.goto 24, 3) := by decide +kernel
theorem dX11_comes_59 : decode cX11_comes 59 = .ok (.iload 4, 2) := by decide +kernel
theorem dX11_comes_61 : decode cX11_comes 61 = .ok (.iconst 2, 1) := by decide +kernel
theorem dX11_comes_62 : decode cX11_comes 62 = .ok (.if_icmp .ne 12, 3) := by decide +kernel
theorem dX11_comes_65 : decode cX11_comes 65 = .ok (.aload_n 0, 1) := by decide +kernel
theorem dX11_comes_66 : decode cX11_comes 66 = .ok (.iload_n 3, 1) := by decide +kernel
theorem dX11_comes_67 : decode cX11_comes 67 = .ok (.invokevirtual 244, 3) := by decide +kernel
theorem dX11_comes_70 : decode cX11_comes 70 = .ok (.istore_n 1, 1) := by decide +kernel
theorem dX11_comes_71 : decode cX11_comes 71 = .ok (.goto 9, 3) := by decide +kernel
theorem dX11_comes_74 : decode cX11_comes 74 = .ok (.aload_n 0, 1) := by decide +kernel
theorem dX11_comes_75 : decode cX11_comes 75 = .ok (.iload_n 3, 1) := by decide +kernel
theorem dX11_comes_76 : decode cX11_comes 76 = .ok (.invokevirtual 247, 3) := by decide +kernel
theorem dX11_comes_79 : decode cX11_comes 79 = .ok (.istore_n 1, 1) := by decide +kernel
theorem dX11_comes_80 : decode cX11_comes 80 = .ok (.iinc 2 1, 3) := by decide +kernel
theorem dX11_comes_83 : decode cX11_comes 83 = .ok (.goto (-79), 3) := by decide +kernel
theorem dX11_comes_86 : decode cX11_comes 86 = .ok (.return_, 1) := by decide +kernel
theorem dX11_over_0 : decode cX11_over 0 = .ok (.aload_n 0, 1) := by decide +kernel
theorem dX11_over_1 : decode cX11_over 1 = .ok (.iload_n 1, 1) := by decide +kernel
theorem dX11_over_2 : decode cX11_over 2 = .ok (.putfield 156, 3) := by decide +kernel
theorem dX11_over_5 : decode cX11_over 5 = .ok (.aload_n 0, 1) := by decide +kernel
theorem dX11_over_6 : decode cX11_over 6 = .ok (.aload_n 0, 1) := by decide +kernel
theorem dX11_over_7 : decode cX11_over 7 = .ok (.getfield 31, 3) := by decide +kernel
theorem dX11_over_10 : decode cX11_over 10 = .ok (.aload_n 0, 1) := by decide +kernel
theorem dX11_over_11 : decode cX11_over 11 = .ok (.getfield 72, 3) := by decide +kernel
theorem dX11_over_14 : decode cX11_over 14 = .ok (.iload_n 1, 1) := by decide +kernel
theorem dX11_over_15 : decode cX11_over 15 = .ok (.iaload, 1) := by decide +kernel
theorem dX11_over_16 : decode cX11_over 16 = .ok (.iaload, 1) := by decide +kernel
theorem dX11_over_17 : decode cX11_over 17 = .ok (.putfield 187, 3) := by decide +kernel
theorem dX11_over_20 : decode cX11_over 20 = .ok (.aload_n 0, 1) := by decide +kernel
theorem dX11_over_21 : decode cX11_over 21 = .ok (.getfield 194, 3) := by decide +kernel
theorem dX11_over_24 : decode cX11_over 24 = .ok (.ifCond .eq 7, 3) := by decide +kernel
theorem dX11_over_27 : decode cX11_over 27 = .ok (.iconst 1, 1) := by decide +kernel
theorem dX11_over_28 : decode cX11_over 28 = .ok (.goto 4, 3) := by decide +kernel
theorem dX11_over_31 : decode cX11_over 31 = .ok (.iconst 0, 1) := by decide +kernel
theorem dX11_over_32 : decode cX11_over 32 = .ok (.ireturn, 1) := by decide +kernel
theorem dX11_comesOfLoop_0 : decode cX11_comesOfLoop 0 = .ok (.aload_n 0, 1) := by decide +kernel
theorem dX11_comesOfLoop_1 : decode cX11_comesOfLoop 1 = .ok (.getfield 72, 3) := by decide +kernel
theorem dX11_comesOfLoop_4 : decode cX11_comesOfLoop 4 = .ok (.iload_n 1, 1) := by decide +kernel
theorem dX11_comesOfLoop_5 : decode cX11_comesOfLoop 5 = .ok (.iaload, 1) := by decide +kernel
theorem dX11_comesOfLoop_6 : decode cX11_comesOfLoop 6 = .ok (.istore_n 2, 1) := by decide +kernel
theorem dX11_comesOfLoop_7 : decode cX11_comesOfLoop 7 = .ok (.aload_n 0, 1) := by decide +kernel
theorem dX11_comesOfLoop_8 : decode cX11_comesOfLoop 8 = .ok (.getfield 194, 3) := by decide +kernel
theorem dX11_comesOfLoop_11 : decode cX11_comesOfLoop 11 = .ok (.ifCond .eq 11, 3) := by decide +kernel
theorem dX11_comesOfLoop_14 : decode cX11_comesOfLoop 14 = .ok (.aload_n 0, 1) := by decide +kernel
theorem dX11_comesOfLoop_15 : decode cX11_comesOfLoop 15 = .ok (.getfield 194, 3) := by decide +kernel
theorem dX11_comesOfLoop_18 : decode cX11_comesOfLoop 18 = .ok (.iconst 4, 1) := by decide +kernel
theorem dX11_comesOfLoop_19 : decode cX11_comesOfLoop 19 = .ok (.if_icmp .ne 17, 3) := by decide +kernel
theorem dX11_comesOfLoop_22 : decode cX11_comesOfLoop 22 = .ok (.aload_n 0, 1) := by decide +kernel
theorem dX11_comesOfLoop_23 : decode cX11_comesOfLoop 23 = .ok (.invokevirtual 200, 3) := by decide +kernel
theorem dX11_comesOfLoop_26 : decode cX11_comesOfLoop 26 = .ok (.ifCond .eq 8, 3) := by decide +kernel
theorem dX11_comesOfLoop_29 : decode cX11_comesOfLoop 29 = .ok (.aload_n 0, 1) := by decide +kernel
theorem dX11_comesOfLoop_30 : decode cX11_comesOfLoop 30 = .ok (.iload_n 2, 1) := by decide +kernel
theorem dX11_comesOfLoop_31 : decode cX11_comesOfLoop 31 = .ok (.invokevirtual 235, 3) := by decide +kernel
theorem dX11_comesOfLoop_34 : decode cX11_comesOfLoop 34 = .ok (.iconst 0, 1) := by decide +kernel
theorem dX11_comesOfLoop_35 : decode cX11_comesOfLoop 35 = .ok (.ireturn, 1) := by decide +kernel
theorem dX11_comesOfLoop_36 : decode cX11_comesOfLoop 36 = .ok (.aload_n 0, 1) := by decide +kernel
theorem dX11_comesOfLoop_37 : decode cX11_comesOfLoop 37 = .ok (.getfield 194, 3) := by decide +kernel
theorem dX11_comesOfLoop_40 : decode cX11_comesOfLoop 40 = .ok (.iconst 3, 1) := by decide +kernel
theorem dX11_comesOfLoop_41 : decode cX11_comesOfLoop 41 = .ok (.if_icmp .ne 8, 3) := by decide +kernel
theorem dX11_comesOfLoop_44 : decode cX11_comesOfLoop 44 = .ok (.aload_n 0, 1) := by decide +kernel
theorem dX11_comesOfLoop_45 : decode cX11_comesOfLoop 45 = .ok (.iconst 0, 1) := by decide +kernel
theorem dX11_comesOfLoop_46 : decode cX11_comesOfLoop 46 = .ok (.putfield 194, 3) := by decide +kernel
theorem dX11_comesOfLoop_49 : decode cX11_comesOfLoop 49 = .ok (.aload_n 0, 1) := by decide +kernel
theorem dX11_comesOfLoop_50 : decode cX11_comesOfLoop 50 = .ok (.iload_n 1, 1) := by decide +kernel
theorem dX11_comesOfLoop_51 : decode cX11_comesOfLoop 51 = .ok (.invokevirtual 247, 3) := by decide +kernel
theorem dX11_comesOfLoop_54 : decode cX11_comesOfLoop 54 = .ok (.ireturn, 1) := by decide +kernel
theorem dX11_comesOfTrial_0 : decode cX11_comesOfTrial 0 = .ok (.aload_n 0, 1) := by decide +kernel
theorem dX11_comesOfTrial_1 : decode cX11_comesOfTrial 1 = .ok (.getfield 72, 3) := by decide +kernel
theorem dX11_comesOfTrial_4 : decode cX11_comesOfTrial 4 = .ok (.iload_n 1, 1) := by decide +kernel
theorem dX11_comesOfTrial_5 : decode cX11_comesOfTrial 5 = .ok (.iaload, 1) := by decide +kernel
theorem dX11_comesOfTrial_6 : decode cX11_comesOfTrial 6 = .ok (.istore_n 2, 1) := by decide +kernel
theorem dX11_comesOfTrial_7 : decode cX11_comesOfTrial 7 = .ok (.aload_n 0, 1) := by decide +kernel
theorem dX11_comesOfTrial_8 : decode cX11_comesOfTrial 8 = .ok (.getfield 78, 3) := by decide +kernel
theorem dX11_comesOfTrial_11 : decode cX11_comesOfTrial 11 = .ok (.iload_n 1, 1) := by decide +kernel
theorem dX11_comesOfTrial_12 : decode cX11_comesOfTrial 12 = .ok (.iaload, 1) := by decide +kernel
theorem dX11_comesOfTrial_13 : decode cX11_comesOfTrial 13 = .ok (.iconst 2, 1) := by decide +kernel
theorem dX11_comesOfTrial_14 : decode cX11_comesOfTrial 14 = .ok (.if_icmp .ne 47, 3) := by decide +kernel
theorem dX11_comesOfTrial_17 : decode cX11_comesOfTrial 17 = .ok (.aload_n 0, 1) := by decide +kernel
theorem dX11_comesOfTrial_18 : decode cX11_comesOfTrial 18 = .ok (.getfield 194, 3) := by decide +kernel
theorem dX11_comesOfTrial_21 : decode cX11_comesOfTrial 21 = .ok (.iconst 2, 1) := by decide +kernel
theorem dX11_comesOfTrial_22 : decode cX11_comesOfTrial 22 = .ok (.if_icmp .eq 33, 3) := by decide +kernel
theorem dX11_comesOfTrial_25 : decode cX11_comesOfTrial 25 = .ok (.aload_n 0, 1) := by decide +kernel
theorem dX11_comesOfTrial_26 : decode cX11_comesOfTrial 26 = .ok (.aload_n 0, 1) := by decide +kernel
theorem dX11_comesOfTrial_27 : decode cX11_comesOfTrial 27 = .ok (.getfield 84, 3) := by decide +kernel
theorem dX11_comesOfTrial_30 : decode cX11_comesOfTrial 30 = .ok (.iload_n 1, 1) := by decide +kernel
theorem dX11_comesOfTrial_31 : decode cX11_comesOfTrial 31 = .ok (.iaload, 1) := by decide +kernel
theorem dX11_comesOfTrial_32 : decode cX11_comesOfTrial 32 = .ok (.putfield 194, 3) := by decide +kernel
theorem dX11_comesOfTrial_35 : decode cX11_comesOfTrial 35 = .ok (.aload_n 0, 1) := by decide +kernel
theorem dX11_comesOfTrial_36 : decode cX11_comesOfTrial 36 = .ok (.aload_n 0, 1) := by decide +kernel
theorem dX11_comesOfTrial_37 : decode cX11_comesOfTrial 37 = .ok (.getfield 87, 3) := by decide +kernel
theorem dX11_comesOfTrial_40 : decode cX11_comesOfTrial 40 = .ok (.iload_n 1, 1) := by decide +kernel
theorem dX11_comesOfTrial_41 : decode cX11_comesOfTrial 41 = .ok (.laload, 1) := by decide +kernel
theorem dX11_comesOfTrial_42 : decode cX11_comesOfTrial 42 = .ok (.putfield 226, 3) := by decide +kernel
theorem dX11_comesOfTrial_45 : decode cX11_comesOfTrial 45 = .ok (.aload_n 0, 1) := by decide +kernel
theorem dX11_comesOfTrial_46 : decode cX11_comesOfTrial 46 = .ok (.aload_n 0, 1) := by decide +kernel
theorem dX11_comesOfTrial_47 : decode cX11_comesOfTrial 47 = .ok (.getfield 90, 3) := by decide +kernel
theorem dX11_comesOfTrial_50 : decode cX11_comesOfTrial 50 = .ok (.iload_n 1, 1) := by decide +kernel
theorem dX11_comesOfTrial_51 : decode cX11_comesOfTrial 51 = .ok (.iaload, 1) := by decide +kernel
theorem dX11_comesOfTrial_52 : decode cX11_comesOfTrial 52 = .ok (.putfield 232, 3) := by decide +kernel
theorem dX11_comesOfTrial_55 : decode cX11_comesOfTrial 55 = .ok (.aload_n 0, 1) := by decide +kernel
theorem dX11_comesOfTrial_56 : decode cX11_comesOfTrial 56 = .ok (.iload_n 1, 1) := by decide +kernel
theorem dX11_comesOfTrial_57 : decode cX11_comesOfTrial 57 = .ok (.invokevirtual 247, 3) := by decide +kernel
theorem dX11_comesOfTrial_60 : decode cX11_comesOfTrial 60 = .ok (.ireturn, 1) := by decide +kernel
theorem dX11_comesOfTrial_61 : decode cX11_comesOfTrial 61 = .ok (.aload_n 0, 1) := by decide +kernel
theorem dX11_comesOfTrial_62 : decode cX11_comesOfTrial 62 = .ok (.getfield 78, 3) := by decide +kernel
theorem dX11_comesOfTrial_65 : decode cX11_comesOfTrial 65 = .ok (.iload_n 1, 1) := by decide +kernel
theorem dX11_comesOfTrial_66 : decode cX11_comesOfTrial 66 = .ok (.iaload, 1) := by decide +kernel
theorem dX11_comesOfTrial_67 : decode cX11_comesOfTrial 67 = .ok (.ifCond .ne 82, 3) := by decide +kernel
theorem dX11_comesOfTrial_70 : decode cX11_comesOfTrial 70 = .ok (.aload_n 0, 1) := by decide +kernel
theorem dX11_comesOfTrial_71 : decode cX11_comesOfTrial 71 = .ok (.getfield 194, 3) := by decide +kernel
theorem dX11_comesOfTrial_74 : decode cX11_comesOfTrial 74 = .ok (.iconst 2, 1) := by decide +kernel
theorem dX11_comesOfTrial_75 : decode cX11_comesOfTrial 75 = .ok (.if_icmp .ne 74, 3) := by decide +kernel
theorem dX11_comesOfTrial_78 : decode cX11_comesOfTrial 78 = .ok (.aload_n 0, 1) := by decide +kernel
theorem dX11_comesOfTrial_79 : decode cX11_comesOfTrial 79 = .ok (.getfield 25, 3) := by decide +kernel
theorem dX11_comesOfTrial_82 : decode cX11_comesOfTrial 82 = .ok (.iload_n 2, 1) := by decide +kernel
theorem dX11_comesOfTrial_83 : decode cX11_comesOfTrial 83 = .ok (.iaload, 1) := by decide +kernel
theorem dX11_comesOfTrial_84 : decode cX11_comesOfTrial 84 = .ok (.ifCond .lt 65, 3) := by decide +kernel
theorem dX11_comesOfTrial_87 : decode cX11_comesOfTrial 87 = .ok (.aload_n 0, 1) := by decide +kernel
theorem dX11_comesOfTrial_88 : decode cX11_comesOfTrial 88 = .ok (.getfield 13, 3) := by decide +kernel
theorem dX11_comesOfTrial_91 : decode cX11_comesOfTrial 91 = .ok (.iload_n 2, 1) := by decide +kernel
theorem dX11_comesOfTrial_92 : decode cX11_comesOfTrial 92 = .ok (.iaload, 1) := by decide +kernel
theorem dX11_comesOfTrial_93 : decode cX11_comesOfTrial 93 = .ok (.aload_n 0, 1) := by decide +kernel
theorem dX11_comesOfTrial_94 : decode cX11_comesOfTrial 94 = .ok (.getfield 93, 3) := by decide +kernel
theorem dX11_comesOfTrial_97 : decode cX11_comesOfTrial 97 = .ok (.aload_n 0, 1) := by decide +kernel
theorem dX11_comesOfTrial_98 : decode cX11_comesOfTrial 98 = .ok (.getfield 232, 3) := by decide +kernel
theorem dX11_comesOfTrial_101 : decode cX11_comesOfTrial 101 = .ok (.iaload, 1) := by decide +kernel
theorem dX11_comesOfTrial_102 : decode cX11_comesOfTrial 102 = .ok (.invokestatic 250, 3) := by decide +kernel
theorem dX11_comesOfTrial_105 : decode cX11_comesOfTrial 105 = .ok (.ifCond .eq 44, 3) := by decide +kernel
theorem dX11_comesOfTrial_108 : decode cX11_comesOfTrial 108 = .ok (.aload_n 0, 1) := by decide +kernel
theorem dX11_comesOfTrial_109 : decode cX11_comesOfTrial 109 = .ok (.getfield 78, 3) := by decide +kernel
theorem dX11_comesOfTrial_112 : decode cX11_comesOfTrial 112 = .ok (.iload_n 1, 1) := by decide +kernel
theorem dX11_comesOfTrial_113 : decode cX11_comesOfTrial 113 = .ok (.iconst 1, 1) := by decide +kernel
theorem dX11_comesOfTrial_114 : decode cX11_comesOfTrial 114 = .ok (.iastore, 1) := by decide +kernel
theorem dX11_comesOfTrial_115 : decode cX11_comesOfTrial 115 = .ok (.aload_n 0, 1) := by decide +kernel
theorem dX11_comesOfTrial_116 : decode cX11_comesOfTrial 116 = .ok (.getfield 81, 3) := by decide +kernel
theorem dX11_comesOfTrial_119 : decode cX11_comesOfTrial 119 = .ok (.iload_n 1, 1) := by decide +kernel
theorem dX11_comesOfTrial_120 : decode cX11_comesOfTrial 120 = .ok (.aload_n 0, 1) := by decide +kernel
theorem dX11_comesOfTrial_121 : decode cX11_comesOfTrial 121 = .ok (.getfield 232, 3) := by decide +kernel
theorem dX11_comesOfTrial_124 : decode cX11_comesOfTrial 124 = .ok (.iastore, 1) := by decide +kernel
theorem dX11_comesOfTrial_125 : decode cX11_comesOfTrial 125 = .ok (.aload_n 0, 1) := by decide +kernel
theorem dX11_comesOfTrial_126 : decode cX11_comesOfTrial 126 = .ok (.dup, 1) := by decide +kernel
theorem dX11_comesOfTrial_127 : decode cX11_comesOfTrial 127 = .ok (.getfield 168, 3) := by decide +kernel
theorem dX11_comesOfTrial_130 : decode cX11_comesOfTrial 130 = .ok (.iconst 1, 1) := by decide +kernel
theorem dX11_comesOfTrial_131 : decode cX11_comesOfTrial 131 = .ok (.iadd, 1) := by decide +kernel
theorem dX11_comesOfTrial_132 : decode cX11_comesOfTrial 132 = .ok (.putfield 168, 3) := by decide +kernel
theorem dX11_comesOfTrial_135 : decode cX11_comesOfTrial 135 = .ok (.aload_n 0, 1) := by decide +kernel
theorem dX11_comesOfTrial_136 : decode cX11_comesOfTrial 136 = .ok (.aload_n 0, 1) := by decide +kernel
theorem dX11_comesOfTrial_137 : decode cX11_comesOfTrial 137 = .ok (.getfield 25, 3) := by decide +kernel
theorem dX11_comesOfTrial_140 : decode cX11_comesOfTrial 140 = .ok (.iload_n 2, 1) := by decide +kernel
theorem dX11_comesOfTrial_141 : decode cX11_comesOfTrial 141 = .ok (.iaload, 1) := by decide +kernel
theorem dX11_comesOfTrial_142 : decode cX11_comesOfTrial 142 = .ok (.iconst 1, 1) := by decide +kernel
theorem dX11_comesOfTrial_143 : decode cX11_comesOfTrial 143 = .ok (.iadd, 1) := by decide +kernel
theorem dX11_comesOfTrial_144 : decode cX11_comesOfTrial 144 = .ok (.putfield 187, 3) := by decide +kernel
theorem dX11_comesOfTrial_147 : decode cX11_comesOfTrial 147 = .ok (.iconst 0, 1) := by decide +kernel
theorem dX11_comesOfTrial_148 : decode cX11_comesOfTrial 148 = .ok (.ireturn, 1) := by decide +kernel
theorem dX11_comesOfTrial_149 : decode cX11_comesOfTrial 149 = .ok (.aload_n 0, 1) := by decide +kernel
theorem dX11_comesOfTrial_150 : decode cX11_comesOfTrial 150 = .ok (.getfield 28, 3) := by decide +kernel
theorem dX11_comesOfTrial_153 : decode cX11_comesOfTrial 153 = .ok (.iload_n 2, 1) := by decide +kernel
theorem dX11_comesOfTrial_154 : decode cX11_comesOfTrial 154 = .ok (.iaload, 1) := by decide +kernel
theorem dX11_comesOfTrial_155 : decode cX11_comesOfTrial 155 = .ok (.ifCond .ge 9, 3) := by decide +kernel
theorem dX11_comesOfTrial_158 : decode cX11_comesOfTrial 158 = .ok (.aload_n 0, 1) := by decide +kernel
theorem dX11_comesOfTrial_159 : decode cX11_comesOfTrial 159 = .ok (.iload_n 1, 1) := by decide +kernel
theorem dX11_comesOfTrial_160 : decode cX11_comesOfTrial 160 = .ok (.invokevirtual 247, 3) := by decide +kernel
theorem dX11_comesOfTrial_163 : decode cX11_comesOfTrial 163 = .ok (.ireturn, 1) := by decide +kernel
theorem dX11_comesOfTrial_164 : decode cX11_comesOfTrial 164 = .ok (.aload_n 0, 1) := by decide +kernel
theorem dX11_comesOfTrial_165 : decode cX11_comesOfTrial 165 = .ok (.getfield 78, 3) := by decide +kernel
theorem dX11_comesOfTrial_168 : decode cX11_comesOfTrial 168 = .ok (.iload_n 1, 1) := by decide +kernel
theorem dX11_comesOfTrial_169 : decode cX11_comesOfTrial 169 = .ok (.iconst 2, 1) := by decide +kernel
theorem dX11_comesOfTrial_170 : decode cX11_comesOfTrial 170 = .ok (.iastore, 1) := by decide +kernel
theorem dX11_comesOfTrial_171 : decode cX11_comesOfTrial 171 = .ok (.aload_n 0, 1) := by decide +kernel
theorem dX11_comesOfTrial_172 : decode cX11_comesOfTrial 172 = .ok (.getfield 84, 3) := by decide +kernel
theorem dX11_comesOfTrial_175 : decode cX11_comesOfTrial 175 = .ok (.iload_n 1, 1) := by decide +kernel
theorem dX11_comesOfTrial_176 : decode cX11_comesOfTrial 176 = .ok (.aload_n 0, 1) := by decide +kernel
theorem dX11_comesOfTrial_177 : decode cX11_comesOfTrial 177 = .ok (.getfield 194, 3) := by decide +kernel
theorem dX11_comesOfTrial_180 : decode cX11_comesOfTrial 180 = .ok (.iastore, 1) := by decide +kernel
theorem dX11_comesOfTrial_181 : decode cX11_comesOfTrial 181 = .ok (.aload_n 0, 1) := by decide +kernel
theorem dX11_comesOfTrial_182 : decode cX11_comesOfTrial 182 = .ok (.getfield 87, 3) := by decide +kernel
theorem dX11_comesOfTrial_185 : decode cX11_comesOfTrial 185 = .ok (.iload_n 1, 1) := by decide +kernel
theorem dX11_comesOfTrial_186 : decode cX11_comesOfTrial 186 = .ok (.aload_n 0, 1) := by decide +kernel
theorem dX11_comesOfTrial_187 : decode cX11_comesOfTrial 187 = .ok (.getfield 226, 3) := by decide +kernel
theorem dX11_comesOfTrial_190 : decode cX11_comesOfTrial 190 = .ok (.lastore, 1) := by decide +kernel
theorem dX11_comesOfTrial_191 : decode cX11_comesOfTrial 191 = .ok (.aload_n 0, 1) := by decide +kernel
theorem dX11_comesOfTrial_192 : decode cX11_comesOfTrial 192 = .ok (.getfield 90, 3) := by decide +kernel
theorem dX11_comesOfTrial_195 : decode cX11_comesOfTrial 195 = .ok (.iload_n 1, 1) := by decide +kernel
theorem dX11_comesOfTrial_196 : decode cX11_comesOfTrial 196 = .ok (.aload_n 0, 1) := by decide +kernel
theorem dX11_comesOfTrial_197 : decode cX11_comesOfTrial 197 = .ok (.getfield 232, 3) := by decide +kernel
theorem dX11_comesOfTrial_200 : decode cX11_comesOfTrial 200 = .ok (.iastore, 1) := by decide +kernel
theorem dX11_comesOfTrial_201 : decode cX11_comesOfTrial 201 = .ok (.aload_n 0, 1) := by decide +kernel
theorem dX11_comesOfTrial_202 : decode cX11_comesOfTrial 202 = .ok (.getfield 106, 3) := by decide +kernel
theorem dX11_comesOfTrial_205 : decode cX11_comesOfTrial 205 = .ok (.aload_n 0, 1) := by decide +kernel
theorem dX11_comesOfTrial_206 : decode cX11_comesOfTrial 206 = .ok (.getfield 165, 3) := by decide +kernel
theorem dX11_comesOfTrial_209 : decode cX11_comesOfTrial 209 = .ok (.iload_n 2, 1) := by decide +kernel
theorem dX11_comesOfTrial_210 : decode cX11_comesOfTrial 210 = .ok (.iastore, 1) := by decide +kernel
theorem dX11_comesOfTrial_211 : decode cX11_comesOfTrial 211 = .ok (.aload_n 0, 1) := by decide +kernel
theorem dX11_comesOfTrial_212 : decode cX11_comesOfTrial 212 = .ok (.dup, 1) := by decide +kernel
theorem dX11_comesOfTrial_213 : decode cX11_comesOfTrial 213 = .ok (.getfield 165, 3) := by decide +kernel
theorem dX11_comesOfTrial_216 : decode cX11_comesOfTrial 216 = .ok (.iconst 1, 1) := by decide +kernel
theorem dX11_comesOfTrial_217 : decode cX11_comesOfTrial 217 = .ok (.iadd, 1) := by decide +kernel
theorem dX11_comesOfTrial_218 : decode cX11_comesOfTrial 218 = .ok (.putfield 165, 3) := by decide +kernel
theorem dX11_comesOfTrial_221 : decode cX11_comesOfTrial 221 = .ok (.aload_n 0, 1) := by decide +kernel
theorem dX11_comesOfTrial_222 : decode cX11_comesOfTrial 222 = .ok (.aload_n 0, 1) := by decide +kernel
theorem dX11_comesOfTrial_223 : decode cX11_comesOfTrial 223 = .ok (.getfield 28, 3) := by decide +kernel
theorem dX11_comesOfTrial_226 : decode cX11_comesOfTrial 226 = .ok (.iload_n 2, 1) := by decide +kernel
theorem dX11_comesOfTrial_227 : decode cX11_comesOfTrial 227 = .ok (.iaload, 1) := by decide +kernel
theorem dX11_comesOfTrial_228 : decode cX11_comesOfTrial 228 = .ok (.iconst 1, 1) := by decide +kernel
theorem dX11_comesOfTrial_229 : decode cX11_comesOfTrial 229 = .ok (.iadd, 1) := by decide +kernel
theorem dX11_comesOfTrial_230 : decode cX11_comesOfTrial 230 = .ok (.putfield 187, 3) := by decide +kernel
theorem dX11_comesOfTrial_233 : decode cX11_comesOfTrial 233 = .ok (.iconst 0, 1) := by decide +kernel
theorem dX11_comesOfTrial_234 : decode cX11_comesOfTrial 234 = .ok (.ireturn, 1) := by decide +kernel
theorem dX11_isTaken_0 : decode cX11_isTaken 0 = .ok (.iload_n 0, 1) := by decide +kernel
theorem dX11_isTaken_1 : decode cX11_isTaken 1 = .ok (.bipush 10, 2) := by decide +kernel
theorem dX11_isTaken_3 : decode cX11_isTaken 3 = .ok (.ishr, 1) := by decide +kernel
theorem dX11_isTaken_4 : decode cX11_isTaken 4 = .ok (.iconst 1, 1) := by decide +kernel
theorem dX11_isTaken_5 : decode cX11_isTaken 5 = .ok (.iand, 1) := by decide +kernel
theorem dX11_isTaken_6 : decode cX11_isTaken 6 = .ok (.iconst 1, 1) := by decide +kernel
theorem dX11_isTaken_7 : decode cX11_isTaken 7 = .ok (.if_icmp .eq 12, 3) := by decide +kernel
theorem dX11_isTaken_10 : decode cX11_isTaken 10 = .ok (.iload_n 0, 1) := by decide +kernel
theorem dX11_isTaken_11 : decode cX11_isTaken 11 = .ok (.iload_n 1, 1) := by decide +kernel
theorem dX11_isTaken_12 : decode cX11_isTaken 12 = .ok (.ishr, 1) := by decide +kernel
theorem dX11_isTaken_13 : decode cX11_isTaken 13 = .ok (.iconst 1, 1) := by decide +kernel
theorem dX11_isTaken_14 : decode cX11_isTaken 14 = .ok (.iand, 1) := by decide +kernel
theorem dX11_isTaken_15 : decode cX11_isTaken 15 = .ok (.iconst 1, 1) := by decide +kernel
theorem dX11_isTaken_16 : decode cX11_isTaken 16 = .ok (.if_icmp .ne 7, 3) := by decide +kernel
theorem dX11_isTaken_19 : decode cX11_isTaken 19 = .ok (.iconst 1, 1) := by decide +kernel
theorem dX11_isTaken_20 : decode cX11_isTaken 20 = .ok (.goto 4, 3) := by decide +kernel
theorem dX11_isTaken_23 : decode cX11_isTaken 23 = .ok (.iconst 0, 1) := by decide +kernel
theorem dX11_isTaken_24 : decode cX11_isTaken 24 = .ok (.istore_n 2, 1) := by decide +kernel
theorem dX11_isTaken_25 : decode cX11_isTaken 25 = .ok (.iconst 0, 1) := by decide +kernel
theorem dX11_isTaken_26 : decode cX11_isTaken 26 = .ok (.istore_n 3, 1) := by decide +kernel
theorem dX11_isTaken_27 : decode cX11_isTaken 27 = .ok (.iload_n 3, 1) := by decide +kernel
theorem dX11_isTaken_28 : decode cX11_isTaken 28 = .ok (.iload_n 1, 1) := by decide +kernel
theorem dX11_isTaken_29 : decode cX11_isTaken 29 = .ok (.if_icmp .ge 33, 3) := by decide +kernel
theorem dX11_isTaken_32 : decode cX11_isTaken 32 = .ok (.iload_n 1, 1) := by decide +kernel
theorem dX11_isTaken_33 : decode cX11_isTaken 33 = .ok (.iconst 3, 1) := by decide +kernel
theorem dX11_isTaken_34 : decode cX11_isTaken 34 = .ok (.if_icmp .ge 28, 3) := by decide +kernel
theorem dX11_isTaken_37 : decode cX11_isTaken 37 = .ok (.iload_n 2, 1) := by decide +kernel
theorem dX11_isTaken_38 : decode cX11_isTaken 38 = .ok (.ifCond .ne 12, 3) := by decide +kernel
theorem dX11_isTaken_41 : decode cX11_isTaken 41 = .ok (.iload_n 0, 1) := by decide +kernel
theorem dX11_isTaken_42 : decode cX11_isTaken 42 = .ok (.iload_n 3, 1) := by decide +kernel
theorem dX11_isTaken_43 : decode cX11_isTaken 43 = .ok (.ishr, 1) := by decide +kernel
theorem dX11_isTaken_44 : decode cX11_isTaken 44 = .ok (.iconst 1, 1) := by decide +kernel
theorem dX11_isTaken_45 : decode cX11_isTaken 45 = .ok (.iand, 1) := by decide +kernel
theorem dX11_isTaken_46 : decode cX11_isTaken 46 = .ok (.iconst 1, 1) := by decide +kernel
theorem dX11_isTaken_47 : decode cX11_isTaken 47 = .ok (.if_icmp .ne 7, 3) := by decide +kernel
theorem dX11_isTaken_50 : decode cX11_isTaken 50 = .ok (.iconst 1, 1) := by decide +kernel
theorem dX11_isTaken_51 : decode cX11_isTaken 51 = .ok (.goto 4, 3) := by decide +kernel
theorem dX11_isTaken_54 : decode cX11_isTaken 54 = .ok (.iconst 0, 1) := by decide +kernel
theorem dX11_isTaken_55 : decode cX11_isTaken 55 = .ok (.istore_n 2, 1) := by decide +kernel
theorem dX11_isTaken_56 : decode cX11_isTaken 56 = .ok (.iinc 3 1, 3) := by decide +kernel
theorem dX11_isTaken_59 : decode cX11_isTaken 59 = .ok (.goto (-32), 3) := by decide +kernel
theorem dX11_isTaken_62 : decode cX11_isTaken 62 = .ok (.iload_n 2, 1) := by decide +kernel
theorem dX11_isTaken_63 : decode cX11_isTaken 63 = .ok (.ireturn, 1) := by decide +kernel
theorem dX11_comesOfRoutine_0 : decode cX11_comesOfRoutine 0 = .ok (.aload_n 0, 1) := by decide +kernel
theorem dX11_comesOfRoutine_1 : decode cX11_comesOfRoutine 1 = .ok (.getfield 194, 3) := by decide +kernel
theorem dX11_comesOfRoutine_4 : decode cX11_comesOfRoutine 4 = .ok (.iconst 3, 1) := by decide +kernel
theorem dX11_comesOfRoutine_5 : decode cX11_comesOfRoutine 5 = .ok (.if_icmp .eq 11, 3) := by decide +kernel
theorem dX11_comesOfRoutine_8 : decode cX11_comesOfRoutine 8 = .ok (.aload_n 0, 1) := by decide +kernel
theorem dX11_comesOfRoutine_9 : decode cX11_comesOfRoutine 9 = .ok (.getfield 194, 3) := by decide +kernel
theorem dX11_comesOfRoutine_12 : decode cX11_comesOfRoutine 12 = .ok (.iconst 4, 1) := by decide +kernel
theorem dX11_comesOfRoutine_13 : decode cX11_comesOfRoutine 13 = .ok (.if_icmp .ne 13, 3) := by decide +kernel
theorem dX11_comesOfRoutine_16 : decode cX11_comesOfRoutine 16 = .ok (.aload_n 0, 1) := by decide +kernel
theorem dX11_comesOfRoutine_17 : decode cX11_comesOfRoutine 17 = .ok (.iconst 1, 1) := by decide +kernel
theorem dX11_comesOfRoutine_18 : decode cX11_comesOfRoutine 18 = .ok (.putfield 194, 3) := by decide +kernel
theorem dX11_comesOfRoutine_21 : decode cX11_comesOfRoutine 21 = .ok (.aload_n 0, 1) := by decide +kernel
theorem dX11_comesOfRoutine_22 : decode cX11_comesOfRoutine 22 = .ok (.lconst 0, 1) := by decide +kernel
theorem dX11_comesOfRoutine_23 : decode cX11_comesOfRoutine 23 = .ok (.putfield 226, 3) := by decide +kernel
theorem dX11_comesOfRoutine_26 : decode cX11_comesOfRoutine 26 = .ok (.iload_n 1, 1) := by decide +kernel
theorem dX11_comesOfRoutine_27 : decode cX11_comesOfRoutine 27 = .ok (.ifCond .ne 53, 3) := by decide +kernel
theorem dX11_comesOfRoutine_30 : decode cX11_comesOfRoutine 30 = .ok (.aload_n 0, 1) := by decide +kernel
theorem dX11_comesOfRoutine_31 : decode cX11_comesOfRoutine 31 = .ok (.aload_n 0, 1) := by decide +kernel
theorem dX11_comesOfRoutine_32 : decode cX11_comesOfRoutine 32 = .ok (.getfield 194, 3) := by decide +kernel
theorem dX11_comesOfRoutine_35 : decode cX11_comesOfRoutine 35 = .ok (.invokevirtual 181, 3) := by decide +kernel
theorem dX11_comesOfRoutine_38 : decode cX11_comesOfRoutine 38 = .ok (.aload_n 0, 1) := by decide +kernel
theorem dX11_comesOfRoutine_39 : decode cX11_comesOfRoutine 39 = .ok (.aload_n 0, 1) := by decide +kernel
theorem dX11_comesOfRoutine_40 : decode cX11_comesOfRoutine 40 = .ok (.getfield 194, 3) := by decide +kernel
theorem dX11_comesOfRoutine_43 : decode cX11_comesOfRoutine 43 = .ok (.iconst 1, 1) := by decide +kernel
theorem dX11_comesOfRoutine_44 : decode cX11_comesOfRoutine 44 = .ok (.if_icmp .ne 10, 3) := by decide +kernel
theorem dX11_comesOfRoutine_47 : decode cX11_comesOfRoutine 47 = .ok (.aload_n 0, 1) := by decide +kernel
theorem dX11_comesOfRoutine_48 : decode cX11_comesOfRoutine 48 = .ok (.getfield 226, 3) := by decide +kernel
theorem dX11_comesOfRoutine_51 : decode cX11_comesOfRoutine 51 = .ok (.goto 4, 3) := by decide +kernel
theorem dX11_comesOfRoutine_54 : decode cX11_comesOfRoutine 54 = .ok (.lconst 0, 1) := by decide +kernel
theorem dX11_comesOfRoutine_55 : decode cX11_comesOfRoutine 55 = .ok (.putfield 174, 3) := by decide +kernel
theorem dX11_comesOfRoutine_58 : decode cX11_comesOfRoutine 58 = .ok (.aload_n 0, 1) := by decide +kernel
theorem dX11_comesOfRoutine_59 : decode cX11_comesOfRoutine 59 = .ok (.aload_n 0, 1) := by decide +kernel
theorem dX11_comesOfRoutine_60 : decode cX11_comesOfRoutine 60 = .ok (.getfield 194, 3) := by decide +kernel
theorem dX11_comesOfRoutine_63 : decode cX11_comesOfRoutine 63 = .ok (.iconst 2, 1) := by decide +kernel
theorem dX11_comesOfRoutine_64 : decode cX11_comesOfRoutine 64 = .ok (.if_icmp .ne 10, 3) := by decide +kernel
theorem dX11_comesOfRoutine_67 : decode cX11_comesOfRoutine 67 = .ok (.aload_n 0, 1) := by decide +kernel
theorem dX11_comesOfRoutine_68 : decode cX11_comesOfRoutine 68 = .ok (.getfield 232, 3) := by decide +kernel
theorem dX11_comesOfRoutine_71 : decode cX11_comesOfRoutine 71 = .ok (.goto 4, 3) := by decide +kernel
theorem dX11_comesOfRoutine_74 : decode cX11_comesOfRoutine 74 = .ok (.iconst 0, 1) := by decide +kernel
theorem dX11_comesOfRoutine_75 : decode cX11_comesOfRoutine 75 = .ok (.putfield 178, 3) := by decide +kernel
theorem dX11_comesOfRoutine_78 : decode cX11_comesOfRoutine 78 = .ok (.iconst 0, 1) := by decide +kernel
theorem dX11_comesOfRoutine_79 : decode cX11_comesOfRoutine 79 = .ok (.ireturn, 1) := by decide +kernel
theorem dX11_comesOfRoutine_80 : decode cX11_comesOfRoutine 80 = .ok (.aload_n 0, 1) := by decide +kernel
theorem dX11_comesOfRoutine_81 : decode cX11_comesOfRoutine 81 = .ok (.getfield 72, 3) := by decide +kernel
theorem dX11_comesOfRoutine_84 : decode cX11_comesOfRoutine 84 = .ok (.iload_n 1, 1) := by decide +kernel
theorem dX11_comesOfRoutine_85 : decode cX11_comesOfRoutine 85 = .ok (.iaload, 1) := by decide +kernel
theorem dX11_comesOfRoutine_86 : decode cX11_comesOfRoutine 86 = .ok (.istore_n 2, 1) := by decide +kernel
theorem dX11_comesOfRoutine_87 : decode cX11_comesOfRoutine 87 = .ok (.aload_n 0, 1) := by decide +kernel
theorem dX11_comesOfRoutine_88 : decode cX11_comesOfRoutine 88 = .ok (.iload_n 1, 1) := by decide +kernel
theorem dX11_comesOfRoutine_89 : decode cX11_comesOfRoutine 89 = .ok (.putfield 156, 3) := by decide +kernel
theorem dX11_comesOfRoutine_92 : decode cX11_comesOfRoutine 92 = .ok (.aload_n 0, 1) := by decide +kernel
theorem dX11_comesOfRoutine_93 : decode cX11_comesOfRoutine 93 = .ok (.getfield 194, 3) := by decide +kernel
theorem dX11_comesOfRoutine_96 : decode cX11_comesOfRoutine 96 = .ok (.iconst 2, 1) := by decide +kernel
theorem dX11_comesOfRoutine_97 : decode cX11_comesOfRoutine 97 = .ok (.if_icmp .ne 5, 3) := by decide +kernel
theorem dX11_comesOfRoutine_100 : decode cX11_comesOfRoutine 100 = .ok (.iconst 1, 1) := by decide +kernel
theorem dX11_comesOfRoutine_101 : decode cX11_comesOfRoutine 101 = .ok (.ireturn, 1) := by decide +kernel
theorem dX11_comesOfRoutine_102 : decode cX11_comesOfRoutine 102 = .ok (.aload_n 0, 1) := by decide +kernel
theorem dX11_comesOfRoutine_103 : decode cX11_comesOfRoutine 103 = .ok (.getfield 43, 3) := by decide +kernel
theorem dX11_comesOfRoutine_106 : decode cX11_comesOfRoutine 106 = .ok (.aload_n 0, 1) := by decide +kernel
theorem dX11_comesOfRoutine_107 : decode cX11_comesOfRoutine 107 = .ok (.getfield 16, 3) := by decide +kernel
theorem dX11_comesOfRoutine_110 : decode cX11_comesOfRoutine 110 = .ok (.iload_n 2, 1) := by decide +kernel
theorem dX11_comesOfRoutine_111 : decode cX11_comesOfRoutine 111 = .ok (.iaload, 1) := by decide +kernel
theorem dX11_comesOfRoutine_112 : decode cX11_comesOfRoutine 112 = .ok (.bipush 7, 2) := by decide +kernel
theorem dX11_comesOfRoutine_114 : decode cX11_comesOfRoutine 114 = .ok (.iand, 1) := by decide +kernel
theorem dX11_comesOfRoutine_115 : decode cX11_comesOfRoutine 115 = .ok (.aload_n 0, 1) := by decide +kernel
theorem dX11_comesOfRoutine_116 : decode cX11_comesOfRoutine 116 = .ok (.getfield 194, 3) := by decide +kernel
theorem dX11_comesOfRoutine_119 : decode cX11_comesOfRoutine 119 = .ok (.iconst 1, 1) := by decide +kernel
theorem dX11_comesOfRoutine_120 : decode cX11_comesOfRoutine 120 = .ok (.if_icmp .ne 10, 3) := by decide +kernel
theorem dX11_comesOfRoutine_123 : decode cX11_comesOfRoutine 123 = .ok (.aload_n 0, 1) := by decide +kernel
theorem dX11_comesOfRoutine_124 : decode cX11_comesOfRoutine 124 = .ok (.getfield 226, 3) := by decide +kernel
theorem dX11_comesOfRoutine_127 : decode cX11_comesOfRoutine 127 = .ok (.goto 4, 3) := by decide +kernel
theorem dX11_comesOfRoutine_130 : decode cX11_comesOfRoutine 130 = .ok (.lconst 0, 1) := by decide +kernel
theorem dX11_comesOfRoutine_131 : decode cX11_comesOfRoutine 131 = .ok (.lastore, 1) := by decide +kernel
theorem dX11_comesOfRoutine_132 : decode cX11_comesOfRoutine 132 = .ok (.aload_n 0, 1) := by decide +kernel
theorem dX11_comesOfRoutine_133 : decode cX11_comesOfRoutine 133 = .ok (.iload_n 2, 1) := by decide +kernel
theorem dX11_comesOfRoutine_134 : decode cX11_comesOfRoutine 134 = .ok (.iconst 1, 1) := by decide +kernel
theorem dX11_comesOfRoutine_135 : decode cX11_comesOfRoutine 135 = .ok (.iadd, 1) := by decide +kernel
theorem dX11_comesOfRoutine_136 : decode cX11_comesOfRoutine 136 = .ok (.putfield 187, 3) := by decide +kernel
theorem dX11_comesOfRoutine_139 : decode cX11_comesOfRoutine 139 = .ok (.iconst 0, 1) := by decide +kernel
theorem dX11_comesOfRoutine_140 : decode cX11_comesOfRoutine 140 = .ok (.ireturn, 1) := by decide +kernel
theorem dX11_reckons_0 : decode cX11_reckons 0 = .ok (.aload_n 0, 1) := by decide +kernel
theorem dX11_reckons_1 : decode cX11_reckons 1 = .ok (.getfield 13, 3) := by decide +kernel
theorem dX11_reckons_4 : decode cX11_reckons 4 = .ok (.iload_n 1, 1) := by decide +kernel
theorem dX11_reckons_5 : decode cX11_reckons 5 = .ok (.iaload, 1) := by decide +kernel
theorem dX11_reckons_6 : decode cX11_reckons 6 = .ok (.bipush 7, 2) := by decide +kernel
theorem dX11_reckons_8 : decode cX11_reckons 8 = .ok (.iand, 1) := by decide +kernel
theorem dX11_reckons_9 : decode cX11_reckons 9 = .ok (.istore_n 2, 1) := by decide +kernel
theorem dX11_reckons_10 : decode cX11_reckons 10 = .ok (.aload_n 0, 1) := by decide +kernel
theorem dX11_reckons_11 : decode cX11_reckons 11 = .ok (.getfield 43, 3) := by decide +kernel
theorem dX11_reckons_14 : decode cX11_reckons 14 = .ok (.aload_n 0, 1) := by decide +kernel
theorem dX11_reckons_15 : decode cX11_reckons 15 = .ok (.getfield 16, 3) := by decide +kernel
theorem dX11_reckons_18 : decode cX11_reckons 18 = .ok (.iload_n 1, 1) := by decide +kernel
theorem dX11_reckons_19 : decode cX11_reckons 19 = .ok (.iaload, 1) := by decide +kernel
theorem dX11_reckons_20 : decode cX11_reckons 20 = .ok (.bipush 7, 2) := by decide +kernel
theorem dX11_reckons_22 : decode cX11_reckons 22 = .ok (.iand, 1) := by decide +kernel
theorem dX11_reckons_23 : decode cX11_reckons 23 = .ok (.laload, 1) := by decide +kernel
theorem dX11_reckons_24 : decode cX11_reckons 24 = .ok (.lstore_n 3, 1) := by decide +kernel
theorem dX11_reckons_25 : decode cX11_reckons 25 = .ok (.aload_n 0, 1) := by decide +kernel
theorem dX11_reckons_26 : decode cX11_reckons 26 = .ok (.getfield 43, 3) := by decide +kernel
theorem dX11_reckons_29 : decode cX11_reckons 29 = .ok (.aload_n 0, 1) := by decide +kernel
theorem dX11_reckons_30 : decode cX11_reckons 30 = .ok (.getfield 19, 3) := by decide +kernel
theorem dX11_reckons_33 : decode cX11_reckons 33 = .ok (.iload_n 1, 1) := by decide +kernel
theorem dX11_reckons_34 : decode cX11_reckons 34 = .ok (.iaload, 1) := by decide +kernel
theorem dX11_reckons_35 : decode cX11_reckons 35 = .ok (.bipush 7, 2) := by decide +kernel
theorem dX11_reckons_37 : decode cX11_reckons 37 = .ok (.iand, 1) := by decide +kernel
theorem dX11_reckons_38 : decode cX11_reckons 38 = .ok (.laload, 1) := by decide +kernel
theorem dX11_reckons_39 : decode cX11_reckons 39 = .ok (.lstore 5, 2) := by decide +kernel
theorem dX11_reckons_41 : decode cX11_reckons 41 = .ok (.aload_n 0, 1) := by decide +kernel
theorem dX11_reckons_42 : decode cX11_reckons 42 = .ok (.getfield 7, 3) := by decide +kernel
theorem dX11_reckons_45 : decode cX11_reckons 45 = .ok (.iload_n 1, 1) := by decide +kernel
theorem dX11_reckons_46 : decode cX11_reckons 46 = .ok (.iaload, 1) := by decide +kernel
theorem dX11_reckons_47 : decode cX11_reckons 47 = .ok (.tableswitch 121 0 4 #[33, 70, 85, 97, 109], 33) := by decide +kernel
theorem dX11_reckons_80 : decode cX11_reckons 80 = .ok (.aload_n 0, 1) := by decide +kernel
theorem dX11_reckons_81 : decode cX11_reckons 81 = .ok (.getfield 162, 3) := by decide +kernel
theorem dX11_reckons_84 : decode cX11_reckons 84 = .ok (.sipush 500, 3) := by decide +kernel
theorem dX11_reckons_87 : decode cX11_reckons 87 = .ok (.if_icmp .ge 28, 3) := by decide +kernel
theorem dX11_reckons_90 : decode cX11_reckons 90 = .ok (.aload_n 0, 1) := by decide +kernel
theorem dX11_reckons_91 : decode cX11_reckons 91 = .ok (.getfield 103, 3) := by decide +kernel
theorem dX11_reckons_94 : decode cX11_reckons 94 = .ok (.aload_n 0, 1) := by decide +kernel
theorem dX11_reckons_95 : decode cX11_reckons 95 = .ok (.getfield 162, 3) := by decide +kernel
theorem dX11_reckons_98 : decode cX11_reckons 98 = .ok (.aload_n 0, 1) := by decide +kernel
theorem dX11_reckons_99 : decode cX11_reckons 99 = .ok (.getfield 43, 3) := by decide +kernel
theorem dX11_reckons_102 : decode cX11_reckons 102 = .ok (.iload_n 2, 1) := by decide +kernel
theorem dX11_reckons_103 : decode cX11_reckons 103 = .ok (.laload, 1) := by decide +kernel
theorem dX11_reckons_104 : decode cX11_reckons 104 = .ok (.lastore, 1) := by decide +kernel
theorem dX11_reckons_105 : decode cX11_reckons 105 = .ok (.aload_n 0, 1) := by decide +kernel
theorem dX11_reckons_106 : decode cX11_reckons 106 = .ok (.dup, 1) := by decide +kernel
theorem dX11_reckons_107 : decode cX11_reckons 107 = .ok (.getfield 162, 3) := by decide +kernel
theorem dX11_reckons_110 : decode cX11_reckons 110 = .ok (.iconst 1, 1) := by decide +kernel
theorem dX11_reckons_111 : decode cX11_reckons 111 = .ok (.iadd, 1) := by decide +kernel
theorem dX11_reckons_112 : decode cX11_reckons 112 = .ok (.putfield 162, 3) := by decide +kernel
theorem dX11_reckons_115 : decode cX11_reckons 115 = .ok (.iconst 0, 1) := by decide +kernel
theorem dX11_reckons_116 : decode cX11_reckons 116 = .ok (.ireturn, 1) := by decide +kernel
theorem dX11_reckons_117 : decode cX11_reckons 117 = .ok (.aload_n 0, 1) := by decide +kernel
theorem dX11_reckons_118 : decode cX11_reckons 118 = .ok (.getfield 43, 3) := by decide +kernel
theorem dX11_reckons_121 : decode cX11_reckons 121 = .ok (.iload_n 2, 1) := by decide +kernel
theorem dX11_reckons_122 : decode cX11_reckons 122 = .ok (.aload_n 0, 1) := by decide +kernel
theorem dX11_reckons_123 : decode cX11_reckons 123 = .ok (.getfield 16, 3) := by decide +kernel
theorem dX11_reckons_126 : decode cX11_reckons 126 = .ok (.iload_n 1, 1) := by decide +kernel
theorem dX11_reckons_127 : decode cX11_reckons 127 = .ok (.iaload, 1) := by decide +kernel
theorem dX11_reckons_128 : decode cX11_reckons 128 = .ok (.i2l, 1) := by decide +kernel
theorem dX11_reckons_129 : decode cX11_reckons 129 = .ok (.lastore, 1) := by decide +kernel
theorem dX11_reckons_130 : decode cX11_reckons 130 = .ok (.iconst 0, 1) := by decide +kernel
theorem dX11_reckons_131 : decode cX11_reckons 131 = .ok (.ireturn, 1) := by decide +kernel
theorem dX11_reckons_132 : decode cX11_reckons 132 = .ok (.aload_n 0, 1) := by decide +kernel
theorem dX11_reckons_133 : decode cX11_reckons 133 = .ok (.getfield 43, 3) := by decide +kernel
theorem dX11_reckons_136 : decode cX11_reckons 136 = .ok (.iload_n 2, 1) := by decide +kernel
theorem dX11_reckons_137 : decode cX11_reckons 137 = .ok (.lload_n 3, 1) := by decide +kernel
theorem dX11_reckons_138 : decode cX11_reckons 138 = .ok (.lload 5, 2) := by decide +kernel
theorem dX11_reckons_140 : decode cX11_reckons 140 = .ok (.ladd, 1) := by decide +kernel
theorem dX11_reckons_141 : decode cX11_reckons 141 = .ok (.lastore, 1) := by decide +kernel
theorem dX11_reckons_142 : decode cX11_reckons 142 = .ok (.iconst 0, 1) := by decide +kernel
theorem dX11_reckons_143 : decode cX11_reckons 143 = .ok (.ireturn, 1) := by decide +kernel
theorem dX11_reckons_144 : decode cX11_reckons 144 = .ok (.aload_n 0, 1) := by decide +kernel
theorem dX11_reckons_145 : decode cX11_reckons 145 = .ok (.getfield 43, 3) := by decide +kernel
theorem dX11_reckons_148 : decode cX11_reckons 148 = .ok (.iload_n 2, 1) := by decide +kernel
theorem dX11_reckons_149 : decode cX11_reckons 149 = .ok (.lload_n 3, 1) := by decide +kernel
theorem dX11_reckons_150 : decode cX11_reckons 150 = .ok (.lload 5, 2) := by decide +kernel
theorem dX11_reckons_152 : decode cX11_reckons 152 = .ok (.lsub, 1) := by decide +kernel
theorem dX11_reckons_153 : decode cX11_reckons 153 = .ok (.lastore, 1) := by decide +kernel
theorem dX11_reckons_154 : decode cX11_reckons 154 = .ok (.iconst 0, 1) := by decide +kernel
theorem dX11_reckons_155 : decode cX11_reckons 155 = .ok (.ireturn, 1) := by decide +kernel
theorem dX11_reckons_156 : decode cX11_reckons 156 = .ok (.aload_n 0, 1) := by decide +kernel
theorem dX11_reckons_157 : decode cX11_reckons 157 = .ok (.getfield 43, 3) := by decide +kernel
theorem dX11_reckons_160 : decode cX11_reckons 160 = .ok (.iload_n 2, 1) := by decide +kernel
theorem dX11_reckons_161 : decode cX11_reckons 161 = .ok (.lload_n 3, 1) := by decide +kernel
theorem dX11_reckons_162 : decode cX11_reckons 162 = .ok (.lload 5, 2) := by decide +kernel
theorem dX11_reckons_164 : decode cX11_reckons 164 = .ok (.lmul, 1) := by decide +kernel
theorem dX11_reckons_165 : decode cX11_reckons 165 = .ok (.lastore, 1) := by decide +kernel
theorem dX11_reckons_166 : decode cX11_reckons 166 = .ok (.iconst 0, 1) := by decide +kernel
theorem dX11_reckons_167 : decode cX11_reckons 167 = .ok (.ireturn, 1) := by decide +kernel
theorem dX11_reckons_168 : decode cX11_reckons 168 = .ok (.aload_n 0, 1) := by decide +kernel
theorem dX11_reckons_169 : decode cX11_reckons 169 = .ok (.iload_n 1, 1) := by decide +kernel
theorem dX11_reckons_170 : decode cX11_reckons 170 = .ok (.iload_n 2, 1) := by decide +kernel
theorem dX11_reckons_171 : decode cX11_reckons 171 = .ok (.lload_n 3, 1) := by decide +kernel
theorem dX11_reckons_172 : decode cX11_reckons 172 = .ok (.lload 5, 2) := by decide +kernel
theorem dX11_reckons_174 : decode cX11_reckons 174 = .ok (.invokevirtual 254, 3) := by decide +kernel
theorem dX11_reckons_177 : decode cX11_reckons 177 = .ok (.ireturn, 1) := by decide +kernel
theorem dX11_divides_0 : decode cX11_divides 0 = .ok (.lload 5, 2) := by decide +kernel
theorem dX11_divides_2 : decode cX11_divides 2 = .ok (.lconst 0, 1) := by decide +kernel
theorem dX11_divides_3 : decode cX11_divides 3 = .ok (.lcmp, 1) := by decide +kernel
theorem dX11_divides_4 : decode cX11_divides 4 = .ok (.ifCond .ne 5, 3) := by decide +kernel
theorem dX11_divides_7 : decode cX11_divides 7 = .ok (.iconst 5, 1) := by decide +kernel
theorem dX11_divides_8 : decode cX11_divides 8 = .ok (.ireturn, 1) := by decide +kernel
theorem dX11_divides_9 : decode cX11_divides 9 = .ok (.lload 5, 2) := by decide +kernel
theorem dX11_divides_11 : decode cX11_divides 11 = .ok (.ldc2_w 258, 3) := by decide +kernel
theorem dX11_divides_14 : decode cX11_divides 14 = .ok (.lcmp, 1) := by decide +kernel
theorem dX11_divides_15 : decode cX11_divides 15 = .ok (.ifCond .ne 8, 3) := by decide +kernel
theorem dX11_divides_18 : decode cX11_divides 18 = .ok (.lload_n 3, 1) := by decide +kernel
theorem dX11_divides_19 : decode cX11_divides 19 = .ok (.lneg, 1) := by decide +kernel
theorem dX11_divides_20 : decode cX11_divides 20 = .ok (.goto 7, 3) := by decide +kernel
theorem dX11_divides_23 : decode cX11_divides 23 = .ok (.lload_n 3, 1) := by decide +kernel
theorem dX11_divides_24 : decode cX11_divides 24 = .ok (.lload 5, 2) := by decide +kernel
theorem dX11_divides_26 : decode cX11_divides 26 = .ok (.ldiv, 1) := by decide +kernel
theorem dX11_divides_27 : decode cX11_divides 27 = .ok (.lstore 7, 2) := by decide +kernel
theorem dX11_divides_29 : decode cX11_divides 29 = .ok (.aload_n 0, 1) := by decide +kernel
theorem dX11_divides_30 : decode cX11_divides 30 = .ok (.getfield 43, 3) := by decide +kernel
theorem dX11_divides_33 : decode cX11_divides 33 = .ok (.iload_n 2, 1) := by decide +kernel
theorem dX11_divides_34 : decode cX11_divides 34 = .ok (.aload_n 0, 1) := by decide +kernel
theorem dX11_divides_35 : decode cX11_divides 35 = .ok (.getfield 7, 3) := by decide +kernel
theorem dX11_divides_38 : decode cX11_divides 38 = .ok (.iload_n 1, 1) := by decide +kernel
theorem dX11_divides_39 : decode cX11_divides 39 = .ok (.iaload, 1) := by decide +kernel
theorem dX11_divides_40 : decode cX11_divides 40 = .ok (.iconst 5, 1) := by decide +kernel
theorem dX11_divides_41 : decode cX11_divides 41 = .ok (.if_icmp .ne 8, 3) := by decide +kernel
theorem dX11_divides_44 : decode cX11_divides 44 = .ok (.lload 7, 2) := by decide +kernel
theorem dX11_divides_46 : decode cX11_divides 46 = .ok (.goto 10, 3) := by decide +kernel
theorem dX11_divides_49 : decode cX11_divides 49 = .ok (.lload_n 3, 1) := by decide +kernel
theorem dX11_divides_50 : decode cX11_divides 50 = .ok (.lload 7, 2) := by decide +kernel
theorem dX11_divides_52 : decode cX11_divides 52 = .ok (.lload 5, 2) := by decide +kernel
theorem dX11_divides_54 : decode cX11_divides 54 = .ok (.lmul, 1) := by decide +kernel
theorem dX11_divides_55 : decode cX11_divides 55 = .ok (.lsub, 1) := by decide +kernel
theorem dX11_divides_56 : decode cX11_divides 56 = .ok (.lastore, 1) := by decide +kernel
theorem dX11_divides_57 : decode cX11_divides 57 = .ok (.iconst 0, 1) := by decide +kernel
theorem dX11_divides_58 : decode cX11_divides 58 = .ok (.ireturn, 1) := by decide +kernel
theorem dX11_intOf_0 : decode cX11_intOf 0 = .ok (.aload_n 0, 1) := by decide +kernel
theorem dX11_intOf_1 : decode cX11_intOf 1 = .ok (.getfield 43, 3) := by decide +kernel
theorem dX11_intOf_4 : decode cX11_intOf 4 = .ok (.iload_n 1, 1) := by decide +kernel
theorem dX11_intOf_5 : decode cX11_intOf 5 = .ok (.bipush 7, 2) := by decide +kernel
theorem dX11_intOf_7 : decode cX11_intOf 7 = .ok (.iand, 1) := by decide +kernel
theorem dX11_intOf_8 : decode cX11_intOf 8 = .ok (.laload, 1) := by decide +kernel
theorem dX11_intOf_9 : decode cX11_intOf 9 = .ok (.l2i, 1) := by decide +kernel
theorem dX11_intOf_10 : decode cX11_intOf 10 = .ok (.ireturn, 1) := by decide +kernel
theorem dX11_rows_0 : decode cX11_rows 0 = .ok (.aload_n 0, 1) := by decide +kernel
theorem dX11_rows_1 : decode cX11_rows 1 = .ok (.getfield 7, 3) := by decide +kernel
theorem dX11_rows_4 : decode cX11_rows 4 = .ok (.iload_n 1, 1) := by decide +kernel
theorem dX11_rows_5 : decode cX11_rows 5 = .ok (.iaload, 1) := by decide +kernel
theorem dX11_rows_6 : decode cX11_rows 6 = .ok (.istore_n 2, 1) := by decide +kernel
theorem dX11_rows_7 : decode cX11_rows 7 = .ok (.iload_n 2, 1) := by decide +kernel
theorem dX11_rows_8 : decode cX11_rows 8 = .ok (.bipush 10, 2) := by decide +kernel
theorem dX11_rows_10 : decode cX11_rows 10 = .ok (.if_icmp .le 9, 3) := by decide +kernel
theorem dX11_rows_13 : decode cX11_rows 13 = .ok (.aload_n 0, 1) := by decide +kernel
theorem dX11_rows_14 : decode cX11_rows 14 = .ok (.iload_n 1, 1) := by decide +kernel
theorem dX11_rows_15 : decode cX11_rows 15 = .ok (.invokevirtual 260, 3) := by decide +kernel
theorem dX11_rows_18 : decode cX11_rows 18 = .ok (.ireturn, 1) := by decide +kernel
theorem dX11_rows_19 : decode cX11_rows 19 = .ok (.aload_n 0, 1) := by decide +kernel
theorem dX11_rows_20 : decode cX11_rows 20 = .ok (.getfield 13, 3) := by decide +kernel
theorem dX11_rows_23 : decode cX11_rows 23 = .ok (.iload_n 1, 1) := by decide +kernel
theorem dX11_rows_24 : decode cX11_rows 24 = .ok (.iaload, 1) := by decide +kernel
theorem dX11_rows_25 : decode cX11_rows 25 = .ok (.bipush 63, 2) := by decide +kernel
theorem dX11_rows_27 : decode cX11_rows 27 = .ok (.iand, 1) := by decide +kernel
theorem dX11_rows_28 : decode cX11_rows 28 = .ok (.istore_n 3, 1) := by decide +kernel
theorem dX11_rows_29 : decode cX11_rows 29 = .ok (.iload_n 2, 1) := by decide +kernel
theorem dX11_rows_30 : decode cX11_rows 30 = .ok (.bipush 7, 2) := by decide +kernel
theorem dX11_rows_32 : decode cX11_rows 32 = .ok (.if_icmp .ne 10, 3) := by decide +kernel
theorem dX11_rows_35 : decode cX11_rows 35 = .ok (.aload_n 0, 1) := by decide +kernel
theorem dX11_rows_36 : decode cX11_rows 36 = .ok (.iload_n 1, 1) := by decide +kernel
theorem dX11_rows_37 : decode cX11_rows 37 = .ok (.iload_n 3, 1) := by decide +kernel
theorem dX11_rows_38 : decode cX11_rows 38 = .ok (.invokevirtual 263, 3) := by decide +kernel
theorem dX11_rows_41 : decode cX11_rows 41 = .ok (.ireturn, 1) := by decide +kernel
theorem dX11_rows_42 : decode cX11_rows 42 = .ok (.aload_n 0, 1) := by decide +kernel
theorem dX11_rows_43 : decode cX11_rows 43 = .ok (.getfield 56, 3) := by decide +kernel
theorem dX11_rows_46 : decode cX11_rows 46 = .ok (.iload_n 3, 1) := by decide +kernel
theorem dX11_rows_47 : decode cX11_rows 47 = .ok (.iaload, 1) := by decide +kernel
theorem dX11_rows_48 : decode cX11_rows 48 = .ok (.ifCond .ge 6, 3) := by decide +kernel
theorem dX11_rows_51 : decode cX11_rows 51 = .ok (.bipush 7, 2) := by decide +kernel
theorem dX11_rows_53 : decode cX11_rows 53 = .ok (.ireturn, 1) := by decide +kernel
theorem dX11_rows_54 : decode cX11_rows 54 = .ok (.iload_n 2, 1) := by decide +kernel
theorem dX11_rows_55 : decode cX11_rows 55 = .ok (.bipush 10, 2) := by decide +kernel
theorem dX11_rows_57 : decode cX11_rows 57 = .ok (.if_icmp .ne 26, 3) := by decide +kernel
theorem dX11_rows_60 : decode cX11_rows 60 = .ok (.aload_n 0, 1) := by decide +kernel
theorem dX11_rows_61 : decode cX11_rows 61 = .ok (.getfield 43, 3) := by decide +kernel
theorem dX11_rows_64 : decode cX11_rows 64 = .ok (.aload_n 0, 1) := by decide +kernel
theorem dX11_rows_65 : decode cX11_rows 65 = .ok (.getfield 16, 3) := by decide +kernel
theorem dX11_rows_68 : decode cX11_rows 68 = .ok (.iload_n 1, 1) := by decide +kernel
theorem dX11_rows_69 : decode cX11_rows 69 = .ok (.iaload, 1) := by decide +kernel
theorem dX11_rows_70 : decode cX11_rows 70 = .ok (.bipush 7, 2) := by decide +kernel
theorem dX11_rows_72 : decode cX11_rows 72 = .ok (.iand, 1) := by decide +kernel
theorem dX11_rows_73 : decode cX11_rows 73 = .ok (.aload_n 0, 1) := by decide +kernel
theorem dX11_rows_74 : decode cX11_rows 74 = .ok (.getfield 56, 3) := by decide +kernel
theorem dX11_rows_77 : decode cX11_rows 77 = .ok (.iload_n 3, 1) := by decide +kernel
theorem dX11_rows_78 : decode cX11_rows 78 = .ok (.iaload, 1) := by decide +kernel
theorem dX11_rows_79 : decode cX11_rows 79 = .ok (.i2l, 1) := by decide +kernel
theorem dX11_rows_80 : decode cX11_rows 80 = .ok (.lastore, 1) := by decide +kernel
theorem dX11_rows_81 : decode cX11_rows 81 = .ok (.iconst 0, 1) := by decide +kernel
theorem dX11_rows_82 : decode cX11_rows 82 = .ok (.ireturn, 1) := by decide +kernel
theorem dX11_rows_83 : decode cX11_rows 83 = .ok (.aload_n 0, 1) := by decide +kernel
theorem dX11_rows_84 : decode cX11_rows 84 = .ok (.aload_n 0, 1) := by decide +kernel
theorem dX11_rows_85 : decode cX11_rows 85 = .ok (.getfield 16, 3) := by decide +kernel
theorem dX11_rows_88 : decode cX11_rows 88 = .ok (.iload_n 1, 1) := by decide +kernel
theorem dX11_rows_89 : decode cX11_rows 89 = .ok (.iaload, 1) := by decide +kernel
theorem dX11_rows_90 : decode cX11_rows 90 = .ok (.invokevirtual 267, 3) := by decide +kernel
theorem dX11_rows_93 : decode cX11_rows 93 = .ok (.istore 4, 2) := by decide +kernel
theorem dX11_rows_95 : decode cX11_rows 95 = .ok (.iload 4, 2) := by decide +kernel
theorem dX11_rows_97 : decode cX11_rows 97 = .ok (.ifCond .lt 14, 3) := by decide +kernel
theorem dX11_rows_100 : decode cX11_rows 100 = .ok (.iload 4, 2) := by decide +kernel
theorem dX11_rows_102 : decode cX11_rows 102 = .ok (.aload_n 0, 1) := by decide +kernel
theorem dX11_rows_103 : decode cX11_rows 103 = .ok (.getfield 56, 3) := by decide +kernel
theorem dX11_rows_106 : decode cX11_rows 106 = .ok (.iload_n 3, 1) := by decide +kernel
theorem dX11_rows_107 : decode cX11_rows 107 = .ok (.iaload, 1) := by decide +kernel
theorem dX11_rows_108 : decode cX11_rows 108 = .ok (.if_icmp .lt 6, 3) := by decide +kernel
theorem dX11_rows_111 : decode cX11_rows 111 = .ok (.bipush 6, 2) := by decide +kernel
theorem dX11_rows_113 : decode cX11_rows 113 = .ok (.ireturn, 1) := by decide +kernel
theorem dX11_rows_114 : decode cX11_rows 114 = .ok (.iload_n 2, 1) := by decide +kernel
theorem dX11_rows_115 : decode cX11_rows 115 = .ok (.bipush 8, 2) := by decide +kernel
theorem dX11_rows_117 : decode cX11_rows 117 = .ok (.if_icmp .ne 14, 3) := by decide +kernel
theorem dX11_rows_120 : decode cX11_rows 120 = .ok (.aload_n 0, 1) := by decide +kernel
theorem dX11_rows_121 : decode cX11_rows 121 = .ok (.iload_n 1, 1) := by decide +kernel
theorem dX11_rows_122 : decode cX11_rows 122 = .ok (.iload_n 3, 1) := by decide +kernel
theorem dX11_rows_123 : decode cX11_rows 123 = .ok (.iload 4, 2) := by decide +kernel
theorem dX11_rows_125 : decode cX11_rows 125 = .ok (.invokevirtual 270, 3) := by decide +kernel
theorem dX11_rows_128 : decode cX11_rows 128 = .ok (.goto 11, 3) := by decide +kernel
theorem dX11_rows_131 : decode cX11_rows 131 = .ok (.aload_n 0, 1) := by decide +kernel
theorem dX11_rows_132 : decode cX11_rows 132 = .ok (.iload_n 1, 1) := by decide +kernel
theorem dX11_rows_133 : decode cX11_rows 133 = .ok (.iload_n 3, 1) := by decide +kernel
theorem dX11_rows_134 : decode cX11_rows 134 = .ok (.iload 4, 2) := by decide +kernel
theorem dX11_rows_136 : decode cX11_rows 136 = .ok (.invokevirtual 274, 3) := by decide +kernel
theorem dX11_rows_139 : decode cX11_rows 139 = .ok (.ireturn, 1) := by decide +kernel
theorem dX11_makes_0 : decode cX11_makes 0 = .ok (.aload_n 0, 1) := by decide +kernel
theorem dX11_makes_1 : decode cX11_makes 1 = .ok (.aload_n 0, 1) := by decide +kernel
theorem dX11_makes_2 : decode cX11_makes 2 = .ok (.getfield 16, 3) := by decide +kernel
theorem dX11_makes_5 : decode cX11_makes 5 = .ok (.iload_n 1, 1) := by decide +kernel
theorem dX11_makes_6 : decode cX11_makes 6 = .ok (.iaload, 1) := by decide +kernel
theorem dX11_makes_7 : decode cX11_makes 7 = .ok (.invokevirtual 267, 3) := by decide +kernel
theorem dX11_makes_10 : decode cX11_makes 10 = .ok (.istore_n 3, 1) := by decide +kernel
theorem dX11_makes_11 : decode cX11_makes 11 = .ok (.iload_n 3, 1) := by decide +kernel
theorem dX11_makes_12 : decode cX11_makes 12 = .ok (.ifCond .ge 6, 3) := by decide +kernel
theorem dX11_makes_15 : decode cX11_makes 15 = .ok (.bipush 8, 2) := by decide +kernel
theorem dX11_makes_17 : decode cX11_makes 17 = .ok (.ireturn, 1) := by decide +kernel
theorem dX11_makes_18 : decode cX11_makes 18 = .ok (.aload_n 0, 1) := by decide +kernel
theorem dX11_makes_19 : decode cX11_makes 19 = .ok (.getfield 56, 3) := by decide +kernel
theorem dX11_makes_22 : decode cX11_makes 22 = .ok (.iload_n 2, 1) := by decide +kernel
theorem dX11_makes_23 : decode cX11_makes 23 = .ok (.iload_n 3, 1) := by decide +kernel
theorem dX11_makes_24 : decode cX11_makes 24 = .ok (.bipush 63, 2) := by decide +kernel
theorem dX11_makes_26 : decode cX11_makes 26 = .ok (.iand, 1) := by decide +kernel
theorem dX11_makes_27 : decode cX11_makes 27 = .ok (.iastore, 1) := by decide +kernel
theorem dX11_makes_28 : decode cX11_makes 28 = .ok (.aload_n 0, 1) := by decide +kernel
theorem dX11_makes_29 : decode cX11_makes 29 = .ok (.getfield 59, 3) := by decide +kernel
theorem dX11_makes_32 : decode cX11_makes 32 = .ok (.iload_n 2, 1) := by decide +kernel
theorem dX11_makes_33 : decode cX11_makes 33 = .ok (.iload_n 2, 1) := by decide +kernel
theorem dX11_makes_34 : decode cX11_makes 34 = .ok (.bipush 56, 2) := by decide +kernel
theorem dX11_makes_36 : decode cX11_makes 36 = .ok (.if_icmp .lt 19, 3) := by decide +kernel
theorem dX11_makes_39 : decode cX11_makes 39 = .ok (.aload_n 0, 1) := by decide +kernel
theorem dX11_makes_40 : decode cX11_makes 40 = .ok (.getfield 19, 3) := by decide +kernel
theorem dX11_makes_43 : decode cX11_makes 43 = .ok (.iload_n 1, 1) := by decide +kernel
theorem dX11_makes_44 : decode cX11_makes 44 = .ok (.iaload, 1) := by decide +kernel
theorem dX11_makes_45 : decode cX11_makes 45 = .ok (.iconst 1, 1) := by decide +kernel
theorem dX11_makes_46 : decode cX11_makes 46 = .ok (.iand, 1) := by decide +kernel
theorem dX11_makes_47 : decode cX11_makes 47 = .ok (.iconst 1, 1) := by decide +kernel
theorem dX11_makes_48 : decode cX11_makes 48 = .ok (.if_icmp .ne 7, 3) := by decide +kernel
theorem dX11_makes_51 : decode cX11_makes 51 = .ok (.iconst 1, 1) := by decide +kernel
theorem dX11_makes_52 : decode cX11_makes 52 = .ok (.goto 4, 3) := by decide +kernel
theorem dX11_makes_55 : decode cX11_makes 55 = .ok (.iconst 0, 1) := by decide +kernel
theorem dX11_makes_56 : decode cX11_makes 56 = .ok (.bastore, 1) := by decide +kernel
theorem dX11_makes_57 : decode cX11_makes 57 = .ok (.iconst 0, 1) := by decide +kernel
theorem dX11_makes_58 : decode cX11_makes 58 = .ok (.istore 4, 2) := by decide +kernel
theorem dX11_makes_60 : decode cX11_makes 60 = .ok (.iload 4, 2) := by decide +kernel
theorem dX11_makes_62 : decode cX11_makes 62 = .ok (.bipush 64, 2) := by decide +kernel
theorem dX11_makes_64 : decode cX11_makes 64 = .ok (.if_icmp .ge 22, 3) := by decide +kernel
theorem dX11_makes_67 : decode cX11_makes 67 = .ok (.aload_n 0, 1) := by decide +kernel
theorem dX11_makes_68 : decode cX11_makes 68 = .ok (.getfield 63, 3) := by decide +kernel
theorem dX11_makes_71 : decode cX11_makes 71 = .ok (.bipush 64, 2) := by decide +kernel
theorem dX11_makes_73 : decode cX11_makes 73 = .ok (.iload_n 2, 1) := by decide +kernel
theorem dX11_makes_74 : decode cX11_makes 74 = .ok (.imul, 1) := by decide +kernel
theorem dX11_makes_75 : decode cX11_makes 75 = .ok (.iload 4, 2) := by decide +kernel
theorem dX11_makes_77 : decode cX11_makes 77 = .ok (.iadd, 1) := by decide +kernel
theorem dX11_makes_78 : decode cX11_makes 78 = .ok (.lconst 0, 1) := by decide +kernel
theorem dX11_makes_79 : decode cX11_makes 79 = .ok (.lastore, 1) := by decide +kernel
theorem dX11_makes_80 : decode cX11_makes 80 = .ok (.iinc 4 1, 3) := by decide +kernel
theorem dX11_makes_83 : decode cX11_makes 83 = .ok (.goto (-23), 3) := by decide +kernel
theorem dX11_makes_86 : decode cX11_makes 86 = .ok (.iconst 0, 1) := by decide +kernel
theorem dX11_makes_87 : decode cX11_makes 87 = .ok (.ireturn, 1) := by decide +kernel
theorem dX11_looksAt_0 : decode cX11_looksAt 0 = .ok (.aload_n 0, 1) := by decide +kernel
theorem dX11_looksAt_1 : decode cX11_looksAt 1 = .ok (.getfield 63, 3) := by decide +kernel
theorem dX11_looksAt_4 : decode cX11_looksAt 4 = .ok (.bipush 64, 2) := by decide +kernel
theorem dX11_looksAt_6 : decode cX11_looksAt 6 = .ok (.iload_n 2, 1) := by decide +kernel
theorem dX11_looksAt_7 : decode cX11_looksAt 7 = .ok (.imul, 1) := by decide +kernel
theorem dX11_looksAt_8 : decode cX11_looksAt 8 = .ok (.iload_n 3, 1) := by decide +kernel
theorem dX11_looksAt_9 : decode cX11_looksAt 9 = .ok (.iadd, 1) := by decide +kernel
theorem dX11_looksAt_10 : decode cX11_looksAt 10 = .ok (.laload, 1) := by decide +kernel
theorem dX11_looksAt_11 : decode cX11_looksAt 11 = .ok (.lstore 4, 2) := by decide +kernel
theorem dX11_looksAt_13 : decode cX11_looksAt 13 = .ok (.iload_n 2, 1) := by decide +kernel
theorem dX11_looksAt_14 : decode cX11_looksAt 14 = .ok (.bipush 56, 2) := by decide +kernel
theorem dX11_looksAt_16 : decode cX11_looksAt 16 = .ok (.if_icmp .lt 23, 3) := by decide +kernel
theorem dX11_looksAt_19 : decode cX11_looksAt 19 = .ok (.aload_n 0, 1) := by decide +kernel
theorem dX11_looksAt_20 : decode cX11_looksAt 20 = .ok (.getfield 47, 3) := by decide +kernel
theorem dX11_looksAt_23 : decode cX11_looksAt 23 = .ok (.aload_n 0, 1) := by decide +kernel
theorem dX11_looksAt_24 : decode cX11_looksAt 24 = .ok (.getfield 19, 3) := by decide +kernel
theorem dX11_looksAt_27 : decode cX11_looksAt 27 = .ok (.iload_n 1, 1) := by decide +kernel
theorem dX11_looksAt_28 : decode cX11_looksAt 28 = .ok (.iaload, 1) := by decide +kernel
theorem dX11_looksAt_29 : decode cX11_looksAt 29 = .ok (.bipush 7, 2) := by decide +kernel
theorem dX11_looksAt_31 : decode cX11_looksAt 31 = .ok (.iand, 1) := by decide +kernel
theorem dX11_looksAt_32 : decode cX11_looksAt 32 = .ok (.lload 4, 2) := by decide +kernel
theorem dX11_looksAt_34 : decode cX11_looksAt 34 = .ok (.l2i, 1) := by decide +kernel
theorem dX11_looksAt_35 : decode cX11_looksAt 35 = .ok (.iastore, 1) := by decide +kernel
theorem dX11_looksAt_36 : decode cX11_looksAt 36 = .ok (.goto 19, 3) := by decide +kernel
theorem dX11_looksAt_39 : decode cX11_looksAt 39 = .ok (.aload_n 0, 1) := by decide +kernel
theorem dX11_looksAt_40 : decode cX11_looksAt 40 = .ok (.getfield 43, 3) := by decide +kernel
theorem dX11_looksAt_43 : decode cX11_looksAt 43 = .ok (.aload_n 0, 1) := by decide +kernel
theorem dX11_looksAt_44 : decode cX11_looksAt 44 = .ok (.getfield 19, 3) := by decide +kernel
theorem dX11_looksAt_47 : decode cX11_looksAt 47 = .ok (.iload_n 1, 1) := by decide +kernel
theorem dX11_looksAt_48 : decode cX11_looksAt 48 = .ok (.iaload, 1) := by decide +kernel
theorem dX11_looksAt_49 : decode cX11_looksAt 49 = .ok (.bipush 7, 2) := by decide +kernel
theorem dX11_looksAt_51 : decode cX11_looksAt 51 = .ok (.iand, 1) := by decide +kernel
theorem dX11_looksAt_52 : decode cX11_looksAt 52 = .ok (.lload 4, 2) := by decide +kernel
theorem dX11_looksAt_54 : decode cX11_looksAt 54 = .ok (.lastore, 1) := by decide +kernel
theorem dX11_looksAt_55 : decode cX11_looksAt 55 = .ok (.iconst 0, 1) := by decide +kernel
theorem dX11_looksAt_56 : decode cX11_looksAt 56 = .ok (.ireturn, 1) := by decide +kernel
theorem dX11_puts_0 : decode cX11_puts 0 = .ok (.iload_n 2, 1) := by decide +kernel
theorem dX11_puts_1 : decode cX11_puts 1 = .ok (.iconst 3, 1) := by decide +kernel
theorem dX11_puts_2 : decode cX11_puts 2 = .ok (.ishr, 1) := by decide +kernel
theorem dX11_puts_3 : decode cX11_puts 3 = .ok (.istore 4, 2) := by decide +kernel
theorem dX11_puts_5 : decode cX11_puts 5 = .ok (.aload_n 0, 1) := by decide +kernel
theorem dX11_puts_6 : decode cX11_puts 6 = .ok (.getfield 43, 3) := by decide +kernel
theorem dX11_puts_9 : decode cX11_puts 9 = .ok (.aload_n 0, 1) := by decide +kernel
theorem dX11_puts_10 : decode cX11_puts 10 = .ok (.getfield 19, 3) := by decide +kernel
theorem dX11_puts_13 : decode cX11_puts 13 = .ok (.iload_n 1, 1) := by decide +kernel
theorem dX11_puts_14 : decode cX11_puts 14 = .ok (.iaload, 1) := by decide +kernel
theorem dX11_puts_15 : decode cX11_puts 15 = .ok (.bipush 7, 2) := by decide +kernel
theorem dX11_puts_17 : decode cX11_puts 17 = .ok (.iand, 1) := by decide +kernel
theorem dX11_puts_18 : decode cX11_puts 18 = .ok (.laload, 1) := by decide +kernel
theorem dX11_puts_19 : decode cX11_puts 19 = .ok (.lstore 5, 2) := by decide +kernel
theorem dX11_puts_21 : decode cX11_puts 21 = .ok (.iload 4, 2) := by decide +kernel
theorem dX11_puts_23 : decode cX11_puts 23 = .ok (.bipush 7, 2) := by decide +kernel
theorem dX11_puts_25 : decode cX11_puts 25 = .ok (.if_icmp .ne 51, 3) := by decide +kernel
theorem dX11_puts_28 : decode cX11_puts 28 = .ok (.aload_n 0, 1) := by decide +kernel
theorem dX11_puts_29 : decode cX11_puts 29 = .ok (.getfield 47, 3) := by decide +kernel
theorem dX11_puts_32 : decode cX11_puts 32 = .ok (.aload_n 0, 1) := by decide +kernel
theorem dX11_puts_33 : decode cX11_puts 33 = .ok (.getfield 19, 3) := by decide +kernel
theorem dX11_puts_36 : decode cX11_puts 36 = .ok (.iload_n 1, 1) := by decide +kernel
theorem dX11_puts_37 : decode cX11_puts 37 = .ok (.iaload, 1) := by decide +kernel
theorem dX11_puts_38 : decode cX11_puts 38 = .ok (.bipush 7, 2) := by decide +kernel
theorem dX11_puts_40 : decode cX11_puts 40 = .ok (.iand, 1) := by decide +kernel
theorem dX11_puts_41 : decode cX11_puts 41 = .ok (.iaload, 1) := by decide +kernel
theorem dX11_puts_42 : decode cX11_puts 42 = .ok (.istore 7, 2) := by decide +kernel
theorem dX11_puts_44 : decode cX11_puts 44 = .ok (.aload_n 0, 1) := by decide +kernel
theorem dX11_puts_45 : decode cX11_puts 45 = .ok (.getfield 59, 3) := by decide +kernel
theorem dX11_puts_48 : decode cX11_puts 48 = .ok (.iload_n 2, 1) := by decide +kernel
theorem dX11_puts_49 : decode cX11_puts 49 = .ok (.baload, 1) := by decide +kernel
theorem dX11_puts_50 : decode cX11_puts 50 = .ok (.ifCond .eq 21, 3) := by decide +kernel
theorem dX11_puts_53 : decode cX11_puts 53 = .ok (.iload 7, 2) := by decide +kernel
theorem dX11_puts_55 : decode cX11_puts 55 = .ok (.ifCond .le 16, 3) := by decide +kernel
theorem dX11_puts_58 : decode cX11_puts 58 = .ok (.aload_n 0, 1) := by decide +kernel
theorem dX11_puts_59 : decode cX11_puts 59 = .ok (.getfield 50, 3) := by decide +kernel
theorem dX11_puts_62 : decode cX11_puts 62 = .ok (.iload 7, 2) := by decide +kernel
theorem dX11_puts_64 : decode cX11_puts 64 = .ok (.iaload, 1) := by decide +kernel
theorem dX11_puts_65 : decode cX11_puts 65 = .ok (.ifCond .ne 6, 3) := by decide +kernel
theorem dX11_puts_68 : decode cX11_puts 68 = .ok (.bipush 10, 2) := by decide +kernel
theorem dX11_puts_70 : decode cX11_puts 70 = .ok (.ireturn, 1) := by decide +kernel
theorem dX11_puts_71 : decode cX11_puts 71 = .ok (.iload 7, 2) := by decide +kernel
theorem dX11_puts_73 : decode cX11_puts 73 = .ok (.i2l, 1) := by decide +kernel
theorem dX11_puts_74 : decode cX11_puts 74 = .ok (.lstore 5, 2) := by decide +kernel
theorem dX11_puts_76 : decode cX11_puts 76 = .ok (.aload_n 0, 1) := by decide +kernel
theorem dX11_puts_77 : decode cX11_puts 77 = .ok (.getfield 63, 3) := by decide +kernel
theorem dX11_puts_80 : decode cX11_puts 80 = .ok (.bipush 64, 2) := by decide +kernel
theorem dX11_puts_82 : decode cX11_puts 82 = .ok (.iload_n 2, 1) := by decide +kernel
theorem dX11_puts_83 : decode cX11_puts 83 = .ok (.imul, 1) := by decide +kernel
theorem dX11_puts_84 : decode cX11_puts 84 = .ok (.iload_n 3, 1) := by decide +kernel
theorem dX11_puts_85 : decode cX11_puts 85 = .ok (.iadd, 1) := by decide +kernel
theorem dX11_puts_86 : decode cX11_puts 86 = .ok (.iload 4, 2) := by decide +kernel
theorem dX11_puts_88 : decode cX11_puts 88 = .ok (.lload 5, 2) := by decide +kernel
theorem dX11_puts_90 : decode cX11_puts 90 = .ok (.invokestatic 277, 3) := by decide +kernel
theorem dX11_puts_93 : decode cX11_puts 93 = .ok (.lastore, 1) := by decide +kernel
theorem dX11_puts_94 : decode cX11_puts 94 = .ok (.iconst 0, 1) := by decide +kernel
theorem dX11_puts_95 : decode cX11_puts 95 = .ok (.ireturn, 1) := by decide +kernel
theorem dX11_fitted_0 : decode cX11_fitted 0 = .ok (.iload_n 0, 1) := by decide +kernel
theorem dX11_fitted_1 : decode cX11_fitted 1 = .ok (.tableswitch 87 0 6 #[43, 51, 57, 65, 87, 73, 80], 43) := by decide +kernel
theorem dX11_fitted_44 : decode cX11_fitted 44 = .ok (.lload_n 1, 1) := by decide +kernel
theorem dX11_fitted_45 : decode cX11_fitted 45 = .ok (.bipush 56, 2) := by decide +kernel
theorem dX11_fitted_47 : decode cX11_fitted 47 = .ok (.lshl, 1) := by decide +kernel
theorem dX11_fitted_48 : decode cX11_fitted 48 = .ok (.bipush 56, 2) := by decide +kernel
theorem dX11_fitted_50 : decode cX11_fitted 50 = .ok (.lshr, 1) := by decide +kernel
theorem dX11_fitted_51 : decode cX11_fitted 51 = .ok (.lreturn, 1) := by decide +kernel
theorem dX11_fitted_52 : decode cX11_fitted 52 = .ok (.lload_n 1, 1) := by decide +kernel
theorem dX11_fitted_53 : decode cX11_fitted 53 = .ok (.ldc2_w 281, 3) := by decide +kernel
theorem dX11_fitted_56 : decode cX11_fitted 56 = .ok (.land, 1) := by decide +kernel
theorem dX11_fitted_57 : decode cX11_fitted 57 = .ok (.lreturn, 1) := by decide +kernel
theorem dX11_fitted_58 : decode cX11_fitted 58 = .ok (.lload_n 1, 1) := by decide +kernel
theorem dX11_fitted_59 : decode cX11_fitted 59 = .ok (.bipush 48, 2) := by decide +kernel
theorem dX11_fitted_61 : decode cX11_fitted 61 = .ok (.lshl, 1) := by decide +kernel
theorem dX11_fitted_62 : decode cX11_fitted 62 = .ok (.bipush 48, 2) := by decide +kernel
theorem dX11_fitted_64 : decode cX11_fitted 64 = .ok (.lshr, 1) := by decide +kernel
theorem dX11_fitted_65 : decode cX11_fitted 65 = .ok (.lreturn, 1) := by decide +kernel
theorem dX11_fitted_66 : decode cX11_fitted 66 = .ok (.lload_n 1, 1) := by decide +kernel
theorem dX11_fitted_67 : decode cX11_fitted 67 = .ok (.bipush 32, 2) := by decide +kernel
theorem dX11_fitted_69 : decode cX11_fitted 69 = .ok (.lshl, 1) := by decide +kernel
theorem dX11_fitted_70 : decode cX11_fitted 70 = .ok (.bipush 32, 2) := by decide +kernel
theorem dX11_fitted_72 : decode cX11_fitted 72 = .ok (.lshr, 1) := by decide +kernel
theorem dX11_fitted_73 : decode cX11_fitted 73 = .ok (.lreturn, 1) := by decide +kernel
theorem dX11_fitted_74 : decode cX11_fitted 74 = .ok (.lload_n 1, 1) := by decide +kernel
theorem dX11_fitted_75 : decode cX11_fitted 75 = .ok (.bipush 24, 2) := by decide +kernel
theorem dX11_fitted_77 : decode cX11_fitted 77 = .ok (.invokestatic 283, 3) := by decide +kernel
theorem dX11_fitted_80 : decode cX11_fitted 80 = .ok (.lreturn, 1) := by decide +kernel
theorem dX11_fitted_81 : decode cX11_fitted 81 = .ok (.lload_n 1, 1) := by decide +kernel
theorem dX11_fitted_82 : decode cX11_fitted 82 = .ok (.bipush 53, 2) := by decide +kernel
theorem dX11_fitted_84 : decode cX11_fitted 84 = .ok (.invokestatic 283, 3) := by decide +kernel
theorem dX11_fitted_87 : decode cX11_fitted 87 = .ok (.lreturn, 1) := by decide +kernel
theorem dX11_fitted_88 : decode cX11_fitted 88 = .ok (.lload_n 1, 1) := by decide +kernel
theorem dX11_fitted_89 : decode cX11_fitted 89 = .ok (.lreturn, 1) := by decide +kernel
theorem dX11_rounded_0 : decode cX11_rounded 0 = .ok (.lload_n 0, 1) := by decide +kernel
theorem dX11_rounded_1 : decode cX11_rounded 1 = .ok (.lconst 0, 1) := by decide +kernel
theorem dX11_rounded_2 : decode cX11_rounded 2 = .ok (.lcmp, 1) := by decide +kernel
theorem dX11_rounded_3 : decode cX11_rounded 3 = .ok (.ifCond .ge 8, 3) := by decide +kernel
theorem dX11_rounded_6 : decode cX11_rounded 6 = .ok (.lload_n 0, 1) := by decide +kernel
theorem dX11_rounded_7 : decode cX11_rounded 7 = .ok (.lneg, 1) := by decide +kernel
theorem dX11_rounded_8 : decode cX11_rounded 8 = .ok (.goto 4, 3) := by decide +kernel
theorem dX11_rounded_11 : decode cX11_rounded 11 = .ok (.lload_n 0, 1) := by decide +kernel
theorem dX11_rounded_12 : decode cX11_rounded 12 = .ok (.lstore_n 3, 1) := by decide +kernel
theorem dX11_rounded_13 : decode cX11_rounded 13 = .ok (.iconst 0, 1) := by decide +kernel
theorem dX11_rounded_14 : decode cX11_rounded 14 = .ok (.istore 5, 2) := by decide +kernel
theorem dX11_rounded_16 : decode cX11_rounded 16 = .ok (.iload 5, 2) := by decide +kernel
theorem dX11_rounded_18 : decode cX11_rounded 18 = .ok (.bipush 64, 2) := by decide +kernel
theorem dX11_rounded_20 : decode cX11_rounded 20 = .ok (.iload_n 2, 1) := by decide +kernel
theorem dX11_rounded_21 : decode cX11_rounded 21 = .ok (.isub, 1) := by decide +kernel
theorem dX11_rounded_22 : decode cX11_rounded 22 = .ok (.if_icmp .ge 20, 3) := by decide +kernel
theorem dX11_rounded_25 : decode cX11_rounded 25 = .ok (.lload_n 3, 1) := by decide +kernel
theorem dX11_rounded_26 : decode cX11_rounded 26 = .ok (.iload_n 2, 1) := by decide +kernel
theorem dX11_rounded_27 : decode cX11_rounded 27 = .ok (.iload 5, 2) := by decide +kernel
theorem dX11_rounded_29 : decode cX11_rounded 29 = .ok (.iadd, 1) := by decide +kernel
theorem dX11_rounded_30 : decode cX11_rounded 30 = .ok (.lushr, 1) := by decide +kernel
theorem dX11_rounded_31 : decode cX11_rounded 31 = .ok (.lconst 0, 1) := by decide +kernel
theorem dX11_rounded_32 : decode cX11_rounded 32 = .ok (.lcmp, 1) := by decide +kernel
theorem dX11_rounded_33 : decode cX11_rounded 33 = .ok (.ifCond .eq 9, 3) := by decide +kernel
theorem dX11_rounded_36 : decode cX11_rounded 36 = .ok (.iinc 5 1, 3) := by decide +kernel
theorem dX11_rounded_39 : decode cX11_rounded 39 = .ok (.goto (-23), 3) := by decide +kernel
theorem dX11_rounded_42 : decode cX11_rounded 42 = .ok (.iload 5, 2) := by decide +kernel
theorem dX11_rounded_44 : decode cX11_rounded 44 = .ok (.ifCond .ne 5, 3) := by decide +kernel
theorem dX11_rounded_47 : decode cX11_rounded 47 = .ok (.lload_n 0, 1) := by decide +kernel
theorem dX11_rounded_48 : decode cX11_rounded 48 = .ok (.lreturn, 1) := by decide +kernel
theorem dX11_rounded_49 : decode cX11_rounded 49 = .ok (.lload_n 3, 1) := by decide +kernel
theorem dX11_rounded_50 : decode cX11_rounded 50 = .ok (.lconst 1, 1) := by decide +kernel
theorem dX11_rounded_51 : decode cX11_rounded 51 = .ok (.iload 5, 2) := by decide +kernel
theorem dX11_rounded_53 : decode cX11_rounded 53 = .ok (.lshl, 1) := by decide +kernel
theorem dX11_rounded_54 : decode cX11_rounded 54 = .ok (.lconst 1, 1) := by decide +kernel
theorem dX11_rounded_55 : decode cX11_rounded 55 = .ok (.lsub, 1) := by decide +kernel
theorem dX11_rounded_56 : decode cX11_rounded 56 = .ok (.land, 1) := by decide +kernel
theorem dX11_rounded_57 : decode cX11_rounded 57 = .ok (.lstore 6, 2) := by decide +kernel
theorem dX11_rounded_59 : decode cX11_rounded 59 = .ok (.lconst 1, 1) := by decide +kernel
theorem dX11_rounded_60 : decode cX11_rounded 60 = .ok (.iload 5, 2) := by decide +kernel
theorem dX11_rounded_62 : decode cX11_rounded 62 = .ok (.iconst 1, 1) := by decide +kernel
theorem dX11_rounded_63 : decode cX11_rounded 63 = .ok (.isub, 1) := by decide +kernel
theorem dX11_rounded_64 : decode cX11_rounded 64 = .ok (.lshl, 1) := by decide +kernel
theorem dX11_rounded_65 : decode cX11_rounded 65 = .ok (.lstore 8, 2) := by decide +kernel
theorem dX11_rounded_67 : decode cX11_rounded 67 = .ok (.lload_n 3, 1) := by decide +kernel
theorem dX11_rounded_68 : decode cX11_rounded 68 = .ok (.iload 5, 2) := by decide +kernel
theorem dX11_rounded_70 : decode cX11_rounded 70 = .ok (.lushr, 1) := by decide +kernel
theorem dX11_rounded_71 : decode cX11_rounded 71 = .ok (.lstore 10, 2) := by decide +kernel
theorem dX11_rounded_73 : decode cX11_rounded 73 = .ok (.lload 6, 2) := by decide +kernel
theorem dX11_rounded_75 : decode cX11_rounded 75 = .ok (.lload 8, 2) := by decide +kernel
theorem dX11_rounded_77 : decode cX11_rounded 77 = .ok (.lcmp, 1) := by decide +kernel
theorem dX11_rounded_78 : decode cX11_rounded 78 = .ok (.ifCond .gt 20, 3) := by decide +kernel
theorem dX11_rounded_81 : decode cX11_rounded 81 = .ok (.lload 6, 2) := by decide +kernel
theorem dX11_rounded_83 : decode cX11_rounded 83 = .ok (.lload 8, 2) := by decide +kernel
theorem dX11_rounded_85 : decode cX11_rounded 85 = .ok (.lcmp, 1) := by decide +kernel
theorem dX11_rounded_86 : decode cX11_rounded 86 = .ok (.ifCond .ne 18, 3) := by decide +kernel
theorem dX11_rounded_89 : decode cX11_rounded 89 = .ok (.lload 10, 2) := by decide +kernel
theorem dX11_rounded_91 : decode cX11_rounded 91 = .ok (.lconst 1, 1) := by decide +kernel
theorem dX11_rounded_92 : decode cX11_rounded 92 = .ok (.land, 1) := by decide +kernel
theorem dX11_rounded_93 : decode cX11_rounded 93 = .ok (.lconst 1, 1) := by decide +kernel
theorem dX11_rounded_94 : decode cX11_rounded 94 = .ok (.lcmp, 1) := by decide +kernel
theorem dX11_rounded_95 : decode cX11_rounded 95 = .ok (.ifCond .ne 9, 3) := by decide +kernel
theorem dX11_rounded_98 : decode cX11_rounded 98 = .ok (.lload 10, 2) := by decide +kernel
theorem dX11_rounded_100 : decode cX11_rounded 100 = .ok (.lconst 1, 1) := by decide +kernel
theorem dX11_rounded_101 : decode cX11_rounded 101 = .ok (.ladd, 1) := by decide +kernel
theorem dX11_rounded_102 : decode cX11_rounded 102 = .ok (.lstore 10, 2) := by decide +kernel
theorem dX11_rounded_104 : decode cX11_rounded 104 = .ok (.lload 10, 2) := by decide +kernel
theorem dX11_rounded_106 : decode cX11_rounded 106 = .ok (.iload 5, 2) := by decide +kernel
theorem dX11_rounded_108 : decode cX11_rounded 108 = .ok (.lshl, 1) := by decide +kernel
theorem dX11_rounded_109 : decode cX11_rounded 109 = .ok (.lstore 12, 2) := by decide +kernel
theorem dX11_rounded_111 : decode cX11_rounded 111 = .ok (.lload_n 0, 1) := by decide +kernel
theorem dX11_rounded_112 : decode cX11_rounded 112 = .ok (.lconst 0, 1) := by decide +kernel
theorem dX11_rounded_113 : decode cX11_rounded 113 = .ok (.lcmp, 1) := by decide +kernel
theorem dX11_rounded_114 : decode cX11_rounded 114 = .ok (.ifCond .ge 7, 3) := by decide +kernel
theorem dX11_rounded_117 : decode cX11_rounded 117 = .ok (.lload 12, 2) := by decide +kernel
theorem dX11_rounded_119 : decode cX11_rounded 119 = .ok (.lneg, 1) := by decide +kernel
theorem dX11_rounded_120 : decode cX11_rounded 120 = .ok (.lreturn, 1) := by decide +kernel
theorem dX11_rounded_121 : decode cX11_rounded 121 = .ok (.lload 12, 2) := by decide +kernel
theorem dX11_rounded_123 : decode cX11_rounded 123 = .ok (.lconst 0, 1) := by decide +kernel
theorem dX11_rounded_124 : decode cX11_rounded 124 = .ok (.lcmp, 1) := by decide +kernel
theorem dX11_rounded_125 : decode cX11_rounded 125 = .ok (.ifCond .ge 9, 3) := by decide +kernel
theorem dX11_rounded_128 : decode cX11_rounded 128 = .ok (.ldc2_w 287, 3) := by decide +kernel
theorem dX11_rounded_131 : decode cX11_rounded 131 = .ok (.goto 5, 3) := by decide +kernel
theorem dX11_rounded_134 : decode cX11_rounded 134 = .ok (.lload 12, 2) := by decide +kernel
theorem dX11_rounded_136 : decode cX11_rounded 136 = .ok (.lreturn, 1) := by decide +kernel
theorem dX11_grids_0 : decode cX11_grids 0 = .ok (.aload_n 0, 1) := by decide +kernel
theorem dX11_grids_1 : decode cX11_grids 1 = .ok (.aload_n 0, 1) := by decide +kernel
theorem dX11_grids_2 : decode cX11_grids 2 = .ok (.getfield 13, 3) := by decide +kernel
theorem dX11_grids_5 : decode cX11_grids 5 = .ok (.iload_n 1, 1) := by decide +kernel
theorem dX11_grids_6 : decode cX11_grids 6 = .ok (.iaload, 1) := by decide +kernel
theorem dX11_grids_7 : decode cX11_grids 7 = .ok (.invokevirtual 267, 3) := by decide +kernel
theorem dX11_grids_10 : decode cX11_grids 10 = .ok (.istore_n 2, 1) := by decide +kernel
theorem dX11_grids_11 : decode cX11_grids 11 = .ok (.aload_n 0, 1) := by decide +kernel
theorem dX11_grids_12 : decode cX11_grids 12 = .ok (.aload_n 0, 1) := by decide +kernel
theorem dX11_grids_13 : decode cX11_grids 13 = .ok (.getfield 16, 3) := by decide +kernel
theorem dX11_grids_16 : decode cX11_grids 16 = .ok (.iload_n 1, 1) := by decide +kernel
theorem dX11_grids_17 : decode cX11_grids 17 = .ok (.iaload, 1) := by decide +kernel
theorem dX11_grids_18 : decode cX11_grids 18 = .ok (.invokevirtual 267, 3) := by decide +kernel
theorem dX11_grids_21 : decode cX11_grids 21 = .ok (.istore_n 3, 1) := by decide +kernel
theorem dX11_grids_22 : decode cX11_grids 22 = .ok (.aload_n 0, 1) := by decide +kernel
theorem dX11_grids_23 : decode cX11_grids 23 = .ok (.getfield 7, 3) := by decide +kernel
theorem dX11_grids_26 : decode cX11_grids 26 = .ok (.iload_n 1, 1) := by decide +kernel
theorem dX11_grids_27 : decode cX11_grids 27 = .ok (.iaload, 1) := by decide +kernel
theorem dX11_grids_28 : decode cX11_grids 28 = .ok (.bipush 11, 2) := by decide +kernel
theorem dX11_grids_30 : decode cX11_grids 30 = .ok (.if_icmp .ne 61, 3) := by decide +kernel
theorem dX11_grids_33 : decode cX11_grids 33 = .ok (.iload_n 2, 1) := by decide +kernel
theorem dX11_grids_34 : decode cX11_grids 34 = .ok (.ifCond .lt 7, 3) := by decide +kernel
theorem dX11_grids_37 : decode cX11_grids 37 = .ok (.iload_n 3, 1) := by decide +kernel
theorem dX11_grids_38 : decode cX11_grids 38 = .ok (.ifCond .ge 6, 3) := by decide +kernel
theorem dX11_grids_41 : decode cX11_grids 41 = .ok (.bipush 8, 2) := by decide +kernel
theorem dX11_grids_43 : decode cX11_grids 43 = .ok (.ireturn, 1) := by decide +kernel
theorem dX11_grids_44 : decode cX11_grids 44 = .ok (.aload_n 0, 1) := by decide +kernel
theorem dX11_grids_45 : decode cX11_grids 45 = .ok (.iconst 1, 1) := by decide +kernel
theorem dX11_grids_46 : decode cX11_grids 46 = .ok (.putfield 289, 3) := by decide +kernel
theorem dX11_grids_49 : decode cX11_grids 49 = .ok (.aload_n 0, 1) := by decide +kernel
theorem dX11_grids_50 : decode cX11_grids 50 = .ok (.iload_n 2, 1) := by decide +kernel
theorem dX11_grids_51 : decode cX11_grids 51 = .ok (.bipush 7, 2) := by decide +kernel
theorem dX11_grids_53 : decode cX11_grids 53 = .ok (.iand, 1) := by decide +kernel
theorem dX11_grids_54 : decode cX11_grids 54 = .ok (.putfield 292, 3) := by decide +kernel
theorem dX11_grids_57 : decode cX11_grids 57 = .ok (.aload_n 0, 1) := by decide +kernel
theorem dX11_grids_58 : decode cX11_grids 58 = .ok (.iload_n 3, 1) := by decide +kernel
theorem dX11_grids_59 : decode cX11_grids 59 = .ok (.bipush 7, 2) := by decide +kernel
theorem dX11_grids_61 : decode cX11_grids 61 = .ok (.iand, 1) := by decide +kernel
theorem dX11_grids_62 : decode cX11_grids 62 = .ok (.putfield 295, 3) := by decide +kernel
theorem dX11_grids_65 : decode cX11_grids 65 = .ok (.iconst 0, 1) := by decide +kernel
theorem dX11_grids_66 : decode cX11_grids 66 = .ok (.istore 4, 2) := by decide +kernel
theorem dX11_grids_68 : decode cX11_grids 68 = .ok (.iload 4, 2) := by decide +kernel
theorem dX11_grids_70 : decode cX11_grids 70 = .ok (.bipush 64, 2) := by decide +kernel
theorem dX11_grids_72 : decode cX11_grids 72 = .ok (.if_icmp .ge 17, 3) := by decide +kernel
theorem dX11_grids_75 : decode cX11_grids 75 = .ok (.aload_n 0, 1) := by decide +kernel
theorem dX11_grids_76 : decode cX11_grids 76 = .ok (.getfield 66, 3) := by decide +kernel
theorem dX11_grids_79 : decode cX11_grids 79 = .ok (.iload 4, 2) := by decide +kernel
theorem dX11_grids_81 : decode cX11_grids 81 = .ok (.iconst 0, 1) := by decide +kernel
theorem dX11_grids_82 : decode cX11_grids 82 = .ok (.iastore, 1) := by decide +kernel
theorem dX11_grids_83 : decode cX11_grids 83 = .ok (.iinc 4 1, 3) := by decide +kernel
theorem dX11_grids_86 : decode cX11_grids 86 = .ok (.goto (-18), 3) := by decide +kernel
theorem dX11_grids_89 : decode cX11_grids 89 = .ok (.iconst 0, 1) := by decide +kernel
theorem dX11_grids_90 : decode cX11_grids 90 = .ok (.ireturn, 1) := by decide +kernel
theorem dX11_grids_91 : decode cX11_grids 91 = .ok (.aload_n 0, 1) := by decide +kernel
theorem dX11_grids_92 : decode cX11_grids 92 = .ok (.getfield 289, 3) := by decide +kernel
theorem dX11_grids_95 : decode cX11_grids 95 = .ok (.ifCond .ne 6, 3) := by decide +kernel
theorem dX11_grids_98 : decode cX11_grids 98 = .ok (.bipush 7, 2) := by decide +kernel
theorem dX11_grids_100 : decode cX11_grids 100 = .ok (.ireturn, 1) := by decide +kernel
theorem dX11_grids_101 : decode cX11_grids 101 = .ok (.iload_n 2, 1) := by decide +kernel
theorem dX11_grids_102 : decode cX11_grids 102 = .ok (.ifCond .lt 23, 3) := by decide +kernel
theorem dX11_grids_105 : decode cX11_grids 105 = .ok (.iload_n 2, 1) := by decide +kernel
theorem dX11_grids_106 : decode cX11_grids 106 = .ok (.aload_n 0, 1) := by decide +kernel
theorem dX11_grids_107 : decode cX11_grids 107 = .ok (.getfield 292, 3) := by decide +kernel
theorem dX11_grids_110 : decode cX11_grids 110 = .ok (.if_icmp .ge 15, 3) := by decide +kernel
theorem dX11_grids_113 : decode cX11_grids 113 = .ok (.iload_n 3, 1) := by decide +kernel
theorem dX11_grids_114 : decode cX11_grids 114 = .ok (.ifCond .lt 11, 3) := by decide +kernel
theorem dX11_grids_117 : decode cX11_grids 117 = .ok (.iload_n 3, 1) := by decide +kernel
theorem dX11_grids_118 : decode cX11_grids 118 = .ok (.aload_n 0, 1) := by decide +kernel
theorem dX11_grids_119 : decode cX11_grids 119 = .ok (.getfield 295, 3) := by decide +kernel
theorem dX11_grids_122 : decode cX11_grids 122 = .ok (.if_icmp .lt 6, 3) := by decide +kernel
theorem dX11_grids_125 : decode cX11_grids 125 = .ok (.bipush 6, 2) := by decide +kernel
theorem dX11_grids_127 : decode cX11_grids 127 = .ok (.ireturn, 1) := by decide +kernel
theorem dX11_grids_128 : decode cX11_grids 128 = .ok (.aload_n 0, 1) := by decide +kernel
theorem dX11_grids_129 : decode cX11_grids 129 = .ok (.getfield 7, 3) := by decide +kernel
theorem dX11_grids_132 : decode cX11_grids 132 = .ok (.iload_n 1, 1) := by decide +kernel
theorem dX11_grids_133 : decode cX11_grids 133 = .ok (.iaload, 1) := by decide +kernel
theorem dX11_grids_134 : decode cX11_grids 134 = .ok (.bipush 12, 2) := by decide +kernel
theorem dX11_grids_136 : decode cX11_grids 136 = .ok (.if_icmp .ne 32, 3) := by decide +kernel
theorem dX11_grids_139 : decode cX11_grids 139 = .ok (.aload_n 0, 1) := by decide +kernel
theorem dX11_grids_140 : decode cX11_grids 140 = .ok (.getfield 43, 3) := by decide +kernel
theorem dX11_grids_143 : decode cX11_grids 143 = .ok (.aload_n 0, 1) := by decide +kernel
theorem dX11_grids_144 : decode cX11_grids 144 = .ok (.getfield 19, 3) := by decide +kernel
theorem dX11_grids_147 : decode cX11_grids 147 = .ok (.iload_n 1, 1) := by decide +kernel
theorem dX11_grids_148 : decode cX11_grids 148 = .ok (.iaload, 1) := by decide +kernel
theorem dX11_grids_149 : decode cX11_grids 149 = .ok (.bipush 7, 2) := by decide +kernel
theorem dX11_grids_151 : decode cX11_grids 151 = .ok (.iand, 1) := by decide +kernel
theorem dX11_grids_152 : decode cX11_grids 152 = .ok (.aload_n 0, 1) := by decide +kernel
theorem dX11_grids_153 : decode cX11_grids 153 = .ok (.getfield 66, 3) := by decide +kernel
theorem dX11_grids_156 : decode cX11_grids 156 = .ok (.bipush 8, 2) := by decide +kernel
theorem dX11_grids_158 : decode cX11_grids 158 = .ok (.iload_n 2, 1) := by decide +kernel
theorem dX11_grids_159 : decode cX11_grids 159 = .ok (.imul, 1) := by decide +kernel
theorem dX11_grids_160 : decode cX11_grids 160 = .ok (.iload_n 3, 1) := by decide +kernel
theorem dX11_grids_161 : decode cX11_grids 161 = .ok (.iadd, 1) := by decide +kernel
theorem dX11_grids_162 : decode cX11_grids 162 = .ok (.iaload, 1) := by decide +kernel
theorem dX11_grids_163 : decode cX11_grids 163 = .ok (.i2l, 1) := by decide +kernel
theorem dX11_grids_164 : decode cX11_grids 164 = .ok (.lastore, 1) := by decide +kernel
theorem dX11_grids_165 : decode cX11_grids 165 = .ok (.goto 24, 3) := by decide +kernel
theorem dX11_grids_168 : decode cX11_grids 168 = .ok (.aload_n 0, 1) := by decide +kernel
theorem dX11_grids_169 : decode cX11_grids 169 = .ok (.getfield 66, 3) := by decide +kernel
theorem dX11_grids_172 : decode cX11_grids 172 = .ok (.bipush 8, 2) := by decide +kernel
theorem dX11_grids_174 : decode cX11_grids 174 = .ok (.iload_n 2, 1) := by decide +kernel
theorem dX11_grids_175 : decode cX11_grids 175 = .ok (.imul, 1) := by decide +kernel
theorem dX11_grids_176 : decode cX11_grids 176 = .ok (.iload_n 3, 1) := by decide +kernel
theorem dX11_grids_177 : decode cX11_grids 177 = .ok (.iadd, 1) := by decide +kernel
theorem dX11_grids_178 : decode cX11_grids 178 = .ok (.aload_n 0, 1) := by decide +kernel
theorem dX11_grids_179 : decode cX11_grids 179 = .ok (.aload_n 0, 1) := by decide +kernel
theorem dX11_grids_180 : decode cX11_grids 180 = .ok (.getfield 19, 3) := by decide +kernel
theorem dX11_grids_183 : decode cX11_grids 183 = .ok (.iload_n 1, 1) := by decide +kernel
theorem dX11_grids_184 : decode cX11_grids 184 = .ok (.iaload, 1) := by decide +kernel
theorem dX11_grids_185 : decode cX11_grids 185 = .ok (.invokevirtual 267, 3) := by decide +kernel
theorem dX11_grids_188 : decode cX11_grids 188 = .ok (.iastore, 1) := by decide +kernel
theorem dX11_grids_189 : decode cX11_grids 189 = .ok (.iconst 0, 1) := by decide +kernel
theorem dX11_grids_190 : decode cX11_grids 190 = .ok (.ireturn, 1) := by decide +kernel
theorem dX11_withThings_0 : decode cX11_withThings 0 = .ok (.aload_n 0, 1) := by decide +kernel
theorem dX11_withThings_1 : decode cX11_withThings 1 = .ok (.getfield 7, 3) := by decide +kernel
theorem dX11_withThings_4 : decode cX11_withThings 4 = .ok (.iload_n 1, 1) := by decide +kernel
theorem dX11_withThings_5 : decode cX11_withThings 5 = .ok (.iaload, 1) := by decide +kernel
theorem dX11_withThings_6 : decode cX11_withThings 6 = .ok (.istore_n 2, 1) := by decide +kernel
theorem dX11_withThings_7 : decode cX11_withThings 7 = .ok (.aload_n 0, 1) := by decide +kernel
theorem dX11_withThings_8 : decode cX11_withThings 8 = .ok (.getfield 47, 3) := by decide +kernel
theorem dX11_withThings_11 : decode cX11_withThings 11 = .ok (.aload_n 0, 1) := by decide +kernel
theorem dX11_withThings_12 : decode cX11_withThings 12 = .ok (.getfield 13, 3) := by decide +kernel
theorem dX11_withThings_15 : decode cX11_withThings 15 = .ok (.iload_n 1, 1) := by decide +kernel
theorem dX11_withThings_16 : decode cX11_withThings 16 = .ok (.iaload, 1) := by decide +kernel
theorem dX11_withThings_17 : decode cX11_withThings 17 = .ok (.bipush 7, 2) := by decide +kernel
theorem dX11_withThings_19 : decode cX11_withThings 19 = .ok (.iand, 1) := by decide +kernel
theorem dX11_withThings_20 : decode cX11_withThings 20 = .ok (.iaload, 1) := by decide +kernel
theorem dX11_withThings_21 : decode cX11_withThings 21 = .ok (.istore_n 3, 1) := by decide +kernel
theorem dX11_withThings_22 : decode cX11_withThings 22 = .ok (.iload_n 2, 1) := by decide +kernel
theorem dX11_withThings_23 : decode cX11_withThings 23 = .ok (.bipush 14, 2) := by decide +kernel
theorem dX11_withThings_25 : decode cX11_withThings 25 = .ok (.if_icmp .ne 45, 3) := by decide +kernel
theorem dX11_withThings_28 : decode cX11_withThings 28 = .ok (.aload_n 0, 1) := by decide +kernel
theorem dX11_withThings_29 : decode cX11_withThings 29 = .ok (.getfield 47, 3) := by decide +kernel
theorem dX11_withThings_32 : decode cX11_withThings 32 = .ok (.aload_n 0, 1) := by decide +kernel
theorem dX11_withThings_33 : decode cX11_withThings 33 = .ok (.getfield 13, 3) := by decide +kernel
theorem dX11_withThings_36 : decode cX11_withThings 36 = .ok (.iload_n 1, 1) := by decide +kernel
theorem dX11_withThings_37 : decode cX11_withThings 37 = .ok (.iaload, 1) := by decide +kernel
theorem dX11_withThings_38 : decode cX11_withThings 38 = .ok (.bipush 7, 2) := by decide +kernel
theorem dX11_withThings_40 : decode cX11_withThings 40 = .ok (.iand, 1) := by decide +kernel
theorem dX11_withThings_41 : decode cX11_withThings 41 = .ok (.aload_n 0, 1) := by decide +kernel
theorem dX11_withThings_42 : decode cX11_withThings 42 = .ok (.aload_n 0, 1) := by decide +kernel
theorem dX11_withThings_43 : decode cX11_withThings 43 = .ok (.getfield 16, 3) := by decide +kernel
theorem dX11_withThings_46 : decode cX11_withThings 46 = .ok (.iload_n 1, 1) := by decide +kernel
theorem dX11_withThings_47 : decode cX11_withThings 47 = .ok (.iaload, 1) := by decide +kernel
theorem dX11_withThings_48 : decode cX11_withThings 48 = .ok (.iconst 3, 1) := by decide +kernel
theorem dX11_withThings_49 : decode cX11_withThings 49 = .ok (.iand, 1) := by decide +kernel
theorem dX11_withThings_50 : decode cX11_withThings 50 = .ok (.aload_n 0, 1) := by decide +kernel
theorem dX11_withThings_51 : decode cX11_withThings 51 = .ok (.getfield 43, 3) := by decide +kernel
theorem dX11_withThings_54 : decode cX11_withThings 54 = .ok (.aload_n 0, 1) := by decide +kernel
theorem dX11_withThings_55 : decode cX11_withThings 55 = .ok (.getfield 19, 3) := by decide +kernel
theorem dX11_withThings_58 : decode cX11_withThings 58 = .ok (.iload_n 1, 1) := by decide +kernel
theorem dX11_withThings_59 : decode cX11_withThings 59 = .ok (.iaload, 1) := by decide +kernel
theorem dX11_withThings_60 : decode cX11_withThings 60 = .ok (.bipush 7, 2) := by decide +kernel
theorem dX11_withThings_62 : decode cX11_withThings 62 = .ok (.iand, 1) := by decide +kernel
theorem dX11_withThings_63 : decode cX11_withThings 63 = .ok (.laload, 1) := by decide +kernel
theorem dX11_withThings_64 : decode cX11_withThings 64 = .ok (.invokevirtual 298, 3) := by decide +kernel
theorem dX11_withThings_67 : decode cX11_withThings 67 = .ok (.iastore, 1) := by decide +kernel
theorem dX11_withThings_68 : decode cX11_withThings 68 = .ok (.iconst 0, 1) := by decide +kernel
theorem dX11_withThings_69 : decode cX11_withThings 69 = .ok (.ireturn, 1) := by decide +kernel
theorem dX11_withThings_70 : decode cX11_withThings 70 = .ok (.iload_n 2, 1) := by decide +kernel
theorem dX11_withThings_71 : decode cX11_withThings 71 = .ok (.bipush 15, 2) := by decide +kernel
theorem dX11_withThings_73 : decode cX11_withThings 73 = .ok (.if_icmp .ne 20, 3) := by decide +kernel
theorem dX11_withThings_76 : decode cX11_withThings 76 = .ok (.aload_n 0, 1) := by decide +kernel
theorem dX11_withThings_77 : decode cX11_withThings 77 = .ok (.getfield 47, 3) := by decide +kernel
theorem dX11_withThings_80 : decode cX11_withThings 80 = .ok (.aload_n 0, 1) := by decide +kernel
theorem dX11_withThings_81 : decode cX11_withThings 81 = .ok (.getfield 16, 3) := by decide +kernel
theorem dX11_withThings_84 : decode cX11_withThings 84 = .ok (.iload_n 1, 1) := by decide +kernel
theorem dX11_withThings_85 : decode cX11_withThings 85 = .ok (.iaload, 1) := by decide +kernel
theorem dX11_withThings_86 : decode cX11_withThings 86 = .ok (.bipush 7, 2) := by decide +kernel
theorem dX11_withThings_88 : decode cX11_withThings 88 = .ok (.iand, 1) := by decide +kernel
theorem dX11_withThings_89 : decode cX11_withThings 89 = .ok (.iload_n 3, 1) := by decide +kernel
theorem dX11_withThings_90 : decode cX11_withThings 90 = .ok (.iastore, 1) := by decide +kernel
theorem dX11_withThings_91 : decode cX11_withThings 91 = .ok (.iconst 0, 1) := by decide +kernel
theorem dX11_withThings_92 : decode cX11_withThings 92 = .ok (.ireturn, 1) := by decide +kernel
theorem dX11_withThings_93 : decode cX11_withThings 93 = .ok (.iload_n 2, 1) := by decide +kernel
theorem dX11_withThings_94 : decode cX11_withThings 94 = .ok (.bipush 18, 2) := by decide +kernel
theorem dX11_withThings_96 : decode cX11_withThings 96 = .ok (.if_icmp .ne 10, 3) := by decide +kernel
theorem dX11_withThings_99 : decode cX11_withThings 99 = .ok (.aload_n 0, 1) := by decide +kernel
theorem dX11_withThings_100 : decode cX11_withThings 100 = .ok (.iload_n 1, 1) := by decide +kernel
theorem dX11_withThings_101 : decode cX11_withThings 101 = .ok (.iload_n 3, 1) := by decide +kernel
theorem dX11_withThings_102 : decode cX11_withThings 102 = .ok (.invokevirtual 302, 3) := by decide +kernel
theorem dX11_withThings_105 : decode cX11_withThings 105 = .ok (.ireturn, 1) := by decide +kernel
theorem dX11_withThings_106 : decode cX11_withThings 106 = .ok (.iload_n 3, 1) := by decide +kernel
theorem dX11_withThings_107 : decode cX11_withThings 107 = .ok (.ifCond .ne 6, 3) := by decide +kernel
theorem dX11_withThings_110 : decode cX11_withThings 110 = .ok (.bipush 7, 2) := by decide +kernel
theorem dX11_withThings_112 : decode cX11_withThings 112 = .ok (.ireturn, 1) := by decide +kernel
theorem dX11_withThings_113 : decode cX11_withThings 113 = .ok (.iload_n 2, 1) := by decide +kernel
theorem dX11_withThings_114 : decode cX11_withThings 114 = .ok (.bipush 16, 2) := by decide +kernel
theorem dX11_withThings_116 : decode cX11_withThings 116 = .ok (.if_icmp .ne 26, 3) := by decide +kernel
theorem dX11_withThings_119 : decode cX11_withThings 119 = .ok (.aload_n 0, 1) := by decide +kernel
theorem dX11_withThings_120 : decode cX11_withThings 120 = .ok (.getfield 43, 3) := by decide +kernel
theorem dX11_withThings_123 : decode cX11_withThings 123 = .ok (.aload_n 0, 1) := by decide +kernel
theorem dX11_withThings_124 : decode cX11_withThings 124 = .ok (.getfield 16, 3) := by decide +kernel
theorem dX11_withThings_127 : decode cX11_withThings 127 = .ok (.iload_n 1, 1) := by decide +kernel
theorem dX11_withThings_128 : decode cX11_withThings 128 = .ok (.iaload, 1) := by decide +kernel
theorem dX11_withThings_129 : decode cX11_withThings 129 = .ok (.bipush 7, 2) := by decide +kernel
theorem dX11_withThings_131 : decode cX11_withThings 131 = .ok (.iand, 1) := by decide +kernel
theorem dX11_withThings_132 : decode cX11_withThings 132 = .ok (.aload_n 0, 1) := by decide +kernel
theorem dX11_withThings_133 : decode cX11_withThings 133 = .ok (.getfield 53, 3) := by decide +kernel
theorem dX11_withThings_136 : decode cX11_withThings 136 = .ok (.iload_n 3, 1) := by decide +kernel
theorem dX11_withThings_137 : decode cX11_withThings 137 = .ok (.laload, 1) := by decide +kernel
theorem dX11_withThings_138 : decode cX11_withThings 138 = .ok (.lastore, 1) := by decide +kernel
theorem dX11_withThings_139 : decode cX11_withThings 139 = .ok (.goto 40, 3) := by decide +kernel
theorem dX11_withThings_142 : decode cX11_withThings 142 = .ok (.iload_n 2, 1) := by decide +kernel
theorem dX11_withThings_143 : decode cX11_withThings 143 = .ok (.bipush 17, 2) := by decide +kernel
theorem dX11_withThings_145 : decode cX11_withThings 145 = .ok (.if_icmp .ne 26, 3) := by decide +kernel
theorem dX11_withThings_148 : decode cX11_withThings 148 = .ok (.aload_n 0, 1) := by decide +kernel
theorem dX11_withThings_149 : decode cX11_withThings 149 = .ok (.getfield 53, 3) := by decide +kernel
theorem dX11_withThings_152 : decode cX11_withThings 152 = .ok (.iload_n 3, 1) := by decide +kernel
theorem dX11_withThings_153 : decode cX11_withThings 153 = .ok (.aload_n 0, 1) := by decide +kernel
theorem dX11_withThings_154 : decode cX11_withThings 154 = .ok (.getfield 43, 3) := by decide +kernel
theorem dX11_withThings_157 : decode cX11_withThings 157 = .ok (.aload_n 0, 1) := by decide +kernel
theorem dX11_withThings_158 : decode cX11_withThings 158 = .ok (.getfield 16, 3) := by decide +kernel
theorem dX11_withThings_161 : decode cX11_withThings 161 = .ok (.iload_n 1, 1) := by decide +kernel
theorem dX11_withThings_162 : decode cX11_withThings 162 = .ok (.iaload, 1) := by decide +kernel
theorem dX11_withThings_163 : decode cX11_withThings 163 = .ok (.bipush 7, 2) := by decide +kernel
theorem dX11_withThings_165 : decode cX11_withThings 165 = .ok (.iand, 1) := by decide +kernel
theorem dX11_withThings_166 : decode cX11_withThings 166 = .ok (.laload, 1) := by decide +kernel
theorem dX11_withThings_167 : decode cX11_withThings 167 = .ok (.lastore, 1) := by decide +kernel
theorem dX11_withThings_168 : decode cX11_withThings 168 = .ok (.goto 11, 3) := by decide +kernel
theorem dX11_withThings_171 : decode cX11_withThings 171 = .ok (.aload_n 0, 1) := by decide +kernel
theorem dX11_withThings_172 : decode cX11_withThings 172 = .ok (.iload_n 1, 1) := by decide +kernel
theorem dX11_withThings_173 : decode cX11_withThings 173 = .ok (.iload_n 2, 1) := by decide +kernel
theorem dX11_withThings_174 : decode cX11_withThings 174 = .ok (.iload_n 3, 1) := by decide +kernel
theorem dX11_withThings_175 : decode cX11_withThings 175 = .ok (.invokevirtual 305, 3) := by decide +kernel
theorem dX11_withThings_178 : decode cX11_withThings 178 = .ok (.ireturn, 1) := by decide +kernel
theorem dX11_withThings_179 : decode cX11_withThings 179 = .ok (.iconst 0, 1) := by decide +kernel
theorem dX11_withThings_180 : decode cX11_withThings 180 = .ok (.ireturn, 1) := by decide +kernel
theorem dX11_newThing_0 : decode cX11_newThing 0 = .ok (.iload_n 1, 1) := by decide +kernel
theorem dX11_newThing_1 : decode cX11_newThing 1 = .ok (.iconst 3, 1) := by decide +kernel
theorem dX11_newThing_2 : decode cX11_newThing 2 = .ok (.if_icmp .ne 5, 3) := by decide +kernel
theorem dX11_newThing_5 : decode cX11_newThing 5 = .ok (.iconst 0, 1) := by decide +kernel
theorem dX11_newThing_6 : decode cX11_newThing 6 = .ok (.ireturn, 1) := by decide +kernel
theorem dX11_newThing_7 : decode cX11_newThing 7 = .ok (.aload_n 0, 1) := by decide +kernel
theorem dX11_newThing_8 : decode cX11_newThing 8 = .ok (.dup, 1) := by decide +kernel
theorem dX11_newThing_9 : decode cX11_newThing 9 = .ok (.getfield 308, 3) := by decide +kernel
theorem dX11_newThing_12 : decode cX11_newThing 12 = .ok (.iconst 1, 1) := by decide +kernel
theorem dX11_newThing_13 : decode cX11_newThing 13 = .ok (.iadd, 1) := by decide +kernel
theorem dX11_newThing_14 : decode cX11_newThing 14 = .ok (.putfield 308, 3) := by decide +kernel
theorem dX11_newThing_17 : decode cX11_newThing 17 = .ok (.aload_n 0, 1) := by decide +kernel
theorem dX11_newThing_18 : decode cX11_newThing 18 = .ok (.getfield 50, 3) := by decide +kernel
theorem dX11_newThing_21 : decode cX11_newThing 21 = .ok (.aload_n 0, 1) := by decide +kernel
theorem dX11_newThing_22 : decode cX11_newThing 22 = .ok (.getfield 308, 3) := by decide +kernel
theorem dX11_newThing_25 : decode cX11_newThing 25 = .ok (.iload_n 1, 1) := by decide +kernel
theorem dX11_newThing_26 : decode cX11_newThing 26 = .ok (.iastore, 1) := by decide +kernel
theorem dX11_newThing_27 : decode cX11_newThing 27 = .ok (.aload_n 0, 1) := by decide +kernel
theorem dX11_newThing_28 : decode cX11_newThing 28 = .ok (.getfield 53, 3) := by decide +kernel
theorem dX11_newThing_31 : decode cX11_newThing 31 = .ok (.aload_n 0, 1) := by decide +kernel
theorem dX11_newThing_32 : decode cX11_newThing 32 = .ok (.getfield 308, 3) := by decide +kernel
theorem dX11_newThing_35 : decode cX11_newThing 35 = .ok (.lload_n 2, 1) := by decide +kernel
theorem dX11_newThing_36 : decode cX11_newThing 36 = .ok (.lastore, 1) := by decide +kernel
theorem dX11_newThing_37 : decode cX11_newThing 37 = .ok (.aload_n 0, 1) := by decide +kernel
theorem dX11_newThing_38 : decode cX11_newThing 38 = .ok (.getfield 308, 3) := by decide +kernel
theorem dX11_newThing_41 : decode cX11_newThing 41 = .ok (.ireturn, 1) := by decide +kernel
theorem dX11_casts_0 : decode cX11_casts 0 = .ok (.iload_n 2, 1) := by decide +kernel
theorem dX11_casts_1 : decode cX11_casts 1 = .ok (.ifCond .ne 7, 3) := by decide +kernel
theorem dX11_casts_4 : decode cX11_casts 4 = .ok (.iconst (-1), 1) := by decide +kernel
theorem dX11_casts_5 : decode cX11_casts 5 = .ok (.goto 9, 3) := by decide +kernel
theorem dX11_casts_8 : decode cX11_casts 8 = .ok (.aload_n 0, 1) := by decide +kernel
theorem dX11_casts_9 : decode cX11_casts 9 = .ok (.getfield 50, 3) := by decide +kernel
theorem dX11_casts_12 : decode cX11_casts 12 = .ok (.iload_n 2, 1) := by decide +kernel
theorem dX11_casts_13 : decode cX11_casts 13 = .ok (.iaload, 1) := by decide +kernel
theorem dX11_casts_14 : decode cX11_casts 14 = .ok (.istore_n 3, 1) := by decide +kernel
theorem dX11_casts_15 : decode cX11_casts 15 = .ok (.aload_n 0, 1) := by decide +kernel
theorem dX11_casts_16 : decode cX11_casts 16 = .ok (.getfield 16, 3) := by decide +kernel
theorem dX11_casts_19 : decode cX11_casts 19 = .ok (.iload_n 1, 1) := by decide +kernel
theorem dX11_casts_20 : decode cX11_casts 20 = .ok (.iaload, 1) := by decide +kernel
theorem dX11_casts_21 : decode cX11_casts 21 = .ok (.iconst 3, 1) := by decide +kernel
theorem dX11_casts_22 : decode cX11_casts 22 = .ok (.iand, 1) := by decide +kernel
theorem dX11_casts_23 : decode cX11_casts 23 = .ok (.istore 4, 2) := by decide +kernel
theorem dX11_casts_25 : decode cX11_casts 25 = .ok (.iload_n 3, 1) := by decide +kernel
theorem dX11_casts_26 : decode cX11_casts 26 = .ok (.ifCond .lt 30, 3) := by decide +kernel
theorem dX11_casts_29 : decode cX11_casts 29 = .ok (.iload_n 3, 1) := by decide +kernel
theorem dX11_casts_30 : decode cX11_casts 30 = .ok (.iload 4, 2) := by decide +kernel
theorem dX11_casts_32 : decode cX11_casts 32 = .ok (.if_icmp .eq 24, 3) := by decide +kernel
theorem dX11_casts_35 : decode cX11_casts 35 = .ok (.iload_n 3, 1) := by decide +kernel
theorem dX11_casts_36 : decode cX11_casts 36 = .ok (.iconst 2, 1) := by decide +kernel
theorem dX11_casts_37 : decode cX11_casts 37 = .ok (.if_icmp .ne 9, 3) := by decide +kernel
theorem dX11_casts_40 : decode cX11_casts 40 = .ok (.iload 4, 2) := by decide +kernel
theorem dX11_casts_42 : decode cX11_casts 42 = .ok (.iconst 1, 1) := by decide +kernel
theorem dX11_casts_43 : decode cX11_casts 43 = .ok (.if_icmp .eq 13, 3) := by decide +kernel
theorem dX11_casts_46 : decode cX11_casts 46 = .ok (.iload_n 3, 1) := by decide +kernel
theorem dX11_casts_47 : decode cX11_casts 47 = .ok (.ifCond .le 13, 3) := by decide +kernel
theorem dX11_casts_50 : decode cX11_casts 50 = .ok (.iload 4, 2) := by decide +kernel
theorem dX11_casts_52 : decode cX11_casts 52 = .ok (.iconst 3, 1) := by decide +kernel
theorem dX11_casts_53 : decode cX11_casts 53 = .ok (.if_icmp .ne 7, 3) := by decide +kernel
theorem dX11_casts_56 : decode cX11_casts 56 = .ok (.iconst 1, 1) := by decide +kernel
theorem dX11_casts_57 : decode cX11_casts 57 = .ok (.goto 4, 3) := by decide +kernel
theorem dX11_casts_60 : decode cX11_casts 60 = .ok (.iconst 0, 1) := by decide +kernel
theorem dX11_casts_61 : decode cX11_casts 61 = .ok (.istore 5, 2) := by decide +kernel
theorem dX11_casts_63 : decode cX11_casts 63 = .ok (.iload 5, 2) := by decide +kernel
theorem dX11_casts_65 : decode cX11_casts 65 = .ok (.ifCond .ne 6, 3) := by decide +kernel
theorem dX11_casts_68 : decode cX11_casts 68 = .ok (.bipush 9, 2) := by decide +kernel
theorem dX11_casts_70 : decode cX11_casts 70 = .ok (.ireturn, 1) := by decide +kernel
theorem dX11_casts_71 : decode cX11_casts 71 = .ok (.aload_n 0, 1) := by decide +kernel
theorem dX11_casts_72 : decode cX11_casts 72 = .ok (.getfield 47, 3) := by decide +kernel
theorem dX11_casts_75 : decode cX11_casts 75 = .ok (.aload_n 0, 1) := by decide +kernel
theorem dX11_casts_76 : decode cX11_casts 76 = .ok (.getfield 19, 3) := by decide +kernel
theorem dX11_casts_79 : decode cX11_casts 79 = .ok (.iload_n 1, 1) := by decide +kernel
theorem dX11_casts_80 : decode cX11_casts 80 = .ok (.iaload, 1) := by decide +kernel
theorem dX11_casts_81 : decode cX11_casts 81 = .ok (.bipush 7, 2) := by decide +kernel
theorem dX11_casts_83 : decode cX11_casts 83 = .ok (.iand, 1) := by decide +kernel
theorem dX11_casts_84 : decode cX11_casts 84 = .ok (.iload_n 2, 1) := by decide +kernel
theorem dX11_casts_85 : decode cX11_casts 85 = .ok (.iastore, 1) := by decide +kernel
theorem dX11_casts_86 : decode cX11_casts 86 = .ok (.iconst 0, 1) := by decide +kernel
theorem dX11_casts_87 : decode cX11_casts 87 = .ok (.ireturn, 1) := by decide +kernel
theorem dX11_makesOf_0 : decode cX11_makesOf 0 = .ok (.aload_n 0, 1) := by decide +kernel
theorem dX11_makesOf_1 : decode cX11_makesOf 1 = .ok (.getfield 43, 3) := by decide +kernel
theorem dX11_makesOf_4 : decode cX11_makesOf 4 = .ok (.aload_n 0, 1) := by decide +kernel
theorem dX11_makesOf_5 : decode cX11_makesOf 5 = .ok (.getfield 16, 3) := by decide +kernel
theorem dX11_makesOf_8 : decode cX11_makesOf 8 = .ok (.iload_n 1, 1) := by decide +kernel
theorem dX11_makesOf_9 : decode cX11_makesOf 9 = .ok (.iaload, 1) := by decide +kernel
theorem dX11_makesOf_10 : decode cX11_makesOf 10 = .ok (.bipush 7, 2) := by decide +kernel
theorem dX11_makesOf_12 : decode cX11_makesOf 12 = .ok (.iand, 1) := by decide +kernel
theorem dX11_makesOf_13 : decode cX11_makesOf 13 = .ok (.laload, 1) := by decide +kernel
theorem dX11_makesOf_14 : decode cX11_makesOf 14 = .ok (.lstore 4, 2) := by decide +kernel
theorem dX11_makesOf_16 : decode cX11_makesOf 16 = .ok (.aload_n 0, 1) := by decide +kernel
theorem dX11_makesOf_17 : decode cX11_makesOf 17 = .ok (.getfield 53, 3) := by decide +kernel
theorem dX11_makesOf_20 : decode cX11_makesOf 20 = .ok (.iload_n 3, 1) := by decide +kernel
theorem dX11_makesOf_21 : decode cX11_makesOf 21 = .ok (.laload, 1) := by decide +kernel
theorem dX11_makesOf_22 : decode cX11_makesOf 22 = .ok (.lstore 6, 2) := by decide +kernel
theorem dX11_makesOf_24 : decode cX11_makesOf 24 = .ok (.aload_n 0, 1) := by decide +kernel
theorem dX11_makesOf_25 : decode cX11_makesOf 25 = .ok (.getfield 50, 3) := by decide +kernel
theorem dX11_makesOf_28 : decode cX11_makesOf 28 = .ok (.iload_n 3, 1) := by decide +kernel
theorem dX11_makesOf_29 : decode cX11_makesOf 29 = .ok (.iaload, 1) := by decide +kernel
theorem dX11_makesOf_30 : decode cX11_makesOf 30 = .ok (.istore 8, 2) := by decide +kernel
theorem dX11_makesOf_32 : decode cX11_makesOf 32 = .ok (.iload_n 2, 1) := by decide +kernel
theorem dX11_makesOf_33 : decode cX11_makesOf 33 = .ok (.bipush 20, 2) := by decide +kernel
theorem dX11_makesOf_35 : decode cX11_makesOf 35 = .ok (.if_icmp .ne 11, 3) := by decide +kernel
theorem dX11_makesOf_38 : decode cX11_makesOf 38 = .ok (.iload 8, 2) := by decide +kernel
theorem dX11_makesOf_40 : decode cX11_makesOf 40 = .ok (.ifCond .ne 6, 3) := by decide +kernel
theorem dX11_makesOf_43 : decode cX11_makesOf 43 = .ok (.bipush 9, 2) := by decide +kernel
theorem dX11_makesOf_45 : decode cX11_makesOf 45 = .ok (.ireturn, 1) := by decide +kernel
theorem dX11_makesOf_46 : decode cX11_makesOf 46 = .ok (.ldc2_w 311, 3) := by decide +kernel
theorem dX11_makesOf_49 : decode cX11_makesOf 49 = .ok (.lload 4, 2) := by decide +kernel
theorem dX11_makesOf_51 : decode cX11_makesOf 51 = .ok (.lmul, 1) := by decide +kernel
theorem dX11_makesOf_52 : decode cX11_makesOf 52 = .ok (.lload 6, 2) := by decide +kernel
theorem dX11_makesOf_54 : decode cX11_makesOf 54 = .ok (.ladd, 1) := by decide +kernel
theorem dX11_makesOf_55 : decode cX11_makesOf 55 = .ok (.lstore 9, 2) := by decide +kernel
theorem dX11_makesOf_57 : decode cX11_makesOf 57 = .ok (.iload_n 2, 1) := by decide +kernel
theorem dX11_makesOf_58 : decode cX11_makesOf 58 = .ok (.bipush 19, 2) := by decide +kernel
theorem dX11_makesOf_60 : decode cX11_makesOf 60 = .ok (.if_icmp .ne 44, 3) := by decide +kernel
theorem dX11_makesOf_63 : decode cX11_makesOf 63 = .ok (.iload 8, 2) := by decide +kernel
theorem dX11_makesOf_65 : decode cX11_makesOf 65 = .ok (.ifCond .ne 11, 3) := by decide +kernel
theorem dX11_makesOf_68 : decode cX11_makesOf 68 = .ok (.lload 6, 2) := by decide +kernel
theorem dX11_makesOf_70 : decode cX11_makesOf 70 = .ok (.lload 4, 2) := by decide +kernel
theorem dX11_makesOf_72 : decode cX11_makesOf 72 = .ok (.ladd, 1) := by decide +kernel
theorem dX11_makesOf_73 : decode cX11_makesOf 73 = .ok (.goto 26, 3) := by decide +kernel
theorem dX11_makesOf_76 : decode cX11_makesOf 76 = .ok (.iload 8, 2) := by decide +kernel
theorem dX11_makesOf_78 : decode cX11_makesOf 78 = .ok (.iconst 1, 1) := by decide +kernel
theorem dX11_makesOf_79 : decode cX11_makesOf 79 = .ok (.if_icmp .ne 11, 3) := by decide +kernel
theorem dX11_makesOf_82 : decode cX11_makesOf 82 = .ok (.lload 6, 2) := by decide +kernel
theorem dX11_makesOf_84 : decode cX11_makesOf 84 = .ok (.lload 4, 2) := by decide +kernel
theorem dX11_makesOf_86 : decode cX11_makesOf 86 = .ok (.lsub, 1) := by decide +kernel
theorem dX11_makesOf_87 : decode cX11_makesOf 87 = .ok (.goto 12, 3) := by decide +kernel
theorem dX11_makesOf_90 : decode cX11_makesOf 90 = .ok (.ldc2_w 313, 3) := by decide +kernel
theorem dX11_makesOf_93 : decode cX11_makesOf 93 = .ok (.lload 6, 2) := by decide +kernel
theorem dX11_makesOf_95 : decode cX11_makesOf 95 = .ok (.lload 4, 2) := by decide +kernel
theorem dX11_makesOf_97 : decode cX11_makesOf 97 = .ok (.lsub, 1) := by decide +kernel
theorem dX11_makesOf_98 : decode cX11_makesOf 98 = .ok (.lmul, 1) := by decide +kernel
theorem dX11_makesOf_99 : decode cX11_makesOf 99 = .ok (.lstore 9, 2) := by decide +kernel
theorem dX11_makesOf_101 : decode cX11_makesOf 101 = .ok (.goto 28, 3) := by decide +kernel
theorem dX11_makesOf_104 : decode cX11_makesOf 104 = .ok (.iload_n 2, 1) := by decide +kernel
theorem dX11_makesOf_105 : decode cX11_makesOf 105 = .ok (.bipush 20, 2) := by decide +kernel
theorem dX11_makesOf_107 : decode cX11_makesOf 107 = .ok (.if_icmp .ne 22, 3) := by decide +kernel
theorem dX11_makesOf_110 : decode cX11_makesOf 110 = .ok (.lload 6, 2) := by decide +kernel
theorem dX11_makesOf_112 : decode cX11_makesOf 112 = .ok (.lload 4, 2) := by decide +kernel
theorem dX11_makesOf_114 : decode cX11_makesOf 114 = .ok (.lxor, 1) := by decide +kernel
theorem dX11_makesOf_115 : decode cX11_makesOf 115 = .ok (.iload 8, 2) := by decide +kernel
theorem dX11_makesOf_117 : decode cX11_makesOf 117 = .ok (.iconst 2, 1) := by decide +kernel
theorem dX11_makesOf_118 : decode cX11_makesOf 118 = .ok (.if_icmp .ne 7, 3) := by decide +kernel
theorem dX11_makesOf_121 : decode cX11_makesOf 121 = .ok (.lconst 1, 1) := by decide +kernel
theorem dX11_makesOf_122 : decode cX11_makesOf 122 = .ok (.goto 4, 3) := by decide +kernel
theorem dX11_makesOf_125 : decode cX11_makesOf 125 = .ok (.lconst 0, 1) := by decide +kernel
theorem dX11_makesOf_126 : decode cX11_makesOf 126 = .ok (.ladd, 1) := by decide +kernel
theorem dX11_makesOf_127 : decode cX11_makesOf 127 = .ok (.lstore 9, 2) := by decide +kernel
theorem dX11_makesOf_129 : decode cX11_makesOf 129 = .ok (.aload_n 0, 1) := by decide +kernel
theorem dX11_makesOf_130 : decode cX11_makesOf 130 = .ok (.getfield 43, 3) := by decide +kernel
theorem dX11_makesOf_133 : decode cX11_makesOf 133 = .ok (.aload_n 0, 1) := by decide +kernel
theorem dX11_makesOf_134 : decode cX11_makesOf 134 = .ok (.getfield 19, 3) := by decide +kernel
theorem dX11_makesOf_137 : decode cX11_makesOf 137 = .ok (.iload_n 1, 1) := by decide +kernel
theorem dX11_makesOf_138 : decode cX11_makesOf 138 = .ok (.iaload, 1) := by decide +kernel
theorem dX11_makesOf_139 : decode cX11_makesOf 139 = .ok (.bipush 7, 2) := by decide +kernel
theorem dX11_makesOf_141 : decode cX11_makesOf 141 = .ok (.iand, 1) := by decide +kernel
theorem dX11_makesOf_142 : decode cX11_makesOf 142 = .ok (.lload 9, 2) := by decide +kernel
theorem dX11_makesOf_144 : decode cX11_makesOf 144 = .ok (.lastore, 1) := by decide +kernel
theorem dX11_makesOf_145 : decode cX11_makesOf 145 = .ok (.iconst 0, 1) := by decide +kernel
theorem dX11_makesOf_146 : decode cX11_makesOf 146 = .ok (.ireturn, 1) := by decide +kernel
theorem dX11_throwsAt_0 : decode cX11_throwsAt 0 = .ok (.aload_n 0, 1) := by decide +kernel
theorem dX11_throwsAt_1 : decode cX11_throwsAt 1 = .ok (.getfield 7, 3) := by decide +kernel
theorem dX11_throwsAt_4 : decode cX11_throwsAt 4 = .ok (.iload_n 1, 1) := by decide +kernel
theorem dX11_throwsAt_5 : decode cX11_throwsAt 5 = .ok (.iaload, 1) := by decide +kernel
theorem dX11_throwsAt_6 : decode cX11_throwsAt 6 = .ok (.bipush 23, 2) := by decide +kernel
theorem dX11_throwsAt_8 : decode cX11_throwsAt 8 = .ok (.if_icmp .ne 6, 3) := by decide +kernel
theorem dX11_throwsAt_11 : decode cX11_throwsAt 11 = .ok (.bipush 7, 2) := by decide +kernel
theorem dX11_throwsAt_13 : decode cX11_throwsAt 13 = .ok (.ireturn, 1) := by decide +kernel
theorem dX11_throwsAt_14 : decode cX11_throwsAt 14 = .ok (.aload_n 0, 1) := by decide +kernel
theorem dX11_throwsAt_15 : decode cX11_throwsAt 15 = .ok (.getfield 7, 3) := by decide +kernel
theorem dX11_throwsAt_18 : decode cX11_throwsAt 18 = .ok (.iload_n 1, 1) := by decide +kernel
theorem dX11_throwsAt_19 : decode cX11_throwsAt 19 = .ok (.iaload, 1) := by decide +kernel
theorem dX11_throwsAt_20 : decode cX11_throwsAt 20 = .ok (.bipush 22, 2) := by decide +kernel
theorem dX11_throwsAt_22 : decode cX11_throwsAt 22 = .ok (.if_icmp .ne 14, 3) := by decide +kernel
theorem dX11_throwsAt_25 : decode cX11_throwsAt 25 = .ok (.aload_n 0, 1) := by decide +kernel
theorem dX11_throwsAt_26 : decode cX11_throwsAt 26 = .ok (.getfield 13, 3) := by decide +kernel
theorem dX11_throwsAt_29 : decode cX11_throwsAt 29 = .ok (.iload_n 1, 1) := by decide +kernel
theorem dX11_throwsAt_30 : decode cX11_throwsAt 30 = .ok (.iaload, 1) := by decide +kernel
theorem dX11_throwsAt_31 : decode cX11_throwsAt 31 = .ok (.iconst 3, 1) := by decide +kernel
theorem dX11_throwsAt_32 : decode cX11_throwsAt 32 = .ok (.iand, 1) := by decide +kernel
theorem dX11_throwsAt_33 : decode cX11_throwsAt 33 = .ok (.iconst 1, 1) := by decide +kernel
theorem dX11_throwsAt_34 : decode cX11_throwsAt 34 = .ok (.iadd, 1) := by decide +kernel
theorem dX11_throwsAt_35 : decode cX11_throwsAt 35 = .ok (.ireturn, 1) := by decide +kernel
theorem dX11_throwsAt_36 : decode cX11_throwsAt 36 = .ok (.iconst 0, 1) := by decide +kernel
theorem dX11_throwsAt_37 : decode cX11_throwsAt 37 = .ok (.istore_n 2, 1) := by decide +kernel
theorem dX11_throwsAt_38 : decode cX11_throwsAt 38 = .ok (.aload_n 0, 1) := by decide +kernel
theorem dX11_throwsAt_39 : decode cX11_throwsAt 39 = .ok (.getfield 156, 3) := by decide +kernel
theorem dX11_throwsAt_42 : decode cX11_throwsAt 42 = .ok (.iconst 1, 1) := by decide +kernel
theorem dX11_throwsAt_43 : decode cX11_throwsAt 43 = .ok (.isub, 1) := by decide +kernel
theorem dX11_throwsAt_44 : decode cX11_throwsAt 44 = .ok (.istore_n 3, 1) := by decide +kernel
theorem dX11_throwsAt_45 : decode cX11_throwsAt 45 = .ok (.iload_n 3, 1) := by decide +kernel
theorem dX11_throwsAt_46 : decode cX11_throwsAt 46 = .ok (.ifCond .lt 44, 3) := by decide +kernel
theorem dX11_throwsAt_49 : decode cX11_throwsAt 49 = .ok (.iload_n 2, 1) := by decide +kernel
theorem dX11_throwsAt_50 : decode cX11_throwsAt 50 = .ok (.ifCond .ne 40, 3) := by decide +kernel
theorem dX11_throwsAt_53 : decode cX11_throwsAt 53 = .ok (.aload_n 0, 1) := by decide +kernel
theorem dX11_throwsAt_54 : decode cX11_throwsAt 54 = .ok (.getfield 69, 3) := by decide +kernel
theorem dX11_throwsAt_57 : decode cX11_throwsAt 57 = .ok (.iload_n 3, 1) := by decide +kernel
theorem dX11_throwsAt_58 : decode cX11_throwsAt 58 = .ok (.iaload, 1) := by decide +kernel
theorem dX11_throwsAt_59 : decode cX11_throwsAt 59 = .ok (.iconst 1, 1) := by decide +kernel
theorem dX11_throwsAt_60 : decode cX11_throwsAt 60 = .ok (.if_icmp .ne 22, 3) := by decide +kernel
theorem dX11_throwsAt_63 : decode cX11_throwsAt 63 = .ok (.aload_n 0, 1) := by decide +kernel
theorem dX11_throwsAt_64 : decode cX11_throwsAt 64 = .ok (.getfield 78, 3) := by decide +kernel
theorem dX11_throwsAt_67 : decode cX11_throwsAt 67 = .ok (.iload_n 3, 1) := by decide +kernel
theorem dX11_throwsAt_68 : decode cX11_throwsAt 68 = .ok (.iaload, 1) := by decide +kernel
theorem dX11_throwsAt_69 : decode cX11_throwsAt 69 = .ok (.iconst 1, 1) := by decide +kernel
theorem dX11_throwsAt_70 : decode cX11_throwsAt 70 = .ok (.if_icmp .ne 12, 3) := by decide +kernel
theorem dX11_throwsAt_73 : decode cX11_throwsAt 73 = .ok (.aload_n 0, 1) := by decide +kernel
theorem dX11_throwsAt_74 : decode cX11_throwsAt 74 = .ok (.getfield 81, 3) := by decide +kernel
theorem dX11_throwsAt_77 : decode cX11_throwsAt 77 = .ok (.iload_n 3, 1) := by decide +kernel
theorem dX11_throwsAt_78 : decode cX11_throwsAt 78 = .ok (.iaload, 1) := by decide +kernel
theorem dX11_throwsAt_79 : decode cX11_throwsAt 79 = .ok (.goto 4, 3) := by decide +kernel
theorem dX11_throwsAt_82 : decode cX11_throwsAt 82 = .ok (.iconst 0, 1) := by decide +kernel
theorem dX11_throwsAt_83 : decode cX11_throwsAt 83 = .ok (.istore_n 2, 1) := by decide +kernel
theorem dX11_throwsAt_84 : decode cX11_throwsAt 84 = .ok (.iinc 3 (-1), 3) := by decide +kernel
theorem dX11_throwsAt_87 : decode cX11_throwsAt 87 = .ok (.goto (-42), 3) := by decide +kernel
theorem dX11_throwsAt_90 : decode cX11_throwsAt 90 = .ok (.aload_n 0, 1) := by decide +kernel
theorem dX11_throwsAt_91 : decode cX11_throwsAt 91 = .ok (.aload_n 0, 1) := by decide +kernel
theorem dX11_throwsAt_92 : decode cX11_throwsAt 92 = .ok (.getfield 13, 3) := by decide +kernel
theorem dX11_throwsAt_95 : decode cX11_throwsAt 95 = .ok (.iload_n 1, 1) := by decide +kernel
theorem dX11_throwsAt_96 : decode cX11_throwsAt 96 = .ok (.iaload, 1) := by decide +kernel
theorem dX11_throwsAt_97 : decode cX11_throwsAt 97 = .ok (.iconst 3, 1) := by decide +kernel
theorem dX11_throwsAt_98 : decode cX11_throwsAt 98 = .ok (.iand, 1) := by decide +kernel
theorem dX11_throwsAt_99 : decode cX11_throwsAt 99 = .ok (.iload_n 2, 1) := by decide +kernel
theorem dX11_throwsAt_100 : decode cX11_throwsAt 100 = .ok (.invokevirtual 229, 3) := by decide +kernel
theorem dX11_throwsAt_103 : decode cX11_throwsAt 103 = .ok (.iconst (-1), 1) := by decide +kernel
theorem dX11_throwsAt_104 : decode cX11_throwsAt 104 = .ok (.ireturn, 1) := by decide +kernel
theorem dX11_end_0 : decode cX11_end 0 = .ok (.aload_n 0, 1) := by decide +kernel
theorem dX11_end_1 : decode cX11_end 1 = .ok (.getfield 99, 3) := by decide +kernel
theorem dX11_end_4 : decode cX11_end 4 = .ok (.ireturn, 1) := by decide +kernel
theorem dX11_result_0 : decode cX11_result 0 = .ok (.aload_n 0, 1) := by decide +kernel
theorem dX11_result_1 : decode cX11_result 1 = .ok (.getfield 174, 3) := by decide +kernel
theorem dX11_result_4 : decode cX11_result 4 = .ok (.lreturn, 1) := by decide +kernel
theorem dX11_kind_0 : decode cX11_kind 0 = .ok (.aload_n 0, 1) := by decide +kernel
theorem dX11_kind_1 : decode cX11_kind 1 = .ok (.getfield 178, 3) := by decide +kernel
theorem dX11_kind_4 : decode cX11_kind 4 = .ok (.ifCond .ne 7, 3) := by decide +kernel
theorem dX11_kind_7 : decode cX11_kind 7 = .ok (.iconst (-1), 1) := by decide +kernel
theorem dX11_kind_8 : decode cX11_kind 8 = .ok (.goto 12, 3) := by decide +kernel
theorem dX11_kind_11 : decode cX11_kind 11 = .ok (.aload_n 0, 1) := by decide +kernel
theorem dX11_kind_12 : decode cX11_kind 12 = .ok (.getfield 93, 3) := by decide +kernel
theorem dX11_kind_15 : decode cX11_kind 15 = .ok (.aload_n 0, 1) := by decide +kernel
theorem dX11_kind_16 : decode cX11_kind 16 = .ok (.getfield 178, 3) := by decide +kernel
theorem dX11_kind_19 : decode cX11_kind 19 = .ok (.iaload, 1) := by decide +kernel
theorem dX11_kind_20 : decode cX11_kind 20 = .ok (.ireturn, 1) := by decide +kernel
theorem dX11_cause_0 : decode cX11_cause 0 = .ok (.aload_n 0, 1) := by decide +kernel
theorem dX11_cause_1 : decode cX11_cause 1 = .ok (.getfield 178, 3) := by decide +kernel
theorem dX11_cause_4 : decode cX11_cause 4 = .ok (.istore_n 2, 1) := by decide +kernel
theorem dX11_cause_5 : decode cX11_cause 5 = .ok (.iconst 0, 1) := by decide +kernel
theorem dX11_cause_6 : decode cX11_cause 6 = .ok (.istore_n 3, 1) := by decide +kernel
theorem dX11_cause_7 : decode cX11_cause 7 = .ok (.iload_n 3, 1) := by decide +kernel
theorem dX11_cause_8 : decode cX11_cause 8 = .ok (.iload_n 1, 1) := by decide +kernel
theorem dX11_cause_9 : decode cX11_cause 9 = .ok (.if_icmp .gt 20, 3) := by decide +kernel
theorem dX11_cause_12 : decode cX11_cause 12 = .ok (.iload_n 2, 1) := by decide +kernel
theorem dX11_cause_13 : decode cX11_cause 13 = .ok (.ifCond .le 16, 3) := by decide +kernel
theorem dX11_cause_16 : decode cX11_cause 16 = .ok (.aload_n 0, 1) := by decide +kernel
theorem dX11_cause_17 : decode cX11_cause 17 = .ok (.getfield 96, 3) := by decide +kernel
theorem dX11_cause_20 : decode cX11_cause 20 = .ok (.iload_n 2, 1) := by decide +kernel
theorem dX11_cause_21 : decode cX11_cause 21 = .ok (.iaload, 1) := by decide +kernel
theorem dX11_cause_22 : decode cX11_cause 22 = .ok (.istore_n 2, 1) := by decide +kernel
theorem dX11_cause_23 : decode cX11_cause 23 = .ok (.iinc 3 1, 3) := by decide +kernel
theorem dX11_cause_26 : decode cX11_cause 26 = .ok (.goto (-19), 3) := by decide +kernel
theorem dX11_cause_29 : decode cX11_cause 29 = .ok (.iload_n 1, 1) := by decide +kernel
theorem dX11_cause_30 : decode cX11_cause 30 = .ok (.ifCond .lt 7, 3) := by decide +kernel
theorem dX11_cause_33 : decode cX11_cause 33 = .ok (.iload_n 2, 1) := by decide +kernel
theorem dX11_cause_34 : decode cX11_cause 34 = .ok (.ifCond .ne 7, 3) := by decide +kernel
theorem dX11_cause_37 : decode cX11_cause 37 = .ok (.iconst (-1), 1) := by decide +kernel
theorem dX11_cause_38 : decode cX11_cause 38 = .ok (.goto 9, 3) := by decide +kernel
theorem dX11_cause_41 : decode cX11_cause 41 = .ok (.aload_n 0, 1) := by decide +kernel
theorem dX11_cause_42 : decode cX11_cause 42 = .ok (.getfield 93, 3) := by decide +kernel
theorem dX11_cause_45 : decode cX11_cause 45 = .ok (.iload_n 2, 1) := by decide +kernel
theorem dX11_cause_46 : decode cX11_cause 46 = .ok (.iaload, 1) := by decide +kernel
theorem dX11_cause_47 : decode cX11_cause 47 = .ok (.ireturn, 1) := by decide +kernel
theorem dX11_out_0 : decode cX11_out 0 = .ok (.iload_n 1, 1) := by decide +kernel
theorem dX11_out_1 : decode cX11_out 1 = .ok (.ifCond .lt 20, 3) := by decide +kernel
theorem dX11_out_4 : decode cX11_out 4 = .ok (.iload_n 1, 1) := by decide +kernel
theorem dX11_out_5 : decode cX11_out 5 = .ok (.aload_n 0, 1) := by decide +kernel
theorem dX11_out_6 : decode cX11_out 6 = .ok (.getfield 162, 3) := by decide +kernel
theorem dX11_out_9 : decode cX11_out 9 = .ok (.if_icmp .ge 12, 3) := by decide +kernel
theorem dX11_out_12 : decode cX11_out 12 = .ok (.aload_n 0, 1) := by decide +kernel
theorem dX11_out_13 : decode cX11_out 13 = .ok (.getfield 103, 3) := by decide +kernel
theorem dX11_out_16 : decode cX11_out 16 = .ok (.iload_n 1, 1) := by decide +kernel
theorem dX11_out_17 : decode cX11_out 17 = .ok (.laload, 1) := by decide +kernel
theorem dX11_out_18 : decode cX11_out 18 = .ok (.goto 4, 3) := by decide +kernel
theorem dX11_out_21 : decode cX11_out 21 = .ok (.lconst 0, 1) := by decide +kernel
theorem dX11_out_22 : decode cX11_out 22 = .ok (.lreturn, 1) := by decide +kernel
theorem dX11_finished_0 : decode cX11_finished 0 = .ok (.iload_n 1, 1) := by decide +kernel
theorem dX11_finished_1 : decode cX11_finished 1 = .ok (.ifCond .lt 20, 3) := by decide +kernel
theorem dX11_finished_4 : decode cX11_finished 4 = .ok (.iload_n 1, 1) := by decide +kernel
theorem dX11_finished_5 : decode cX11_finished 5 = .ok (.aload_n 0, 1) := by decide +kernel
theorem dX11_finished_6 : decode cX11_finished 6 = .ok (.getfield 165, 3) := by decide +kernel
theorem dX11_finished_9 : decode cX11_finished 9 = .ok (.if_icmp .ge 12, 3) := by decide +kernel
theorem dX11_finished_12 : decode cX11_finished 12 = .ok (.aload_n 0, 1) := by decide +kernel
theorem dX11_finished_13 : decode cX11_finished 13 = .ok (.getfield 106, 3) := by decide +kernel
theorem dX11_finished_16 : decode cX11_finished 16 = .ok (.iload_n 1, 1) := by decide +kernel
theorem dX11_finished_17 : decode cX11_finished 17 = .ok (.iaload, 1) := by decide +kernel
theorem dX11_finished_18 : decode cX11_finished 18 = .ok (.goto 4, 3) := by decide +kernel
theorem dX11_finished_21 : decode cX11_finished 21 = .ok (.iconst (-1), 1) := by decide +kernel
theorem dX11_finished_22 : decode cX11_finished 22 = .ok (.ireturn, 1) := by decide +kernel
theorem dX11_depth_0 : decode cX11_depth 0 = .ok (.aload_n 0, 1) := by decide +kernel
theorem dX11_depth_1 : decode cX11_depth 1 = .ok (.getfield 171, 3) := by decide +kernel
theorem dX11_depth_4 : decode cX11_depth 4 = .ok (.ireturn, 1) := by decide +kernel
theorem dX11_status_0 : decode cX11_status 0 = .ok (.iload_n 1, 1) := by decide +kernel
theorem dX11_status_1 : decode cX11_status 1 = .ok (.tableswitch 91 0 7 #[47, 52, 61, 66, 71, 76, 81, 86], 47) := by decide +kernel
theorem dX11_status_48 : decode cX11_status 48 = .ok (.aload_n 0, 1) := by decide +kernel
theorem dX11_status_49 : decode cX11_status 49 = .ok (.getfield 109, 3) := by decide +kernel
theorem dX11_status_52 : decode cX11_status 52 = .ok (.ireturn, 1) := by decide +kernel
theorem dX11_status_53 : decode cX11_status 53 = .ok (.aload_n 0, 1) := by decide +kernel
theorem dX11_status_54 : decode cX11_status 54 = .ok (.invokevirtual 127, 3) := by decide +kernel
theorem dX11_status_57 : decode cX11_status 57 = .ok (.aload_n 0, 1) := by decide +kernel
theorem dX11_status_58 : decode cX11_status 58 = .ok (.getfield 112, 3) := by decide +kernel
theorem dX11_status_61 : decode cX11_status 61 = .ok (.ireturn, 1) := by decide +kernel
theorem dX11_status_62 : decode cX11_status 62 = .ok (.aload_n 0, 1) := by decide +kernel
theorem dX11_status_63 : decode cX11_status 63 = .ok (.getfield 130, 3) := by decide +kernel
theorem dX11_status_66 : decode cX11_status 66 = .ok (.ireturn, 1) := by decide +kernel
theorem dX11_status_67 : decode cX11_status 67 = .ok (.aload_n 0, 1) := by decide +kernel
theorem dX11_status_68 : decode cX11_status 68 = .ok (.getfield 147, 3) := by decide +kernel
theorem dX11_status_71 : decode cX11_status 71 = .ok (.ireturn, 1) := by decide +kernel
theorem dX11_status_72 : decode cX11_status 72 = .ok (.aload_n 0, 1) := by decide +kernel
theorem dX11_status_73 : decode cX11_status 73 = .ok (.getfield 162, 3) := by decide +kernel
theorem dX11_status_76 : decode cX11_status 76 = .ok (.ireturn, 1) := by decide +kernel
theorem dX11_status_77 : decode cX11_status 77 = .ok (.aload_n 0, 1) := by decide +kernel
theorem dX11_status_78 : decode cX11_status 78 = .ok (.getfield 165, 3) := by decide +kernel
theorem dX11_status_81 : decode cX11_status 81 = .ok (.ireturn, 1) := by decide +kernel
theorem dX11_status_82 : decode cX11_status 82 = .ok (.aload_n 0, 1) := by decide +kernel
theorem dX11_status_83 : decode cX11_status 83 = .ok (.invokevirtual 315, 3) := by decide +kernel
theorem dX11_status_86 : decode cX11_status 86 = .ok (.ireturn, 1) := by decide +kernel
theorem dX11_status_87 : decode cX11_status 87 = .ok (.aload_n 0, 1) := by decide +kernel
theorem dX11_status_88 : decode cX11_status 88 = .ok (.getfield 168, 3) := by decide +kernel
theorem dX11_status_91 : decode cX11_status 91 = .ok (.ireturn, 1) := by decide +kernel
theorem dX11_status_92 : decode cX11_status 92 = .ok (.iconst (-1), 1) := by decide +kernel
theorem dX11_status_93 : decode cX11_status 93 = .ok (.ireturn, 1) := by decide +kernel
theorem dX11_causes_0 : decode cX11_causes 0 = .ok (.iconst 0, 1) := by decide +kernel
theorem dX11_causes_1 : decode cX11_causes 1 = .ok (.istore_n 1, 1) := by decide +kernel
theorem dX11_causes_2 : decode cX11_causes 2 = .ok (.aload_n 0, 1) := by decide +kernel
theorem dX11_causes_3 : decode cX11_causes 3 = .ok (.getfield 96, 3) := by decide +kernel
theorem dX11_causes_6 : decode cX11_causes 6 = .ok (.aload_n 0, 1) := by decide +kernel
theorem dX11_causes_7 : decode cX11_causes 7 = .ok (.getfield 178, 3) := by decide +kernel
theorem dX11_causes_10 : decode cX11_causes 10 = .ok (.iaload, 1) := by decide +kernel
theorem dX11_causes_11 : decode cX11_causes 11 = .ok (.istore_n 2, 1) := by decide +kernel
theorem dX11_causes_12 : decode cX11_causes 12 = .ok (.iload_n 2, 1) := by decide +kernel
theorem dX11_causes_13 : decode cX11_causes 13 = .ok (.ifCond .le 23, 3) := by decide +kernel
theorem dX11_causes_16 : decode cX11_causes 16 = .ok (.iload_n 1, 1) := by decide +kernel
theorem dX11_causes_17 : decode cX11_causes 17 = .ok (.sipush 1000, 3) := by decide +kernel
theorem dX11_causes_20 : decode cX11_causes 20 = .ok (.if_icmp .ge 16, 3) := by decide +kernel
theorem dX11_causes_23 : decode cX11_causes 23 = .ok (.iinc 1 1, 3) := by decide +kernel
theorem dX11_causes_26 : decode cX11_causes 26 = .ok (.aload_n 0, 1) := by decide +kernel
theorem dX11_causes_27 : decode cX11_causes 27 = .ok (.getfield 96, 3) := by decide +kernel
theorem dX11_causes_30 : decode cX11_causes 30 = .ok (.iload_n 2, 1) := by decide +kernel
theorem dX11_causes_31 : decode cX11_causes 31 = .ok (.iaload, 1) := by decide +kernel
theorem dX11_causes_32 : decode cX11_causes 32 = .ok (.istore_n 2, 1) := by decide +kernel
theorem dX11_causes_33 : decode cX11_causes 33 = .ok (.goto (-21), 3) := by decide +kernel
theorem dX11_causes_36 : decode cX11_causes 36 = .ok (.iload_n 1, 1) := by decide +kernel
theorem dX11_causes_37 : decode cX11_causes 37 = .ok (.ireturn, 1) := by decide +kernel
theorem dX11_number_0 : decode cX11_number 0 = .ok (.iload_n 1, 1) := by decide +kernel
theorem dX11_number_1 : decode cX11_number 1 = .ok (.ifCond .lt 18, 3) := by decide +kernel
theorem dX11_number_4 : decode cX11_number 4 = .ok (.iload_n 1, 1) := by decide +kernel
theorem dX11_number_5 : decode cX11_number 5 = .ok (.bipush 8, 2) := by decide +kernel
theorem dX11_number_7 : decode cX11_number 7 = .ok (.if_icmp .ge 12, 3) := by decide +kernel
theorem dX11_number_10 : decode cX11_number 10 = .ok (.aload_n 0, 1) := by decide +kernel
theorem dX11_number_11 : decode cX11_number 11 = .ok (.getfield 43, 3) := by decide +kernel
theorem dX11_number_14 : decode cX11_number 14 = .ok (.iload_n 1, 1) := by decide +kernel
theorem dX11_number_15 : decode cX11_number 15 = .ok (.laload, 1) := by decide +kernel
theorem dX11_number_16 : decode cX11_number 16 = .ok (.goto 4, 3) := by decide +kernel
theorem dX11_number_19 : decode cX11_number 19 = .ok (.lconst 0, 1) := by decide +kernel
theorem dX11_number_20 : decode cX11_number 20 = .ok (.lreturn, 1) := by decide +kernel
theorem dX11_hand_0 : decode cX11_hand 0 = .ok (.iload_n 1, 1) := by decide +kernel
theorem dX11_hand_1 : decode cX11_hand 1 = .ok (.ifCond .lt 9, 3) := by decide +kernel
theorem dX11_hand_4 : decode cX11_hand 4 = .ok (.iload_n 1, 1) := by decide +kernel
theorem dX11_hand_5 : decode cX11_hand 5 = .ok (.bipush 7, 2) := by decide +kernel
theorem dX11_hand_7 : decode cX11_hand 7 = .ok (.if_icmp .le 6, 3) := by decide +kernel
theorem dX11_hand_10 : decode cX11_hand 10 = .ok (.bipush (-2), 2) := by decide +kernel
theorem dX11_hand_12 : decode cX11_hand 12 = .ok (.ireturn, 1) := by decide +kernel
theorem dX11_hand_13 : decode cX11_hand 13 = .ok (.aload_n 0, 1) := by decide +kernel
theorem dX11_hand_14 : decode cX11_hand 14 = .ok (.getfield 47, 3) := by decide +kernel
theorem dX11_hand_17 : decode cX11_hand 17 = .ok (.iload_n 1, 1) := by decide +kernel
theorem dX11_hand_18 : decode cX11_hand 18 = .ok (.iaload, 1) := by decide +kernel
theorem dX11_hand_19 : decode cX11_hand 19 = .ok (.ifCond .ne 7, 3) := by decide +kernel
theorem dX11_hand_22 : decode cX11_hand 22 = .ok (.iconst (-1), 1) := by decide +kernel
theorem dX11_hand_23 : decode cX11_hand 23 = .ok (.goto 14, 3) := by decide +kernel
theorem dX11_hand_26 : decode cX11_hand 26 = .ok (.aload_n 0, 1) := by decide +kernel
theorem dX11_hand_27 : decode cX11_hand 27 = .ok (.getfield 50, 3) := by decide +kernel
theorem dX11_hand_30 : decode cX11_hand 30 = .ok (.aload_n 0, 1) := by decide +kernel
theorem dX11_hand_31 : decode cX11_hand 31 = .ok (.getfield 47, 3) := by decide +kernel
theorem dX11_hand_34 : decode cX11_hand 34 = .ok (.iload_n 1, 1) := by decide +kernel
theorem dX11_hand_35 : decode cX11_hand 35 = .ok (.iaload, 1) := by decide +kernel
theorem dX11_hand_36 : decode cX11_hand 36 = .ok (.iaload, 1) := by decide +kernel
theorem dX11_hand_37 : decode cX11_hand 37 = .ok (.ireturn, 1) := by decide +kernel
theorem dX11_mark_0 : decode cX11_mark 0 = .ok (.iload_n 1, 1) := by decide +kernel
theorem dX11_mark_1 : decode cX11_mark 1 = .ok (.ifCond .lt 32, 3) := by decide +kernel
theorem dX11_mark_4 : decode cX11_mark 4 = .ok (.iload_n 1, 1) := by decide +kernel
theorem dX11_mark_5 : decode cX11_mark 5 = .ok (.bipush 8, 2) := by decide +kernel
theorem dX11_mark_7 : decode cX11_mark 7 = .ok (.if_icmp .ge 26, 3) := by decide +kernel
theorem dX11_mark_10 : decode cX11_mark 10 = .ok (.aload_n 0, 1) := by decide +kernel
theorem dX11_mark_11 : decode cX11_mark 11 = .ok (.getfield 47, 3) := by decide +kernel
theorem dX11_mark_14 : decode cX11_mark 14 = .ok (.iload_n 1, 1) := by decide +kernel
theorem dX11_mark_15 : decode cX11_mark 15 = .ok (.iaload, 1) := by decide +kernel
theorem dX11_mark_16 : decode cX11_mark 16 = .ok (.ifCond .le 17, 3) := by decide +kernel
theorem dX11_mark_19 : decode cX11_mark 19 = .ok (.aload_n 0, 1) := by decide +kernel
theorem dX11_mark_20 : decode cX11_mark 20 = .ok (.getfield 53, 3) := by decide +kernel
theorem dX11_mark_23 : decode cX11_mark 23 = .ok (.aload_n 0, 1) := by decide +kernel
theorem dX11_mark_24 : decode cX11_mark 24 = .ok (.getfield 47, 3) := by decide +kernel
theorem dX11_mark_27 : decode cX11_mark 27 = .ok (.iload_n 1, 1) := by decide +kernel
theorem dX11_mark_28 : decode cX11_mark 28 = .ok (.iaload, 1) := by decide +kernel
theorem dX11_mark_29 : decode cX11_mark 29 = .ok (.laload, 1) := by decide +kernel
theorem dX11_mark_30 : decode cX11_mark 30 = .ok (.goto 4, 3) := by decide +kernel
theorem dX11_mark_33 : decode cX11_mark 33 = .ok (.lconst 0, 1) := by decide +kernel
theorem dX11_mark_34 : decode cX11_mark 34 = .ok (.lreturn, 1) := by decide +kernel
theorem dX11_size_0 : decode cX11_size 0 = .ok (.iload_n 1, 1) := by decide +kernel
theorem dX11_size_1 : decode cX11_size 1 = .ok (.ifCond .lt 19, 3) := by decide +kernel
theorem dX11_size_4 : decode cX11_size 4 = .ok (.iload_n 1, 1) := by decide +kernel
theorem dX11_size_5 : decode cX11_size 5 = .ok (.bipush 7, 2) := by decide +kernel
theorem dX11_size_7 : decode cX11_size 7 = .ok (.if_icmp .gt 13, 3) := by decide +kernel
theorem dX11_size_10 : decode cX11_size 10 = .ok (.iload_n 2, 1) := by decide +kernel
theorem dX11_size_11 : decode cX11_size 11 = .ok (.ifCond .lt 9, 3) := by decide +kernel
theorem dX11_size_14 : decode cX11_size 14 = .ok (.iload_n 2, 1) := by decide +kernel
theorem dX11_size_15 : decode cX11_size 15 = .ok (.bipush 7, 2) := by decide +kernel
theorem dX11_size_17 : decode cX11_size 17 = .ok (.if_icmp .le 8, 3) := by decide +kernel
theorem dX11_size_20 : decode cX11_size 20 = .ok (.bipush (-2), 2) := by decide +kernel
theorem dX11_size_22 : decode cX11_size 22 = .ok (.goto 14, 3) := by decide +kernel
theorem dX11_size_25 : decode cX11_size 25 = .ok (.aload_n 0, 1) := by decide +kernel
theorem dX11_size_26 : decode cX11_size 26 = .ok (.getfield 56, 3) := by decide +kernel
theorem dX11_size_29 : decode cX11_size 29 = .ok (.bipush 8, 2) := by decide +kernel
theorem dX11_size_31 : decode cX11_size 31 = .ok (.iload_n 1, 1) := by decide +kernel
theorem dX11_size_32 : decode cX11_size 32 = .ok (.imul, 1) := by decide +kernel
theorem dX11_size_33 : decode cX11_size 33 = .ok (.iload_n 2, 1) := by decide +kernel
theorem dX11_size_34 : decode cX11_size 34 = .ok (.iadd, 1) := by decide +kernel
theorem dX11_size_35 : decode cX11_size 35 = .ok (.iaload, 1) := by decide +kernel
theorem dX11_size_36 : decode cX11_size 36 = .ok (.ireturn, 1) := by decide +kernel
theorem dX11_value_0 : decode cX11_value 0 = .ok (.aload_n 0, 1) := by decide +kernel
theorem dX11_value_1 : decode cX11_value 1 = .ok (.iload_n 1, 1) := by decide +kernel
theorem dX11_value_2 : decode cX11_value 2 = .ok (.iload_n 2, 1) := by decide +kernel
theorem dX11_value_3 : decode cX11_value 3 = .ok (.invokevirtual 318, 3) := by decide +kernel
theorem dX11_value_6 : decode cX11_value 6 = .ok (.istore 4, 2) := by decide +kernel
theorem dX11_value_8 : decode cX11_value 8 = .ok (.iload_n 3, 1) := by decide +kernel
theorem dX11_value_9 : decode cX11_value 9 = .ok (.ifCond .lt 9, 3) := by decide +kernel
theorem dX11_value_12 : decode cX11_value 12 = .ok (.iload_n 3, 1) := by decide +kernel
theorem dX11_value_13 : decode cX11_value 13 = .ok (.iload 4, 2) := by decide +kernel
theorem dX11_value_15 : decode cX11_value 15 = .ok (.if_icmp .lt 5, 3) := by decide +kernel
theorem dX11_value_18 : decode cX11_value 18 = .ok (.lconst 0, 1) := by decide +kernel
theorem dX11_value_19 : decode cX11_value 19 = .ok (.lreturn, 1) := by decide +kernel
theorem dX11_value_20 : decode cX11_value 20 = .ok (.aload_n 0, 1) := by decide +kernel
theorem dX11_value_21 : decode cX11_value 21 = .ok (.getfield 63, 3) := by decide +kernel
theorem dX11_value_24 : decode cX11_value 24 = .ok (.bipush 64, 2) := by decide +kernel
theorem dX11_value_26 : decode cX11_value 26 = .ok (.bipush 8, 2) := by decide +kernel
theorem dX11_value_28 : decode cX11_value 28 = .ok (.iload_n 1, 1) := by decide +kernel
theorem dX11_value_29 : decode cX11_value 29 = .ok (.imul, 1) := by decide +kernel
theorem dX11_value_30 : decode cX11_value 30 = .ok (.iload_n 2, 1) := by decide +kernel
theorem dX11_value_31 : decode cX11_value 31 = .ok (.iadd, 1) := by decide +kernel
theorem dX11_value_32 : decode cX11_value 32 = .ok (.imul, 1) := by decide +kernel
theorem dX11_value_33 : decode cX11_value 33 = .ok (.iload_n 3, 1) := by decide +kernel
theorem dX11_value_34 : decode cX11_value 34 = .ok (.iadd, 1) := by decide +kernel
theorem dX11_value_35 : decode cX11_value 35 = .ok (.laload, 1) := by decide +kernel
theorem dX11_value_36 : decode cX11_value 36 = .ok (.lstore 5, 2) := by decide +kernel
theorem dX11_value_38 : decode cX11_value 38 = .ok (.iload_n 1, 1) := by decide +kernel
theorem dX11_value_39 : decode cX11_value 39 = .ok (.bipush 7, 2) := by decide +kernel
theorem dX11_value_41 : decode cX11_value 41 = .ok (.if_icmp .ge 6, 3) := by decide +kernel
theorem dX11_value_44 : decode cX11_value 44 = .ok (.lload 5, 2) := by decide +kernel
theorem dX11_value_46 : decode cX11_value 46 = .ok (.lreturn, 1) := by decide +kernel
theorem dX11_value_47 : decode cX11_value 47 = .ok (.lload 5, 2) := by decide +kernel
theorem dX11_value_49 : decode cX11_value 49 = .ok (.lconst 0, 1) := by decide +kernel
theorem dX11_value_50 : decode cX11_value 50 = .ok (.lcmp, 1) := by decide +kernel
theorem dX11_value_51 : decode cX11_value 51 = .ok (.ifCond .ne 9, 3) := by decide +kernel
theorem dX11_value_54 : decode cX11_value 54 = .ok (.ldc2_w 258, 3) := by decide +kernel
theorem dX11_value_57 : decode cX11_value 57 = .ok (.goto 12, 3) := by decide +kernel
theorem dX11_value_60 : decode cX11_value 60 = .ok (.aload_n 0, 1) := by decide +kernel
theorem dX11_value_61 : decode cX11_value 61 = .ok (.getfield 50, 3) := by decide +kernel
theorem dX11_value_64 : decode cX11_value 64 = .ok (.lload 5, 2) := by decide +kernel
theorem dX11_value_66 : decode cX11_value 66 = .ok (.l2i, 1) := by decide +kernel
theorem dX11_value_67 : decode cX11_value 67 = .ok (.iaload, 1) := by decide +kernel
theorem dX11_value_68 : decode cX11_value 68 = .ok (.i2l, 1) := by decide +kernel
theorem dX11_value_69 : decode cX11_value 69 = .ok (.lreturn, 1) := by decide +kernel
theorem dX11_grid_0 : decode cX11_grid 0 = .ok (.aload_n 0, 1) := by decide +kernel
theorem dX11_grid_1 : decode cX11_grid 1 = .ok (.getfield 289, 3) := by decide +kernel
theorem dX11_grid_4 : decode cX11_grid 4 = .ok (.ifCond .eq 41, 3) := by decide +kernel
theorem dX11_grid_7 : decode cX11_grid 7 = .ok (.iload_n 1, 1) := by decide +kernel
theorem dX11_grid_8 : decode cX11_grid 8 = .ok (.ifCond .lt 37, 3) := by decide +kernel
theorem dX11_grid_11 : decode cX11_grid 11 = .ok (.iload_n 1, 1) := by decide +kernel
theorem dX11_grid_12 : decode cX11_grid 12 = .ok (.aload_n 0, 1) := by decide +kernel
theorem dX11_grid_13 : decode cX11_grid 13 = .ok (.getfield 292, 3) := by decide +kernel
theorem dX11_grid_16 : decode cX11_grid 16 = .ok (.if_icmp .ge 29, 3) := by decide +kernel
theorem dX11_grid_19 : decode cX11_grid 19 = .ok (.iload_n 2, 1) := by decide +kernel
theorem dX11_grid_20 : decode cX11_grid 20 = .ok (.ifCond .lt 25, 3) := by decide +kernel
theorem dX11_grid_23 : decode cX11_grid 23 = .ok (.iload_n 2, 1) := by decide +kernel
theorem dX11_grid_24 : decode cX11_grid 24 = .ok (.aload_n 0, 1) := by decide +kernel
theorem dX11_grid_25 : decode cX11_grid 25 = .ok (.getfield 295, 3) := by decide +kernel
theorem dX11_grid_28 : decode cX11_grid 28 = .ok (.if_icmp .ge 17, 3) := by decide +kernel
theorem dX11_grid_31 : decode cX11_grid 31 = .ok (.aload_n 0, 1) := by decide +kernel
theorem dX11_grid_32 : decode cX11_grid 32 = .ok (.getfield 66, 3) := by decide +kernel
theorem dX11_grid_35 : decode cX11_grid 35 = .ok (.bipush 8, 2) := by decide +kernel
theorem dX11_grid_37 : decode cX11_grid 37 = .ok (.iload_n 1, 1) := by decide +kernel
theorem dX11_grid_38 : decode cX11_grid 38 = .ok (.imul, 1) := by decide +kernel
theorem dX11_grid_39 : decode cX11_grid 39 = .ok (.iload_n 2, 1) := by decide +kernel
theorem dX11_grid_40 : decode cX11_grid 40 = .ok (.iadd, 1) := by decide +kernel
theorem dX11_grid_41 : decode cX11_grid 41 = .ok (.iaload, 1) := by decide +kernel
theorem dX11_grid_42 : decode cX11_grid 42 = .ok (.goto 4, 3) := by decide +kernel
theorem dX11_grid_45 : decode cX11_grid 45 = .ok (.iconst 0, 1) := by decide +kernel
theorem dX11_grid_46 : decode cX11_grid 46 = .ok (.ireturn, 1) := by decide +kernel
theorem dJ9_max_7cf53_0 : decode cJ9_max_7cf53 0 = .ok (.iload_n 0, 1) := by decide +kernel
theorem dJ9_max_7cf53_1 : decode cJ9_max_7cf53 1 = .ok (.iload_n 1, 1) := by decide +kernel
theorem dJ9_max_7cf53_2 : decode cJ9_max_7cf53 2 = .ok (.if_icmp .lt 7, 3) := by decide +kernel
theorem dJ9_max_7cf53_5 : decode cJ9_max_7cf53 5 = .ok (.iload_n 0, 1) := by decide +kernel
theorem dJ9_max_7cf53_6 : decode cJ9_max_7cf53 6 = .ok (.goto 4, 3) := by decide +kernel
theorem dJ9_max_7cf53_9 : decode cJ9_max_7cf53 9 = .ok (.iload_n 1, 1) := by decide +kernel
theorem dJ9_max_7cf53_10 : decode cJ9_max_7cf53 10 = .ok (.ireturn, 1) := by decide +kernel
theorem dJ7_fill_d0a16_0 : decode cJ7_fill_d0a16 0 = .ok (.iconst 0, 1) := by decide +kernel
theorem dJ7_fill_d0a16_1 : decode cJ7_fill_d0a16 1 = .ok (.istore_n 3, 1) := by decide +kernel
theorem dJ7_fill_d0a16_2 : decode cJ7_fill_d0a16 2 = .ok (.aload_n 0, 1) := by decide +kernel
theorem dJ7_fill_d0a16_3 : decode cJ7_fill_d0a16 3 = .ok (.arraylength, 1) := by decide +kernel
theorem dJ7_fill_d0a16_4 : decode cJ7_fill_d0a16 4 = .ok (.istore 4, 2) := by decide +kernel
theorem dJ7_fill_d0a16_6 : decode cJ7_fill_d0a16 6 = .ok (.iload_n 3, 1) := by decide +kernel
theorem dJ7_fill_d0a16_7 : decode cJ7_fill_d0a16 7 = .ok (.iload 4, 2) := by decide +kernel
theorem dJ7_fill_d0a16_9 : decode cJ7_fill_d0a16 9 = .ok (.if_icmp .ge 13, 3) := by decide +kernel
theorem dJ7_fill_d0a16_12 : decode cJ7_fill_d0a16 12 = .ok (.aload_n 0, 1) := by decide +kernel
theorem dJ7_fill_d0a16_13 : decode cJ7_fill_d0a16 13 = .ok (.iload_n 3, 1) := by decide +kernel
theorem dJ7_fill_d0a16_14 : decode cJ7_fill_d0a16 14 = .ok (.lload_n 1, 1) := by decide +kernel
theorem dJ7_fill_d0a16_15 : decode cJ7_fill_d0a16 15 = .ok (.lastore, 1) := by decide +kernel
theorem dJ7_fill_d0a16_16 : decode cJ7_fill_d0a16 16 = .ok (.iinc 3 1, 3) := by decide +kernel
theorem dJ7_fill_d0a16_19 : decode cJ7_fill_d0a16 19 = .ok (.goto (-13), 3) := by decide +kernel
theorem dJ7_fill_d0a16_22 : decode cJ7_fill_d0a16 22 = .ok (.return_, 1) := by decide +kernel
theorem dJ7_fill_53178_0 : decode cJ7_fill_53178 0 = .ok (.iconst 0, 1) := by decide +kernel
theorem dJ7_fill_53178_1 : decode cJ7_fill_53178 1 = .ok (.istore_n 2, 1) := by decide +kernel
theorem dJ7_fill_53178_2 : decode cJ7_fill_53178 2 = .ok (.aload_n 0, 1) := by decide +kernel
theorem dJ7_fill_53178_3 : decode cJ7_fill_53178 3 = .ok (.arraylength, 1) := by decide +kernel
theorem dJ7_fill_53178_4 : decode cJ7_fill_53178 4 = .ok (.istore_n 3, 1) := by decide +kernel
theorem dJ7_fill_53178_5 : decode cJ7_fill_53178 5 = .ok (.iload_n 2, 1) := by decide +kernel
theorem dJ7_fill_53178_6 : decode cJ7_fill_53178 6 = .ok (.iload_n 3, 1) := by decide +kernel
theorem dJ7_fill_53178_7 : decode cJ7_fill_53178 7 = .ok (.if_icmp .ge 13, 3) := by decide +kernel
theorem dJ7_fill_53178_10 : decode cJ7_fill_53178 10 = .ok (.aload_n 0, 1) := by decide +kernel
theorem dJ7_fill_53178_11 : decode cJ7_fill_53178 11 = .ok (.iload_n 2, 1) := by decide +kernel
theorem dJ7_fill_53178_12 : decode cJ7_fill_53178 12 = .ok (.iload_n 1, 1) := by decide +kernel
theorem dJ7_fill_53178_13 : decode cJ7_fill_53178 13 = .ok (.iastore, 1) := by decide +kernel
theorem dJ7_fill_53178_14 : decode cJ7_fill_53178 14 = .ok (.iinc 2 1, 3) := by decide +kernel
theorem dJ7_fill_53178_17 : decode cJ7_fill_53178 17 = .ok (.goto (-12), 3) := by decide +kernel
theorem dJ7_fill_53178_20 : decode cJ7_fill_53178 20 = .ok (.return_, 1) := by decide +kernel
theorem dL_law_0 : decode cL_law 0 = .ok (.new 7, 3) := by decide +kernel
theorem dL_law_3 : decode cL_law 3 = .ok (.dup, 1) := by decide +kernel
theorem dL_law_4 : decode cL_law 4 = .ok (.invokespecial 9, 3) := by decide +kernel
theorem dL_law_7 : decode cL_law 7 = .ok (.astore_n 1, 1) := by decide +kernel
theorem dL_law_8 : decode cL_law 8 = .ok (.new 10, 3) := by decide +kernel
theorem dL_law_11 : decode cL_law 11 = .ok (.dup, 1) := by decide +kernel
theorem dL_law_12 : decode cL_law 12 = .ok (.invokespecial 12, 3) := by decide +kernel
theorem dL_law_15 : decode cL_law 15 = .ok (.astore_n 2, 1) := by decide +kernel
theorem dL_law_16 : decode cL_law 16 = .ok (.iconst 0, 1) := by decide +kernel
theorem dL_law_17 : decode cL_law 17 = .ok (.istore_n 3, 1) := by decide +kernel
theorem dL_law_18 : decode cL_law 18 = .ok (.iload_n 3, 1) := by decide +kernel
theorem dL_law_19 : decode cL_law 19 = .ok (.aload_n 0, 1) := by decide +kernel
theorem dL_law_20 : decode cL_law 20 = .ok (.arraylength, 1) := by decide +kernel
theorem dL_law_21 : decode cL_law 21 = .ok (.iconst 5, 1) := by decide +kernel
theorem dL_law_22 : decode cL_law 22 = .ok (.isub, 1) := by decide +kernel
theorem dL_law_23 : decode cL_law 23 = .ok (.if_icmp .gt 525, 3) := by decide +kernel
theorem dL_law_26 : decode cL_law 26 = .ok (.aload_n 0, 1) := by decide +kernel
theorem dL_law_27 : decode cL_law 27 = .ok (.iload_n 3, 1) := by decide +kernel
theorem dL_law_28 : decode cL_law 28 = .ok (.iaload, 1) := by decide +kernel
theorem dL_law_29 : decode cL_law 29 = .ok (.bipush 31, 2) := by decide +kernel
theorem dL_law_31 : decode cL_law 31 = .ok (.iand, 1) := by decide +kernel
theorem dL_law_32 : decode cL_law 32 = .ok (.tableswitch 510 0 16 #[84, 137, 150, 183, 196, 210, 223, 246, 270, 293, 306, 329, 353, 376, 400, 433, 477], 84) := by decide +kernel
theorem dL_law_116 : decode cL_law 116 = .ok (.aload_n 1, 1) := by decide +kernel
theorem dL_law_117 : decode cL_law 117 = .ok (.aload_n 0, 1) := by decide +kernel
theorem dL_law_118 : decode cL_law 118 = .ok (.iload_n 3, 1) := by decide +kernel
theorem dL_law_119 : decode cL_law 119 = .ok (.iconst 1, 1) := by decide +kernel
theorem dL_law_120 : decode cL_law 120 = .ok (.iadd, 1) := by decide +kernel
theorem dL_law_121 : decode cL_law 121 = .ok (.iaload, 1) := by decide +kernel
theorem dL_law_122 : decode cL_law 122 = .ok (.aload_n 0, 1) := by decide +kernel
theorem dL_law_123 : decode cL_law 123 = .ok (.iload_n 3, 1) := by decide +kernel
theorem dL_law_124 : decode cL_law 124 = .ok (.iconst 2, 1) := by decide +kernel
theorem dL_law_125 : decode cL_law 125 = .ok (.iadd, 1) := by decide +kernel
theorem dL_law_126 : decode cL_law 126 = .ok (.iaload, 1) := by decide +kernel
theorem dL_law_127 : decode cL_law 127 = .ok (.aload_n 0, 1) := by decide +kernel
theorem dL_law_128 : decode cL_law 128 = .ok (.iload_n 3, 1) := by decide +kernel
theorem dL_law_129 : decode cL_law 129 = .ok (.iconst 3, 1) := by decide +kernel
theorem dL_law_130 : decode cL_law 130 = .ok (.iadd, 1) := by decide +kernel
theorem dL_law_131 : decode cL_law 131 = .ok (.iaload, 1) := by decide +kernel
theorem dL_law_132 : decode cL_law 132 = .ok (.aload_n 0, 1) := by decide +kernel
theorem dL_law_133 : decode cL_law 133 = .ok (.iload_n 3, 1) := by decide +kernel
theorem dL_law_134 : decode cL_law 134 = .ok (.iconst 4, 1) := by decide +kernel
theorem dL_law_135 : decode cL_law 135 = .ok (.iadd, 1) := by decide +kernel
theorem dL_law_136 : decode cL_law 136 = .ok (.iaload, 1) := by decide +kernel
theorem dL_law_137 : decode cL_law 137 = .ok (.invokevirtual 13, 3) := by decide +kernel
theorem dL_law_140 : decode cL_law 140 = .ok (.aload_n 2, 1) := by decide +kernel
theorem dL_law_141 : decode cL_law 141 = .ok (.aload_n 0, 1) := by decide +kernel
theorem dL_law_142 : decode cL_law 142 = .ok (.iload_n 3, 1) := by decide +kernel
theorem dL_law_143 : decode cL_law 143 = .ok (.iconst 1, 1) := by decide +kernel
theorem dL_law_144 : decode cL_law 144 = .ok (.iadd, 1) := by decide +kernel
theorem dL_law_145 : decode cL_law 145 = .ok (.iaload, 1) := by decide +kernel
theorem dL_law_146 : decode cL_law 146 = .ok (.aload_n 0, 1) := by decide +kernel
theorem dL_law_147 : decode cL_law 147 = .ok (.iload_n 3, 1) := by decide +kernel
theorem dL_law_148 : decode cL_law 148 = .ok (.iconst 2, 1) := by decide +kernel
theorem dL_law_149 : decode cL_law 149 = .ok (.iadd, 1) := by decide +kernel
theorem dL_law_150 : decode cL_law 150 = .ok (.iaload, 1) := by decide +kernel
theorem dL_law_151 : decode cL_law 151 = .ok (.aload_n 0, 1) := by decide +kernel
theorem dL_law_152 : decode cL_law 152 = .ok (.iload_n 3, 1) := by decide +kernel
theorem dL_law_153 : decode cL_law 153 = .ok (.iconst 3, 1) := by decide +kernel
theorem dL_law_154 : decode cL_law 154 = .ok (.iadd, 1) := by decide +kernel
theorem dL_law_155 : decode cL_law 155 = .ok (.iaload, 1) := by decide +kernel
theorem dL_law_156 : decode cL_law 156 = .ok (.aload_n 0, 1) := by decide +kernel
theorem dL_law_157 : decode cL_law 157 = .ok (.iload_n 3, 1) := by decide +kernel
theorem dL_law_158 : decode cL_law 158 = .ok (.iconst 4, 1) := by decide +kernel
theorem dL_law_159 : decode cL_law 159 = .ok (.iadd, 1) := by decide +kernel
theorem dL_law_160 : decode cL_law 160 = .ok (.iaload, 1) := by decide +kernel
theorem dL_law_161 : decode cL_law 161 = .ok (.invokevirtual 17, 3) := by decide +kernel
theorem dL_law_164 : decode cL_law 164 = .ok (.if_icmp .eq 378, 3) := by decide +kernel
theorem dL_law_167 : decode cL_law 167 = .ok (.iconst 0, 1) := by decide +kernel
theorem dL_law_168 : decode cL_law 168 = .ok (.ireturn, 1) := by decide +kernel
theorem dL_law_169 : decode cL_law 169 = .ok (.aload_n 1, 1) := by decide +kernel
theorem dL_law_170 : decode cL_law 170 = .ok (.invokevirtual 18, 3) := by decide +kernel
theorem dL_law_173 : decode cL_law 173 = .ok (.aload_n 2, 1) := by decide +kernel
theorem dL_law_174 : decode cL_law 174 = .ok (.invokevirtual 22, 3) := by decide +kernel
theorem dL_law_177 : decode cL_law 177 = .ok (.if_icmp .eq 365, 3) := by decide +kernel
theorem dL_law_180 : decode cL_law 180 = .ok (.iconst 0, 1) := by decide +kernel
theorem dL_law_181 : decode cL_law 181 = .ok (.ireturn, 1) := by decide +kernel
theorem dL_law_182 : decode cL_law 182 = .ok (.aload_n 1, 1) := by decide +kernel
theorem dL_law_183 : decode cL_law 183 = .ok (.aload_n 0, 1) := by decide +kernel
theorem dL_law_184 : decode cL_law 184 = .ok (.iload_n 3, 1) := by decide +kernel
theorem dL_law_185 : decode cL_law 185 = .ok (.iconst 1, 1) := by decide +kernel
theorem dL_law_186 : decode cL_law 186 = .ok (.iadd, 1) := by decide +kernel
theorem dL_law_187 : decode cL_law 187 = .ok (.iaload, 1) := by decide +kernel
theorem dL_law_188 : decode cL_law 188 = .ok (.aload_n 0, 1) := by decide +kernel
theorem dL_law_189 : decode cL_law 189 = .ok (.iload_n 3, 1) := by decide +kernel
theorem dL_law_190 : decode cL_law 190 = .ok (.iconst 2, 1) := by decide +kernel
theorem dL_law_191 : decode cL_law 191 = .ok (.iadd, 1) := by decide +kernel
theorem dL_law_192 : decode cL_law 192 = .ok (.iaload, 1) := by decide +kernel
theorem dL_law_193 : decode cL_law 193 = .ok (.invokevirtual 23, 3) := by decide +kernel
theorem dL_law_196 : decode cL_law 196 = .ok (.aload_n 2, 1) := by decide +kernel
theorem dL_law_197 : decode cL_law 197 = .ok (.aload_n 0, 1) := by decide +kernel
theorem dL_law_198 : decode cL_law 198 = .ok (.iload_n 3, 1) := by decide +kernel
theorem dL_law_199 : decode cL_law 199 = .ok (.iconst 1, 1) := by decide +kernel
theorem dL_law_200 : decode cL_law 200 = .ok (.iadd, 1) := by decide +kernel
theorem dL_law_201 : decode cL_law 201 = .ok (.iaload, 1) := by decide +kernel
theorem dL_law_202 : decode cL_law 202 = .ok (.aload_n 0, 1) := by decide +kernel
theorem dL_law_203 : decode cL_law 203 = .ok (.iload_n 3, 1) := by decide +kernel
theorem dL_law_204 : decode cL_law 204 = .ok (.iconst 2, 1) := by decide +kernel
theorem dL_law_205 : decode cL_law 205 = .ok (.iadd, 1) := by decide +kernel
theorem dL_law_206 : decode cL_law 206 = .ok (.iaload, 1) := by decide +kernel
theorem dL_law_207 : decode cL_law 207 = .ok (.invokevirtual 27, 3) := by decide +kernel
theorem dL_law_210 : decode cL_law 210 = .ok (.if_icmp .eq 332, 3) := by decide +kernel
theorem dL_law_213 : decode cL_law 213 = .ok (.iconst 0, 1) := by decide +kernel
theorem dL_law_214 : decode cL_law 214 = .ok (.ireturn, 1) := by decide +kernel
theorem dL_law_215 : decode cL_law 215 = .ok (.aload_n 1, 1) := by decide +kernel
theorem dL_law_216 : decode cL_law 216 = .ok (.invokevirtual 28, 3) := by decide +kernel
theorem dL_law_219 : decode cL_law 219 = .ok (.aload_n 2, 1) := by decide +kernel
theorem dL_law_220 : decode cL_law 220 = .ok (.invokevirtual 31, 3) := by decide +kernel
theorem dL_law_223 : decode cL_law 223 = .ok (.if_icmp .eq 319, 3) := by decide +kernel
theorem dL_law_226 : decode cL_law 226 = .ok (.iconst 0, 1) := by decide +kernel
theorem dL_law_227 : decode cL_law 227 = .ok (.ireturn, 1) := by decide +kernel
theorem dL_law_228 : decode cL_law 228 = .ok (.aload_n 1, 1) := by decide +kernel
theorem dL_law_229 : decode cL_law 229 = .ok (.invokevirtual 32, 3) := by decide +kernel
theorem dL_law_232 : decode cL_law 232 = .ok (.aload_n 2, 1) := by decide +kernel
theorem dL_law_233 : decode cL_law 233 = .ok (.invokevirtual 36, 3) := by decide +kernel
theorem dL_law_236 : decode cL_law 236 = .ok (.lcmp, 1) := by decide +kernel
theorem dL_law_237 : decode cL_law 237 = .ok (.ifCond .eq 305, 3) := by decide +kernel
theorem dL_law_240 : decode cL_law 240 = .ok (.iconst 0, 1) := by decide +kernel
theorem dL_law_241 : decode cL_law 241 = .ok (.ireturn, 1) := by decide +kernel
theorem dL_law_242 : decode cL_law 242 = .ok (.aload_n 1, 1) := by decide +kernel
theorem dL_law_243 : decode cL_law 243 = .ok (.invokevirtual 37, 3) := by decide +kernel
theorem dL_law_246 : decode cL_law 246 = .ok (.aload_n 2, 1) := by decide +kernel
theorem dL_law_247 : decode cL_law 247 = .ok (.invokevirtual 40, 3) := by decide +kernel
theorem dL_law_250 : decode cL_law 250 = .ok (.if_icmp .eq 292, 3) := by decide +kernel
theorem dL_law_253 : decode cL_law 253 = .ok (.iconst 0, 1) := by decide +kernel
theorem dL_law_254 : decode cL_law 254 = .ok (.ireturn, 1) := by decide +kernel
theorem dL_law_255 : decode cL_law 255 = .ok (.aload_n 1, 1) := by decide +kernel
theorem dL_law_256 : decode cL_law 256 = .ok (.aload_n 0, 1) := by decide +kernel
theorem dL_law_257 : decode cL_law 257 = .ok (.iload_n 3, 1) := by decide +kernel
theorem dL_law_258 : decode cL_law 258 = .ok (.iconst 1, 1) := by decide +kernel
theorem dL_law_259 : decode cL_law 259 = .ok (.iadd, 1) := by decide +kernel
theorem dL_law_260 : decode cL_law 260 = .ok (.iaload, 1) := by decide +kernel
theorem dL_law_261 : decode cL_law 261 = .ok (.invokevirtual 41, 3) := by decide +kernel
theorem dL_law_264 : decode cL_law 264 = .ok (.aload_n 2, 1) := by decide +kernel
theorem dL_law_265 : decode cL_law 265 = .ok (.aload_n 0, 1) := by decide +kernel
theorem dL_law_266 : decode cL_law 266 = .ok (.iload_n 3, 1) := by decide +kernel
theorem dL_law_267 : decode cL_law 267 = .ok (.iconst 1, 1) := by decide +kernel
theorem dL_law_268 : decode cL_law 268 = .ok (.iadd, 1) := by decide +kernel
theorem dL_law_269 : decode cL_law 269 = .ok (.iaload, 1) := by decide +kernel
theorem dL_law_270 : decode cL_law 270 = .ok (.invokevirtual 45, 3) := by decide +kernel
theorem dL_law_273 : decode cL_law 273 = .ok (.if_icmp .eq 269, 3) := by decide +kernel
theorem dL_law_276 : decode cL_law 276 = .ok (.iconst 0, 1) := by decide +kernel
theorem dL_law_277 : decode cL_law 277 = .ok (.ireturn, 1) := by decide +kernel
theorem dL_law_278 : decode cL_law 278 = .ok (.aload_n 1, 1) := by decide +kernel
theorem dL_law_279 : decode cL_law 279 = .ok (.aload_n 0, 1) := by decide +kernel
theorem dL_law_280 : decode cL_law 280 = .ok (.iload_n 3, 1) := by decide +kernel
theorem dL_law_281 : decode cL_law 281 = .ok (.iconst 1, 1) := by decide +kernel
theorem dL_law_282 : decode cL_law 282 = .ok (.iadd, 1) := by decide +kernel
theorem dL_law_283 : decode cL_law 283 = .ok (.iaload, 1) := by decide +kernel
theorem dL_law_284 : decode cL_law 284 = .ok (.invokevirtual 46, 3) := by decide +kernel
theorem dL_law_287 : decode cL_law 287 = .ok (.aload_n 2, 1) := by decide +kernel
theorem dL_law_288 : decode cL_law 288 = .ok (.aload_n 0, 1) := by decide +kernel
theorem dL_law_289 : decode cL_law 289 = .ok (.iload_n 3, 1) := by decide +kernel
theorem dL_law_290 : decode cL_law 290 = .ok (.iconst 1, 1) := by decide +kernel
theorem dL_law_291 : decode cL_law 291 = .ok (.iadd, 1) := by decide +kernel
theorem dL_law_292 : decode cL_law 292 = .ok (.iaload, 1) := by decide +kernel
theorem dL_law_293 : decode cL_law 293 = .ok (.invokevirtual 50, 3) := by decide +kernel
theorem dL_law_296 : decode cL_law 296 = .ok (.lcmp, 1) := by decide +kernel
theorem dL_law_297 : decode cL_law 297 = .ok (.ifCond .eq 245, 3) := by decide +kernel
theorem dL_law_300 : decode cL_law 300 = .ok (.iconst 0, 1) := by decide +kernel
theorem dL_law_301 : decode cL_law 301 = .ok (.ireturn, 1) := by decide +kernel
theorem dL_law_302 : decode cL_law 302 = .ok (.aload_n 1, 1) := by decide +kernel
theorem dL_law_303 : decode cL_law 303 = .ok (.aload_n 0, 1) := by decide +kernel
theorem dL_law_304 : decode cL_law 304 = .ok (.iload_n 3, 1) := by decide +kernel
theorem dL_law_305 : decode cL_law 305 = .ok (.iconst 1, 1) := by decide +kernel
theorem dL_law_306 : decode cL_law 306 = .ok (.iadd, 1) := by decide +kernel
theorem dL_law_307 : decode cL_law 307 = .ok (.iaload, 1) := by decide +kernel
theorem dL_law_308 : decode cL_law 308 = .ok (.invokevirtual 51, 3) := by decide +kernel
theorem dL_law_311 : decode cL_law 311 = .ok (.aload_n 2, 1) := by decide +kernel
theorem dL_law_312 : decode cL_law 312 = .ok (.aload_n 0, 1) := by decide +kernel
theorem dL_law_313 : decode cL_law 313 = .ok (.iload_n 3, 1) := by decide +kernel
theorem dL_law_314 : decode cL_law 314 = .ok (.iconst 1, 1) := by decide +kernel
theorem dL_law_315 : decode cL_law 315 = .ok (.iadd, 1) := by decide +kernel
theorem dL_law_316 : decode cL_law 316 = .ok (.iaload, 1) := by decide +kernel
theorem dL_law_317 : decode cL_law 317 = .ok (.invokevirtual 54, 3) := by decide +kernel
theorem dL_law_320 : decode cL_law 320 = .ok (.if_icmp .eq 222, 3) := by decide +kernel
theorem dL_law_323 : decode cL_law 323 = .ok (.iconst 0, 1) := by decide +kernel
theorem dL_law_324 : decode cL_law 324 = .ok (.ireturn, 1) := by decide +kernel
theorem dL_law_325 : decode cL_law 325 = .ok (.aload_n 1, 1) := by decide +kernel
theorem dL_law_326 : decode cL_law 326 = .ok (.invokevirtual 55, 3) := by decide +kernel
theorem dL_law_329 : decode cL_law 329 = .ok (.aload_n 2, 1) := by decide +kernel
theorem dL_law_330 : decode cL_law 330 = .ok (.invokevirtual 58, 3) := by decide +kernel
theorem dL_law_333 : decode cL_law 333 = .ok (.if_icmp .eq 209, 3) := by decide +kernel
theorem dL_law_336 : decode cL_law 336 = .ok (.iconst 0, 1) := by decide +kernel
theorem dL_law_337 : decode cL_law 337 = .ok (.ireturn, 1) := by decide +kernel
theorem dL_law_338 : decode cL_law 338 = .ok (.aload_n 1, 1) := by decide +kernel
theorem dL_law_339 : decode cL_law 339 = .ok (.aload_n 0, 1) := by decide +kernel
theorem dL_law_340 : decode cL_law 340 = .ok (.iload_n 3, 1) := by decide +kernel
theorem dL_law_341 : decode cL_law 341 = .ok (.iconst 1, 1) := by decide +kernel
theorem dL_law_342 : decode cL_law 342 = .ok (.iadd, 1) := by decide +kernel
theorem dL_law_343 : decode cL_law 343 = .ok (.iaload, 1) := by decide +kernel
theorem dL_law_344 : decode cL_law 344 = .ok (.invokevirtual 59, 3) := by decide +kernel
theorem dL_law_347 : decode cL_law 347 = .ok (.aload_n 2, 1) := by decide +kernel
theorem dL_law_348 : decode cL_law 348 = .ok (.aload_n 0, 1) := by decide +kernel
theorem dL_law_349 : decode cL_law 349 = .ok (.iload_n 3, 1) := by decide +kernel
theorem dL_law_350 : decode cL_law 350 = .ok (.iconst 1, 1) := by decide +kernel
theorem dL_law_351 : decode cL_law 351 = .ok (.iadd, 1) := by decide +kernel
theorem dL_law_352 : decode cL_law 352 = .ok (.iaload, 1) := by decide +kernel
theorem dL_law_353 : decode cL_law 353 = .ok (.invokevirtual 62, 3) := by decide +kernel
theorem dL_law_356 : decode cL_law 356 = .ok (.if_icmp .eq 186, 3) := by decide +kernel
theorem dL_law_359 : decode cL_law 359 = .ok (.iconst 0, 1) := by decide +kernel
theorem dL_law_360 : decode cL_law 360 = .ok (.ireturn, 1) := by decide +kernel
theorem dL_law_361 : decode cL_law 361 = .ok (.aload_n 1, 1) := by decide +kernel
theorem dL_law_362 : decode cL_law 362 = .ok (.aload_n 0, 1) := by decide +kernel
theorem dL_law_363 : decode cL_law 363 = .ok (.iload_n 3, 1) := by decide +kernel
theorem dL_law_364 : decode cL_law 364 = .ok (.iconst 1, 1) := by decide +kernel
theorem dL_law_365 : decode cL_law 365 = .ok (.iadd, 1) := by decide +kernel
theorem dL_law_366 : decode cL_law 366 = .ok (.iaload, 1) := by decide +kernel
theorem dL_law_367 : decode cL_law 367 = .ok (.invokevirtual 63, 3) := by decide +kernel
theorem dL_law_370 : decode cL_law 370 = .ok (.aload_n 2, 1) := by decide +kernel
theorem dL_law_371 : decode cL_law 371 = .ok (.aload_n 0, 1) := by decide +kernel
theorem dL_law_372 : decode cL_law 372 = .ok (.iload_n 3, 1) := by decide +kernel
theorem dL_law_373 : decode cL_law 373 = .ok (.iconst 1, 1) := by decide +kernel
theorem dL_law_374 : decode cL_law 374 = .ok (.iadd, 1) := by decide +kernel
theorem dL_law_375 : decode cL_law 375 = .ok (.iaload, 1) := by decide +kernel
theorem dL_law_376 : decode cL_law 376 = .ok (.invokevirtual 66, 3) := by decide +kernel
theorem dL_law_379 : decode cL_law 379 = .ok (.lcmp, 1) := by decide +kernel
theorem dL_law_380 : decode cL_law 380 = .ok (.ifCond .eq 162, 3) := by decide +kernel
theorem dL_law_383 : decode cL_law 383 = .ok (.iconst 0, 1) := by decide +kernel
theorem dL_law_384 : decode cL_law 384 = .ok (.ireturn, 1) := by decide +kernel
theorem dL_law_385 : decode cL_law 385 = .ok (.aload_n 1, 1) := by decide +kernel
theorem dL_law_386 : decode cL_law 386 = .ok (.aload_n 0, 1) := by decide +kernel
theorem dL_law_387 : decode cL_law 387 = .ok (.iload_n 3, 1) := by decide +kernel
theorem dL_law_388 : decode cL_law 388 = .ok (.iconst 1, 1) := by decide +kernel
theorem dL_law_389 : decode cL_law 389 = .ok (.iadd, 1) := by decide +kernel
theorem dL_law_390 : decode cL_law 390 = .ok (.iaload, 1) := by decide +kernel
theorem dL_law_391 : decode cL_law 391 = .ok (.invokevirtual 67, 3) := by decide +kernel
theorem dL_law_394 : decode cL_law 394 = .ok (.aload_n 2, 1) := by decide +kernel
theorem dL_law_395 : decode cL_law 395 = .ok (.aload_n 0, 1) := by decide +kernel
theorem dL_law_396 : decode cL_law 396 = .ok (.iload_n 3, 1) := by decide +kernel
theorem dL_law_397 : decode cL_law 397 = .ok (.iconst 1, 1) := by decide +kernel
theorem dL_law_398 : decode cL_law 398 = .ok (.iadd, 1) := by decide +kernel
theorem dL_law_399 : decode cL_law 399 = .ok (.iaload, 1) := by decide +kernel
theorem dL_law_400 : decode cL_law 400 = .ok (.invokevirtual 70, 3) := by decide +kernel
theorem dL_law_403 : decode cL_law 403 = .ok (.if_icmp .eq 139, 3) := by decide +kernel
theorem dL_law_406 : decode cL_law 406 = .ok (.iconst 0, 1) := by decide +kernel
theorem dL_law_407 : decode cL_law 407 = .ok (.ireturn, 1) := by decide +kernel
theorem dL_law_408 : decode cL_law 408 = .ok (.aload_n 1, 1) := by decide +kernel
theorem dL_law_409 : decode cL_law 409 = .ok (.aload_n 0, 1) := by decide +kernel
theorem dL_law_410 : decode cL_law 410 = .ok (.iload_n 3, 1) := by decide +kernel
theorem dL_law_411 : decode cL_law 411 = .ok (.iconst 1, 1) := by decide +kernel
theorem dL_law_412 : decode cL_law 412 = .ok (.iadd, 1) := by decide +kernel
theorem dL_law_413 : decode cL_law 413 = .ok (.iaload, 1) := by decide +kernel
theorem dL_law_414 : decode cL_law 414 = .ok (.invokevirtual 71, 3) := by decide +kernel
theorem dL_law_417 : decode cL_law 417 = .ok (.aload_n 2, 1) := by decide +kernel
theorem dL_law_418 : decode cL_law 418 = .ok (.aload_n 0, 1) := by decide +kernel
theorem dL_law_419 : decode cL_law 419 = .ok (.iload_n 3, 1) := by decide +kernel
theorem dL_law_420 : decode cL_law 420 = .ok (.iconst 1, 1) := by decide +kernel
theorem dL_law_421 : decode cL_law 421 = .ok (.iadd, 1) := by decide +kernel
theorem dL_law_422 : decode cL_law 422 = .ok (.iaload, 1) := by decide +kernel
theorem dL_law_423 : decode cL_law 423 = .ok (.invokevirtual 74, 3) := by decide +kernel
theorem dL_law_426 : decode cL_law 426 = .ok (.lcmp, 1) := by decide +kernel
theorem dL_law_427 : decode cL_law 427 = .ok (.ifCond .eq 115, 3) := by decide +kernel
theorem dL_law_430 : decode cL_law 430 = .ok (.iconst 0, 1) := by decide +kernel
theorem dL_law_431 : decode cL_law 431 = .ok (.ireturn, 1) := by decide +kernel
theorem dL_law_432 : decode cL_law 432 = .ok (.aload_n 1, 1) := by decide +kernel
theorem dL_law_433 : decode cL_law 433 = .ok (.aload_n 0, 1) := by decide +kernel
theorem dL_law_434 : decode cL_law 434 = .ok (.iload_n 3, 1) := by decide +kernel
theorem dL_law_435 : decode cL_law 435 = .ok (.iconst 1, 1) := by decide +kernel
theorem dL_law_436 : decode cL_law 436 = .ok (.iadd, 1) := by decide +kernel
theorem dL_law_437 : decode cL_law 437 = .ok (.iaload, 1) := by decide +kernel
theorem dL_law_438 : decode cL_law 438 = .ok (.aload_n 0, 1) := by decide +kernel
theorem dL_law_439 : decode cL_law 439 = .ok (.iload_n 3, 1) := by decide +kernel
theorem dL_law_440 : decode cL_law 440 = .ok (.iconst 2, 1) := by decide +kernel
theorem dL_law_441 : decode cL_law 441 = .ok (.iadd, 1) := by decide +kernel
theorem dL_law_442 : decode cL_law 442 = .ok (.iaload, 1) := by decide +kernel
theorem dL_law_443 : decode cL_law 443 = .ok (.invokevirtual 75, 3) := by decide +kernel
theorem dL_law_446 : decode cL_law 446 = .ok (.aload_n 2, 1) := by decide +kernel
theorem dL_law_447 : decode cL_law 447 = .ok (.aload_n 0, 1) := by decide +kernel
theorem dL_law_448 : decode cL_law 448 = .ok (.iload_n 3, 1) := by decide +kernel
theorem dL_law_449 : decode cL_law 449 = .ok (.iconst 1, 1) := by decide +kernel
theorem dL_law_450 : decode cL_law 450 = .ok (.iadd, 1) := by decide +kernel
theorem dL_law_451 : decode cL_law 451 = .ok (.iaload, 1) := by decide +kernel
theorem dL_law_452 : decode cL_law 452 = .ok (.aload_n 0, 1) := by decide +kernel
theorem dL_law_453 : decode cL_law 453 = .ok (.iload_n 3, 1) := by decide +kernel
theorem dL_law_454 : decode cL_law 454 = .ok (.iconst 2, 1) := by decide +kernel
theorem dL_law_455 : decode cL_law 455 = .ok (.iadd, 1) := by decide +kernel
theorem dL_law_456 : decode cL_law 456 = .ok (.iaload, 1) := by decide +kernel
theorem dL_law_457 : decode cL_law 457 = .ok (.invokevirtual 78, 3) := by decide +kernel
theorem dL_law_460 : decode cL_law 460 = .ok (.if_icmp .eq 82, 3) := by decide +kernel
theorem dL_law_463 : decode cL_law 463 = .ok (.iconst 0, 1) := by decide +kernel
theorem dL_law_464 : decode cL_law 464 = .ok (.ireturn, 1) := by decide +kernel
theorem dL_law_465 : decode cL_law 465 = .ok (.aload_n 1, 1) := by decide +kernel
theorem dL_law_466 : decode cL_law 466 = .ok (.aload_n 0, 1) := by decide +kernel
theorem dL_law_467 : decode cL_law 467 = .ok (.iload_n 3, 1) := by decide +kernel
theorem dL_law_468 : decode cL_law 468 = .ok (.iconst 1, 1) := by decide +kernel
theorem dL_law_469 : decode cL_law 469 = .ok (.iadd, 1) := by decide +kernel
theorem dL_law_470 : decode cL_law 470 = .ok (.iaload, 1) := by decide +kernel
theorem dL_law_471 : decode cL_law 471 = .ok (.aload_n 0, 1) := by decide +kernel
theorem dL_law_472 : decode cL_law 472 = .ok (.iload_n 3, 1) := by decide +kernel
theorem dL_law_473 : decode cL_law 473 = .ok (.iconst 2, 1) := by decide +kernel
theorem dL_law_474 : decode cL_law 474 = .ok (.iadd, 1) := by decide +kernel
theorem dL_law_475 : decode cL_law 475 = .ok (.iaload, 1) := by decide +kernel
theorem dL_law_476 : decode cL_law 476 = .ok (.aload_n 0, 1) := by decide +kernel
theorem dL_law_477 : decode cL_law 477 = .ok (.iload_n 3, 1) := by decide +kernel
theorem dL_law_478 : decode cL_law 478 = .ok (.iconst 3, 1) := by decide +kernel
theorem dL_law_479 : decode cL_law 479 = .ok (.iadd, 1) := by decide +kernel
theorem dL_law_480 : decode cL_law 480 = .ok (.iaload, 1) := by decide +kernel
theorem dL_law_481 : decode cL_law 481 = .ok (.invokevirtual 79, 3) := by decide +kernel
theorem dL_law_484 : decode cL_law 484 = .ok (.aload_n 2, 1) := by decide +kernel
theorem dL_law_485 : decode cL_law 485 = .ok (.aload_n 0, 1) := by decide +kernel
theorem dL_law_486 : decode cL_law 486 = .ok (.iload_n 3, 1) := by decide +kernel
theorem dL_law_487 : decode cL_law 487 = .ok (.iconst 1, 1) := by decide +kernel
theorem dL_law_488 : decode cL_law 488 = .ok (.iadd, 1) := by decide +kernel
theorem dL_law_489 : decode cL_law 489 = .ok (.iaload, 1) := by decide +kernel
theorem dL_law_490 : decode cL_law 490 = .ok (.aload_n 0, 1) := by decide +kernel
theorem dL_law_491 : decode cL_law 491 = .ok (.iload_n 3, 1) := by decide +kernel
theorem dL_law_492 : decode cL_law 492 = .ok (.iconst 2, 1) := by decide +kernel
theorem dL_law_493 : decode cL_law 493 = .ok (.iadd, 1) := by decide +kernel
theorem dL_law_494 : decode cL_law 494 = .ok (.iaload, 1) := by decide +kernel
theorem dL_law_495 : decode cL_law 495 = .ok (.aload_n 0, 1) := by decide +kernel
theorem dL_law_496 : decode cL_law 496 = .ok (.iload_n 3, 1) := by decide +kernel
theorem dL_law_497 : decode cL_law 497 = .ok (.iconst 3, 1) := by decide +kernel
theorem dL_law_498 : decode cL_law 498 = .ok (.iadd, 1) := by decide +kernel
theorem dL_law_499 : decode cL_law 499 = .ok (.iaload, 1) := by decide +kernel
theorem dL_law_500 : decode cL_law 500 = .ok (.invokevirtual 83, 3) := by decide +kernel
theorem dL_law_503 : decode cL_law 503 = .ok (.lcmp, 1) := by decide +kernel
theorem dL_law_504 : decode cL_law 504 = .ok (.ifCond .eq 38, 3) := by decide +kernel
theorem dL_law_507 : decode cL_law 507 = .ok (.iconst 0, 1) := by decide +kernel
theorem dL_law_508 : decode cL_law 508 = .ok (.ireturn, 1) := by decide +kernel
theorem dL_law_509 : decode cL_law 509 = .ok (.aload_n 1, 1) := by decide +kernel
theorem dL_law_510 : decode cL_law 510 = .ok (.aload_n 0, 1) := by decide +kernel
theorem dL_law_511 : decode cL_law 511 = .ok (.iload_n 3, 1) := by decide +kernel
theorem dL_law_512 : decode cL_law 512 = .ok (.iconst 1, 1) := by decide +kernel
theorem dL_law_513 : decode cL_law 513 = .ok (.iadd, 1) := by decide +kernel
theorem dL_law_514 : decode cL_law 514 = .ok (.iaload, 1) := by decide +kernel
theorem dL_law_515 : decode cL_law 515 = .ok (.aload_n 0, 1) := by decide +kernel
theorem dL_law_516 : decode cL_law 516 = .ok (.iload_n 3, 1) := by decide +kernel
theorem dL_law_517 : decode cL_law 517 = .ok (.iconst 2, 1) := by decide +kernel
theorem dL_law_518 : decode cL_law 518 = .ok (.iadd, 1) := by decide +kernel
theorem dL_law_519 : decode cL_law 519 = .ok (.iaload, 1) := by decide +kernel
theorem dL_law_520 : decode cL_law 520 = .ok (.invokevirtual 84, 3) := by decide +kernel
theorem dL_law_523 : decode cL_law 523 = .ok (.aload_n 2, 1) := by decide +kernel
theorem dL_law_524 : decode cL_law 524 = .ok (.aload_n 0, 1) := by decide +kernel
theorem dL_law_525 : decode cL_law 525 = .ok (.iload_n 3, 1) := by decide +kernel
theorem dL_law_526 : decode cL_law 526 = .ok (.iconst 1, 1) := by decide +kernel
theorem dL_law_527 : decode cL_law 527 = .ok (.iadd, 1) := by decide +kernel
theorem dL_law_528 : decode cL_law 528 = .ok (.iaload, 1) := by decide +kernel
theorem dL_law_529 : decode cL_law 529 = .ok (.aload_n 0, 1) := by decide +kernel
theorem dL_law_530 : decode cL_law 530 = .ok (.iload_n 3, 1) := by decide +kernel
theorem dL_law_531 : decode cL_law 531 = .ok (.iconst 2, 1) := by decide +kernel
theorem dL_law_532 : decode cL_law 532 = .ok (.iadd, 1) := by decide +kernel
theorem dL_law_533 : decode cL_law 533 = .ok (.iaload, 1) := by decide +kernel
theorem dL_law_534 : decode cL_law 534 = .ok (.invokevirtual 87, 3) := by decide +kernel
theorem dL_law_537 : decode cL_law 537 = .ok (.if_icmp .eq 5, 3) := by decide +kernel
theorem dL_law_540 : decode cL_law 540 = .ok (.iconst 0, 1) := by decide +kernel
theorem dL_law_541 : decode cL_law 541 = .ok (.ireturn, 1) := by decide +kernel
theorem dL_law_542 : decode cL_law 542 = .ok (.iinc 3 5, 3) := by decide +kernel
theorem dL_law_545 : decode cL_law 545 = .ok (.goto (-527), 3) := by decide +kernel
theorem dL_law_548 : decode cL_law 548 = .ok (.iconst 1, 1) := by decide +kernel
theorem dL_law_549 : decode cL_law 549 = .ok (.ireturn, 1) := by decide +kernel
