theorem dX0_init_0 : decode cX0_init 0 = .ok (.aload_n 0, 1) := by decide +kernel
theorem dX0_init_1 : decode cX0_init 1 = .ok (.invokespecial 3, 3) := by decide +kernel
theorem dX0_init_4 : decode cX0_init 4 = .ok (.aload_n 0, 1) := by decide +kernel
theorem dX0_init_5 : decode cX0_init 5 = .ok (.sipush 360, 3) := by decide +kernel
theorem dX0_init_8 : decode cX0_init 8 = .ok (.newarray .int, 2) := by decide +kernel
theorem dX0_init_10 : decode cX0_init 10 = .ok (.putfield 11, 3) := by decide +kernel
theorem dX0_init_13 : decode cX0_init 13 = .ok (.aload_n 0, 1) := by decide +kernel
theorem dX0_init_14 : decode cX0_init 14 = .ok (.iconst 0, 1) := by decide +kernel
theorem dX0_init_15 : decode cX0_init 15 = .ok (.putfield 15, 3) := by decide +kernel
theorem dX0_init_18 : decode cX0_init 18 = .ok (.return_, 1) := by decide +kernel
theorem dX0_replaceBy_0 : decode cX0_replaceBy 0 = .ok (.aload_n 1, 1) := by decide +kernel
theorem dX0_replaceBy_1 : decode cX0_replaceBy 1 = .ok (.invokevirtual 19, 3) := by decide +kernel
theorem dX0_replaceBy_4 : decode cX0_replaceBy 4 = .ok (.istore_n 2, 1) := by decide +kernel
theorem dX0_replaceBy_5 : decode cX0_replaceBy 5 = .ok (.iload_n 2, 1) := by decide +kernel
theorem dX0_replaceBy_6 : decode cX0_replaceBy 6 = .ok (.bipush 120, 2) := by decide +kernel
theorem dX0_replaceBy_8 : decode cX0_replaceBy 8 = .ok (.if_icmp .le 5, 3) := by decide +kernel
theorem dX0_replaceBy_11 : decode cX0_replaceBy 11 = .ok (.iconst 0, 1) := by decide +kernel
theorem dX0_replaceBy_12 : decode cX0_replaceBy 12 = .ok (.ireturn, 1) := by decide +kernel
theorem dX0_replaceBy_13 : decode cX0_replaceBy 13 = .ok (.aload_n 0, 1) := by decide +kernel
theorem dX0_replaceBy_14 : decode cX0_replaceBy 14 = .ok (.iload_n 2, 1) := by decide +kernel
theorem dX0_replaceBy_15 : decode cX0_replaceBy 15 = .ok (.putfield 15, 3) := by decide +kernel
theorem dX0_replaceBy_18 : decode cX0_replaceBy 18 = .ok (.aload_n 1, 1) := by decide +kernel
theorem dX0_replaceBy_19 : decode cX0_replaceBy 19 = .ok (.getfield 25, 3) := by decide +kernel
theorem dX0_replaceBy_22 : decode cX0_replaceBy 22 = .ok (.astore_n 3, 1) := by decide +kernel
theorem dX0_replaceBy_23 : decode cX0_replaceBy 23 = .ok (.aload_n 3, 1) := by decide +kernel
theorem dX0_replaceBy_24 : decode cX0_replaceBy 24 = .ok (.ifnull 25, 3) := by decide +kernel
theorem dX0_replaceBy_27 : decode cX0_replaceBy 27 = .ok (.aload_n 3, 1) := by decide +kernel
theorem dX0_replaceBy_28 : decode cX0_replaceBy 28 = .ok (.getfield 29, 3) := by decide +kernel
theorem dX0_replaceBy_31 : decode cX0_replaceBy 31 = .ok (.bipush 21, 2) := by decide +kernel
theorem dX0_replaceBy_33 : decode cX0_replaceBy 33 = .ok (.if_icmp .eq 8, 3) := by decide +kernel
theorem dX0_replaceBy_36 : decode cX0_replaceBy 36 = .ok (.aload_n 0, 1) := by decide +kernel
theorem dX0_replaceBy_37 : decode cX0_replaceBy 37 = .ok (.aload_n 3, 1) := by decide +kernel
theorem dX0_replaceBy_38 : decode cX0_replaceBy 38 = .ok (.invokevirtual 34, 3) := by decide +kernel
theorem dX0_replaceBy_41 : decode cX0_replaceBy 41 = .ok (.aload_n 3, 1) := by decide +kernel
theorem dX0_replaceBy_42 : decode cX0_replaceBy 42 = .ok (.getfield 38, 3) := by decide +kernel
theorem dX0_replaceBy_45 : decode cX0_replaceBy 45 = .ok (.astore_n 3, 1) := by decide +kernel
theorem dX0_replaceBy_46 : decode cX0_replaceBy 46 = .ok (.goto (-23), 3) := by decide +kernel
theorem dX0_replaceBy_49 : decode cX0_replaceBy 49 = .ok (.iconst 1, 1) := by decide +kernel
theorem dX0_replaceBy_50 : decode cX0_replaceBy 50 = .ok (.ireturn, 1) := by decide +kernel
theorem dX0_store_0 : decode cX0_store 0 = .ok (.iconst 3, 1) := by decide +kernel
theorem dX0_store_1 : decode cX0_store 1 = .ok (.aload_n 1, 1) := by decide +kernel
theorem dX0_store_2 : decode cX0_store 2 = .ok (.getfield 41, 3) := by decide +kernel
theorem dX0_store_5 : decode cX0_store 5 = .ok (.imul, 1) := by decide +kernel
theorem dX0_store_6 : decode cX0_store 6 = .ok (.istore_n 2, 1) := by decide +kernel
theorem dX0_store_7 : decode cX0_store 7 = .ok (.iload_n 2, 1) := by decide +kernel
theorem dX0_store_8 : decode cX0_store 8 = .ok (.ifCond .lt 14, 3) := by decide +kernel
theorem dX0_store_11 : decode cX0_store 11 = .ok (.iload_n 2, 1) := by decide +kernel
theorem dX0_store_12 : decode cX0_store 12 = .ok (.iconst 2, 1) := by decide +kernel
theorem dX0_store_13 : decode cX0_store 13 = .ok (.iadd, 1) := by decide +kernel
theorem dX0_store_14 : decode cX0_store 14 = .ok (.aload_n 0, 1) := by decide +kernel
theorem dX0_store_15 : decode cX0_store 15 = .ok (.getfield 11, 3) := by decide +kernel
theorem dX0_store_18 : decode cX0_store 18 = .ok (.arraylength, 1) := by decide +kernel
theorem dX0_store_19 : decode cX0_store 19 = .ok (.if_icmp .lt 4, 3) := by decide +kernel
theorem dX0_store_22 : decode cX0_store 22 = .ok (.return_, 1) := by decide +kernel
theorem dX0_store_23 : decode cX0_store 23 = .ok (.aload_n 1, 1) := by decide +kernel
theorem dX0_store_24 : decode cX0_store 24 = .ok (.getfield 44, 3) := by decide +kernel
theorem dX0_store_27 : decode cX0_store 27 = .ok (.ifnonnull 7, 3) := by decide +kernel
theorem dX0_store_30 : decode cX0_store 30 = .ok (.iconst 0, 1) := by decide +kernel
theorem dX0_store_31 : decode cX0_store 31 = .ok (.goto 10, 3) := by decide +kernel
theorem dX0_store_34 : decode cX0_store 34 = .ok (.aload_n 1, 1) := by decide +kernel
theorem dX0_store_35 : decode cX0_store 35 = .ok (.getfield 44, 3) := by decide +kernel
theorem dX0_store_38 : decode cX0_store 38 = .ok (.getfield 41, 3) := by decide +kernel
theorem dX0_store_41 : decode cX0_store 41 = .ok (.istore_n 3, 1) := by decide +kernel
theorem dX0_store_42 : decode cX0_store 42 = .ok (.aload_n 1, 1) := by decide +kernel
theorem dX0_store_43 : decode cX0_store 43 = .ok (.getfield 29, 3) := by decide +kernel
theorem dX0_store_46 : decode cX0_store 46 = .ok (.bipush 19, 2) := by decide +kernel
theorem dX0_store_48 : decode cX0_store 48 = .ok (.if_icmp .ne 7, 3) := by decide +kernel
theorem dX0_store_51 : decode cX0_store 51 = .ok (.iconst 1, 1) := by decide +kernel
theorem dX0_store_52 : decode cX0_store 52 = .ok (.goto 4, 3) := by decide +kernel
theorem dX0_store_55 : decode cX0_store 55 = .ok (.iconst 0, 1) := by decide +kernel
theorem dX0_store_56 : decode cX0_store 56 = .ok (.istore 4, 2) := by decide +kernel
theorem dX0_store_58 : decode cX0_store 58 = .ok (.aload_n 0, 1) := by decide +kernel
theorem dX0_store_59 : decode cX0_store 59 = .ok (.getfield 11, 3) := by decide +kernel
theorem dX0_store_62 : decode cX0_store 62 = .ok (.iload_n 2, 1) := by decide +kernel
theorem dX0_store_63 : decode cX0_store 63 = .ok (.aload_n 1, 1) := by decide +kernel
theorem dX0_store_64 : decode cX0_store 64 = .ok (.getfield 29, 3) := by decide +kernel
theorem dX0_store_67 : decode cX0_store 67 = .ok (.iastore, 1) := by decide +kernel
theorem dX0_store_68 : decode cX0_store 68 = .ok (.aload_n 0, 1) := by decide +kernel
theorem dX0_store_69 : decode cX0_store 69 = .ok (.getfield 11, 3) := by decide +kernel
theorem dX0_store_72 : decode cX0_store 72 = .ok (.iload_n 2, 1) := by decide +kernel
theorem dX0_store_73 : decode cX0_store 73 = .ok (.iconst 1, 1) := by decide +kernel
theorem dX0_store_74 : decode cX0_store 74 = .ok (.iadd, 1) := by decide +kernel
theorem dX0_store_75 : decode cX0_store 75 = .ok (.aload_n 1, 1) := by decide +kernel
theorem dX0_store_76 : decode cX0_store 76 = .ok (.getfield 44, 3) := by decide +kernel
theorem dX0_store_79 : decode cX0_store 79 = .ok (.ifnull 8, 3) := by decide +kernel
theorem dX0_store_82 : decode cX0_store 82 = .ok (.iload 4, 2) := by decide +kernel
theorem dX0_store_84 : decode cX0_store 84 = .ok (.ifCond .eq 10, 3) := by decide +kernel
theorem dX0_store_87 : decode cX0_store 87 = .ok (.aload_n 1, 1) := by decide +kernel
theorem dX0_store_88 : decode cX0_store 88 = .ok (.getfield 47, 3) := by decide +kernel
theorem dX0_store_91 : decode cX0_store 91 = .ok (.goto 4, 3) := by decide +kernel
theorem dX0_store_94 : decode cX0_store 94 = .ok (.iload_n 3, 1) := by decide +kernel
theorem dX0_store_95 : decode cX0_store 95 = .ok (.iastore, 1) := by decide +kernel
theorem dX0_store_96 : decode cX0_store 96 = .ok (.aload_n 0, 1) := by decide +kernel
theorem dX0_store_97 : decode cX0_store 97 = .ok (.getfield 11, 3) := by decide +kernel
theorem dX0_store_100 : decode cX0_store 100 = .ok (.iload_n 2, 1) := by decide +kernel
theorem dX0_store_101 : decode cX0_store 101 = .ok (.iconst 2, 1) := by decide +kernel
theorem dX0_store_102 : decode cX0_store 102 = .ok (.iadd, 1) := by decide +kernel
theorem dX0_store_103 : decode cX0_store 103 = .ok (.iload 4, 2) := by decide +kernel
theorem dX0_store_105 : decode cX0_store 105 = .ok (.ifCond .eq 7, 3) := by decide +kernel
theorem dX0_store_108 : decode cX0_store 108 = .ok (.iload_n 3, 1) := by decide +kernel
theorem dX0_store_109 : decode cX0_store 109 = .ok (.goto 4, 3) := by decide +kernel
theorem dX0_store_112 : decode cX0_store 112 = .ok (.iconst 0, 1) := by decide +kernel
theorem dX0_store_113 : decode cX0_store 113 = .ok (.iastore, 1) := by decide +kernel
theorem dX0_store_114 : decode cX0_store 114 = .ok (.return_, 1) := by decide +kernel
theorem dX0_part_0 : decode cX0_part 0 = .ok (.iload_n 1, 1) := by decide +kernel
theorem dX0_part_1 : decode cX0_part 1 = .ok (.ifCond .lt 20, 3) := by decide +kernel
theorem dX0_part_4 : decode cX0_part 4 = .ok (.iload_n 1, 1) := by decide +kernel
theorem dX0_part_5 : decode cX0_part 5 = .ok (.aload_n 0, 1) := by decide +kernel
theorem dX0_part_6 : decode cX0_part 6 = .ok (.getfield 15, 3) := by decide +kernel
theorem dX0_part_9 : decode cX0_part 9 = .ok (.if_icmp .ge 12, 3) := by decide +kernel
theorem dX0_part_12 : decode cX0_part 12 = .ok (.iload_n 2, 1) := by decide +kernel
theorem dX0_part_13 : decode cX0_part 13 = .ok (.ifCond .lt 8, 3) := by decide +kernel
theorem dX0_part_16 : decode cX0_part 16 = .ok (.iload_n 2, 1) := by decide +kernel
theorem dX0_part_17 : decode cX0_part 17 = .ok (.iconst 3, 1) := by decide +kernel
theorem dX0_part_18 : decode cX0_part 18 = .ok (.if_icmp .lt 5, 3) := by decide +kernel
theorem dX0_part_21 : decode cX0_part 21 = .ok (.iconst (-1), 1) := by decide +kernel
theorem dX0_part_22 : decode cX0_part 22 = .ok (.ireturn, 1) := by decide +kernel
theorem dX0_part_23 : decode cX0_part 23 = .ok (.aload_n 0, 1) := by decide +kernel
theorem dX0_part_24 : decode cX0_part 24 = .ok (.getfield 11, 3) := by decide +kernel
theorem dX0_part_27 : decode cX0_part 27 = .ok (.iconst 3, 1) := by decide +kernel
theorem dX0_part_28 : decode cX0_part 28 = .ok (.iload_n 1, 1) := by decide +kernel
theorem dX0_part_29 : decode cX0_part 29 = .ok (.imul, 1) := by decide +kernel
theorem dX0_part_30 : decode cX0_part 30 = .ok (.iload_n 2, 1) := by decide +kernel
theorem dX0_part_31 : decode cX0_part 31 = .ok (.iadd, 1) := by decide +kernel
theorem dX0_part_32 : decode cX0_part 32 = .ok (.iaload, 1) := by decide +kernel
theorem dX0_part_33 : decode cX0_part 33 = .ok (.ireturn, 1) := by decide +kernel
theorem dX1_init_0 : decode cX1_init 0 = .ok (.aload_n 0, 1) := by decide +kernel
theorem dX1_init_1 : decode cX1_init 1 = .ok (.invokespecial 3, 3) := by decide +kernel
theorem dX1_init_4 : decode cX1_init 4 = .ok (.aload_n 0, 1) := by decide +kernel
theorem dX1_init_5 : decode cX1_init 5 = .ok (.iconst 0, 1) := by decide +kernel
theorem dX1_init_6 : decode cX1_init 6 = .ok (.putfield 9, 3) := by decide +kernel
theorem dX1_init_9 : decode cX1_init 9 = .ok (.aload_n 0, 1) := by decide +kernel
theorem dX1_init_10 : decode cX1_init 10 = .ok (.iconst 0, 1) := by decide +kernel
theorem dX1_init_11 : decode cX1_init 11 = .ok (.putfield 15, 3) := by decide +kernel
theorem dX1_init_14 : decode cX1_init 14 = .ok (.aload_n 0, 1) := by decide +kernel
theorem dX1_init_15 : decode cX1_init 15 = .ok (.iconst 0, 1) := by decide +kernel
theorem dX1_init_16 : decode cX1_init 16 = .ok (.putfield 18, 3) := by decide +kernel
theorem dX1_init_19 : decode cX1_init 19 = .ok (.aload_n 0, 1) := by decide +kernel
theorem dX1_init_20 : decode cX1_init 20 = .ok (.iload_n 1, 1) := by decide +kernel
theorem dX1_init_21 : decode cX1_init 21 = .ok (.newarray .int, 2) := by decide +kernel
theorem dX1_init_23 : decode cX1_init 23 = .ok (.putfield 21, 3) := by decide +kernel
theorem dX1_init_26 : decode cX1_init 26 = .ok (.aload_n 0, 1) := by decide +kernel
theorem dX1_init_27 : decode cX1_init 27 = .ok (.iload_n 1, 1) := by decide +kernel
theorem dX1_init_28 : decode cX1_init 28 = .ok (.newarray .int, 2) := by decide +kernel
theorem dX1_init_30 : decode cX1_init 30 = .ok (.putfield 25, 3) := by decide +kernel
theorem dX1_init_33 : decode cX1_init 33 = .ok (.aload_n 0, 1) := by decide +kernel
theorem dX1_init_34 : decode cX1_init 34 = .ok (.iload_n 1, 1) := by decide +kernel
theorem dX1_init_35 : decode cX1_init 35 = .ok (.newarray .int, 2) := by decide +kernel
theorem dX1_init_37 : decode cX1_init 37 = .ok (.putfield 28, 3) := by decide +kernel
theorem dX1_init_40 : decode cX1_init 40 = .ok (.return_, 1) := by decide +kernel
theorem dX1_clear_0 : decode cX1_clear 0 = .ok (.aload_n 0, 1) := by decide +kernel
theorem dX1_clear_1 : decode cX1_clear 1 = .ok (.iconst 0, 1) := by decide +kernel
theorem dX1_clear_2 : decode cX1_clear 2 = .ok (.putfield 9, 3) := by decide +kernel
theorem dX1_clear_5 : decode cX1_clear 5 = .ok (.aload_n 0, 1) := by decide +kernel
theorem dX1_clear_6 : decode cX1_clear 6 = .ok (.iconst 0, 1) := by decide +kernel
theorem dX1_clear_7 : decode cX1_clear 7 = .ok (.putfield 18, 3) := by decide +kernel
theorem dX1_clear_10 : decode cX1_clear 10 = .ok (.return_, 1) := by decide +kernel
theorem dX1_hasRoomFor_0 : decode cX1_hasRoomFor 0 = .ok (.iload_n 1, 1) := by decide +kernel
theorem dX1_hasRoomFor_1 : decode cX1_hasRoomFor 1 = .ok (.aload_n 0, 1) := by decide +kernel
theorem dX1_hasRoomFor_2 : decode cX1_hasRoomFor 2 = .ok (.getfield 21, 3) := by decide +kernel
theorem dX1_hasRoomFor_5 : decode cX1_hasRoomFor 5 = .ok (.arraylength, 1) := by decide +kernel
theorem dX1_hasRoomFor_6 : decode cX1_hasRoomFor 6 = .ok (.aload_n 0, 1) := by decide +kernel
theorem dX1_hasRoomFor_7 : decode cX1_hasRoomFor 7 = .ok (.getfield 9, 3) := by decide +kernel
theorem dX1_hasRoomFor_10 : decode cX1_hasRoomFor 10 = .ok (.isub, 1) := by decide +kernel
theorem dX1_hasRoomFor_11 : decode cX1_hasRoomFor 11 = .ok (.if_icmp .gt 7, 3) := by decide +kernel
theorem dX1_hasRoomFor_14 : decode cX1_hasRoomFor 14 = .ok (.iconst 1, 1) := by decide +kernel
theorem dX1_hasRoomFor_15 : decode cX1_hasRoomFor 15 = .ok (.goto 4, 3) := by decide +kernel
theorem dX1_hasRoomFor_18 : decode cX1_hasRoomFor 18 = .ok (.iconst 0, 1) := by decide +kernel
theorem dX1_hasRoomFor_19 : decode cX1_hasRoomFor 19 = .ok (.ireturn, 1) := by decide +kernel
theorem dX1_beginBlock_0 : decode cX1_beginBlock 0 = .ok (.iconst 4, 1) := by decide +kernel
theorem dX1_beginBlock_1 : decode cX1_beginBlock 1 = .ok (.aload_n 0, 1) := by decide +kernel
theorem dX1_beginBlock_2 : decode cX1_beginBlock 2 = .ok (.getfield 9, 3) := by decide +kernel
theorem dX1_beginBlock_5 : decode cX1_beginBlock 5 = .ok (.imul, 1) := by decide +kernel
theorem dX1_beginBlock_6 : decode cX1_beginBlock 6 = .ok (.istore_n 3, 1) := by decide +kernel
theorem dX1_beginBlock_7 : decode cX1_beginBlock 7 = .ok (.aload_n 0, 1) := by decide +kernel
theorem dX1_beginBlock_8 : decode cX1_beginBlock 8 = .ok (.bipush 16, 2) := by decide +kernel
theorem dX1_beginBlock_10 : decode cX1_beginBlock 10 = .ok (.iload_n 2, 1) := by decide +kernel
theorem dX1_beginBlock_11 : decode cX1_beginBlock 11 = .ok (.imul, 1) := by decide +kernel
theorem dX1_beginBlock_12 : decode cX1_beginBlock 12 = .ok (.iload_n 1, 1) := by decide +kernel
theorem dX1_beginBlock_13 : decode cX1_beginBlock 13 = .ok (.iadd, 1) := by decide +kernel
theorem dX1_beginBlock_14 : decode cX1_beginBlock 14 = .ok (.invokevirtual 31, 3) := by decide +kernel
theorem dX1_beginBlock_17 : decode cX1_beginBlock 17 = .ok (.iload_n 3, 1) := by decide +kernel
theorem dX1_beginBlock_18 : decode cX1_beginBlock 18 = .ok (.ireturn, 1) := by decide +kernel
theorem dX1_put_0 : decode cX1_put 0 = .ok (.aload_n 0, 1) := by decide +kernel
theorem dX1_put_1 : decode cX1_put 1 = .ok (.getfield 9, 3) := by decide +kernel
theorem dX1_put_4 : decode cX1_put 4 = .ok (.aload_n 0, 1) := by decide +kernel
theorem dX1_put_5 : decode cX1_put 5 = .ok (.getfield 21, 3) := by decide +kernel
theorem dX1_put_8 : decode cX1_put 8 = .ok (.arraylength, 1) := by decide +kernel
theorem dX1_put_9 : decode cX1_put 9 = .ok (.if_icmp .ge 23, 3) := by decide +kernel
theorem dX1_put_12 : decode cX1_put 12 = .ok (.aload_n 0, 1) := by decide +kernel
theorem dX1_put_13 : decode cX1_put 13 = .ok (.getfield 21, 3) := by decide +kernel
theorem dX1_put_16 : decode cX1_put 16 = .ok (.aload_n 0, 1) := by decide +kernel
theorem dX1_put_17 : decode cX1_put 17 = .ok (.getfield 9, 3) := by decide +kernel
theorem dX1_put_20 : decode cX1_put 20 = .ok (.iload_n 1, 1) := by decide +kernel
theorem dX1_put_21 : decode cX1_put 21 = .ok (.iastore, 1) := by decide +kernel
theorem dX1_put_22 : decode cX1_put 22 = .ok (.aload_n 0, 1) := by decide +kernel
theorem dX1_put_23 : decode cX1_put 23 = .ok (.dup, 1) := by decide +kernel
theorem dX1_put_24 : decode cX1_put 24 = .ok (.getfield 9, 3) := by decide +kernel
theorem dX1_put_27 : decode cX1_put 27 = .ok (.iconst 1, 1) := by decide +kernel
theorem dX1_put_28 : decode cX1_put 28 = .ok (.iadd, 1) := by decide +kernel
theorem dX1_put_29 : decode cX1_put 29 = .ok (.putfield 9, 3) := by decide +kernel
theorem dX1_put_32 : decode cX1_put 32 = .ok (.return_, 1) := by decide +kernel
theorem dX1_putPair_0 : decode cX1_putPair 0 = .ok (.aload_n 0, 1) := by decide +kernel
theorem dX1_putPair_1 : decode cX1_putPair 1 = .ok (.iload_n 1, 1) := by decide +kernel
theorem dX1_putPair_2 : decode cX1_putPair 2 = .ok (.iconst 2, 1) := by decide +kernel
theorem dX1_putPair_3 : decode cX1_putPair 3 = .ok (.invokevirtual 35, 3) := by decide +kernel
theorem dX1_putPair_6 : decode cX1_putPair 6 = .ok (.istore 4, 2) := by decide +kernel
theorem dX1_putPair_8 : decode cX1_putPair 8 = .ok (.aload_n 0, 1) := by decide +kernel
theorem dX1_putPair_9 : decode cX1_putPair 9 = .ok (.iload_n 2, 1) := by decide +kernel
theorem dX1_putPair_10 : decode cX1_putPair 10 = .ok (.invokevirtual 31, 3) := by decide +kernel
theorem dX1_putPair_13 : decode cX1_putPair 13 = .ok (.aload_n 0, 1) := by decide +kernel
theorem dX1_putPair_14 : decode cX1_putPair 14 = .ok (.iload_n 3, 1) := by decide +kernel
theorem dX1_putPair_15 : decode cX1_putPair 15 = .ok (.invokevirtual 31, 3) := by decide +kernel
theorem dX1_putPair_18 : decode cX1_putPair 18 = .ok (.iload 4, 2) := by decide +kernel
theorem dX1_putPair_20 : decode cX1_putPair 20 = .ok (.ireturn, 1) := by decide +kernel
theorem dX1_blockKind_0 : decode cX1_blockKind 0 = .ok (.aload_n 0, 1) := by decide +kernel
theorem dX1_blockKind_1 : decode cX1_blockKind 1 = .ok (.iload_n 1, 1) := by decide +kernel
theorem dX1_blockKind_2 : decode cX1_blockKind 2 = .ok (.invokevirtual 39, 3) := by decide +kernel
theorem dX1_blockKind_5 : decode cX1_blockKind 5 = .ok (.ifCond .eq 17, 3) := by decide +kernel
theorem dX1_blockKind_8 : decode cX1_blockKind 8 = .ok (.aload_n 0, 1) := by decide +kernel
theorem dX1_blockKind_9 : decode cX1_blockKind 9 = .ok (.getfield 21, 3) := by decide +kernel
theorem dX1_blockKind_12 : decode cX1_blockKind 12 = .ok (.iload_n 1, 1) := by decide +kernel
theorem dX1_blockKind_13 : decode cX1_blockKind 13 = .ok (.iconst 2, 1) := by decide +kernel
theorem dX1_blockKind_14 : decode cX1_blockKind 14 = .ok (.ishr, 1) := by decide +kernel
theorem dX1_blockKind_15 : decode cX1_blockKind 15 = .ok (.iaload, 1) := by decide +kernel
theorem dX1_blockKind_16 : decode cX1_blockKind 16 = .ok (.bipush 15, 2) := by decide +kernel
theorem dX1_blockKind_18 : decode cX1_blockKind 18 = .ok (.iand, 1) := by decide +kernel
theorem dX1_blockKind_19 : decode cX1_blockKind 19 = .ok (.goto 4, 3) := by decide +kernel
theorem dX1_blockKind_22 : decode cX1_blockKind 22 = .ok (.iconst (-1), 1) := by decide +kernel
theorem dX1_blockKind_23 : decode cX1_blockKind 23 = .ok (.ireturn, 1) := by decide +kernel
theorem dX1_blockWords_0 : decode cX1_blockWords 0 = .ok (.aload_n 0, 1) := by decide +kernel
theorem dX1_blockWords_1 : decode cX1_blockWords 1 = .ok (.iload_n 1, 1) := by decide +kernel
theorem dX1_blockWords_2 : decode cX1_blockWords 2 = .ok (.invokevirtual 39, 3) := by decide +kernel
theorem dX1_blockWords_5 : decode cX1_blockWords 5 = .ok (.ifCond .eq 16, 3) := by decide +kernel
theorem dX1_blockWords_8 : decode cX1_blockWords 8 = .ok (.aload_n 0, 1) := by decide +kernel
theorem dX1_blockWords_9 : decode cX1_blockWords 9 = .ok (.getfield 21, 3) := by decide +kernel
theorem dX1_blockWords_12 : decode cX1_blockWords 12 = .ok (.iload_n 1, 1) := by decide +kernel
theorem dX1_blockWords_13 : decode cX1_blockWords 13 = .ok (.iconst 2, 1) := by decide +kernel
theorem dX1_blockWords_14 : decode cX1_blockWords 14 = .ok (.ishr, 1) := by decide +kernel
theorem dX1_blockWords_15 : decode cX1_blockWords 15 = .ok (.iaload, 1) := by decide +kernel
theorem dX1_blockWords_16 : decode cX1_blockWords 16 = .ok (.iconst 4, 1) := by decide +kernel
theorem dX1_blockWords_17 : decode cX1_blockWords 17 = .ok (.ishr, 1) := by decide +kernel
theorem dX1_blockWords_18 : decode cX1_blockWords 18 = .ok (.goto 4, 3) := by decide +kernel
theorem dX1_blockWords_21 : decode cX1_blockWords 21 = .ok (.iconst 0, 1) := by decide +kernel
theorem dX1_blockWords_22 : decode cX1_blockWords 22 = .ok (.ireturn, 1) := by decide +kernel
theorem dX1_wordOf_0 : decode cX1_wordOf 0 = .ok (.aload_n 0, 1) := by decide +kernel
theorem dX1_wordOf_1 : decode cX1_wordOf 1 = .ok (.iload_n 1, 1) := by decide +kernel
theorem dX1_wordOf_2 : decode cX1_wordOf 2 = .ok (.invokevirtual 39, 3) := by decide +kernel
theorem dX1_wordOf_5 : decode cX1_wordOf 5 = .ok (.ifCond .eq 17, 3) := by decide +kernel
theorem dX1_wordOf_8 : decode cX1_wordOf 8 = .ok (.iload_n 2, 1) := by decide +kernel
theorem dX1_wordOf_9 : decode cX1_wordOf 9 = .ok (.iconst 1, 1) := by decide +kernel
theorem dX1_wordOf_10 : decode cX1_wordOf 10 = .ok (.if_icmp .lt 12, 3) := by decide +kernel
theorem dX1_wordOf_13 : decode cX1_wordOf 13 = .ok (.iload_n 2, 1) := by decide +kernel
theorem dX1_wordOf_14 : decode cX1_wordOf 14 = .ok (.aload_n 0, 1) := by decide +kernel
theorem dX1_wordOf_15 : decode cX1_wordOf 15 = .ok (.iload_n 1, 1) := by decide +kernel
theorem dX1_wordOf_16 : decode cX1_wordOf 16 = .ok (.invokevirtual 43, 3) := by decide +kernel
theorem dX1_wordOf_19 : decode cX1_wordOf 19 = .ok (.if_icmp .le 6, 3) := by decide +kernel
theorem dX1_wordOf_22 : decode cX1_wordOf 22 = .ok (.bipush (-4), 2) := by decide +kernel
theorem dX1_wordOf_24 : decode cX1_wordOf 24 = .ok (.ireturn, 1) := by decide +kernel
theorem dX1_wordOf_25 : decode cX1_wordOf 25 = .ok (.iload_n 1, 1) := by decide +kernel
theorem dX1_wordOf_26 : decode cX1_wordOf 26 = .ok (.iconst 2, 1) := by decide +kernel
theorem dX1_wordOf_27 : decode cX1_wordOf 27 = .ok (.ishr, 1) := by decide +kernel
theorem dX1_wordOf_28 : decode cX1_wordOf 28 = .ok (.iload_n 2, 1) := by decide +kernel
theorem dX1_wordOf_29 : decode cX1_wordOf 29 = .ok (.iadd, 1) := by decide +kernel
theorem dX1_wordOf_30 : decode cX1_wordOf 30 = .ok (.istore_n 3, 1) := by decide +kernel
theorem dX1_wordOf_31 : decode cX1_wordOf 31 = .ok (.iload_n 3, 1) := by decide +kernel
theorem dX1_wordOf_32 : decode cX1_wordOf 32 = .ok (.aload_n 0, 1) := by decide +kernel
theorem dX1_wordOf_33 : decode cX1_wordOf 33 = .ok (.getfield 9, 3) := by decide +kernel
theorem dX1_wordOf_36 : decode cX1_wordOf 36 = .ok (.if_icmp .ge 12, 3) := by decide +kernel
theorem dX1_wordOf_39 : decode cX1_wordOf 39 = .ok (.aload_n 0, 1) := by decide +kernel
theorem dX1_wordOf_40 : decode cX1_wordOf 40 = .ok (.getfield 21, 3) := by decide +kernel
theorem dX1_wordOf_43 : decode cX1_wordOf 43 = .ok (.iload_n 3, 1) := by decide +kernel
theorem dX1_wordOf_44 : decode cX1_wordOf 44 = .ok (.iaload, 1) := by decide +kernel
theorem dX1_wordOf_45 : decode cX1_wordOf 45 = .ok (.goto 5, 3) := by decide +kernel
theorem dX1_wordOf_48 : decode cX1_wordOf 48 = .ok (.bipush (-4), 2) := by decide +kernel
theorem dX1_wordOf_50 : decode cX1_wordOf 50 = .ok (.ireturn, 1) := by decide +kernel
theorem dX1_isPointer_0 : decode cX1_isPointer 0 = .ok (.iload_n 1, 1) := by decide +kernel
theorem dX1_isPointer_1 : decode cX1_isPointer 1 = .ok (.iconst 3, 1) := by decide +kernel
theorem dX1_isPointer_2 : decode cX1_isPointer 2 = .ok (.iand, 1) := by decide +kernel
theorem dX1_isPointer_3 : decode cX1_isPointer 3 = .ok (.ifCond .ne 21, 3) := by decide +kernel
theorem dX1_isPointer_6 : decode cX1_isPointer 6 = .ok (.iload_n 1, 1) := by decide +kernel
theorem dX1_isPointer_7 : decode cX1_isPointer 7 = .ok (.ifCond .lt 17, 3) := by decide +kernel
theorem dX1_isPointer_10 : decode cX1_isPointer 10 = .ok (.iload_n 1, 1) := by decide +kernel
theorem dX1_isPointer_11 : decode cX1_isPointer 11 = .ok (.iconst 2, 1) := by decide +kernel
theorem dX1_isPointer_12 : decode cX1_isPointer 12 = .ok (.ishr, 1) := by decide +kernel
theorem dX1_isPointer_13 : decode cX1_isPointer 13 = .ok (.aload_n 0, 1) := by decide +kernel
theorem dX1_isPointer_14 : decode cX1_isPointer 14 = .ok (.getfield 9, 3) := by decide +kernel
theorem dX1_isPointer_17 : decode cX1_isPointer 17 = .ok (.if_icmp .ge 7, 3) := by decide +kernel
theorem dX1_isPointer_20 : decode cX1_isPointer 20 = .ok (.iconst 1, 1) := by decide +kernel
theorem dX1_isPointer_21 : decode cX1_isPointer 21 = .ok (.goto 4, 3) := by decide +kernel
theorem dX1_isPointer_24 : decode cX1_isPointer 24 = .ok (.iconst 0, 1) := by decide +kernel
theorem dX1_isPointer_25 : decode cX1_isPointer 25 = .ok (.ireturn, 1) := by decide +kernel
theorem dX1_isFunction_0 : decode cX1_isFunction 0 = .ok (.aload_n 0, 1) := by decide +kernel
theorem dX1_isFunction_1 : decode cX1_isFunction 1 = .ok (.iload_n 1, 1) := by decide +kernel
theorem dX1_isFunction_2 : decode cX1_isFunction 2 = .ok (.invokevirtual 47, 3) := by decide +kernel
theorem dX1_isFunction_5 : decode cX1_isFunction 5 = .ok (.istore_n 2, 1) := by decide +kernel
theorem dX1_isFunction_6 : decode cX1_isFunction 6 = .ok (.iload_n 2, 1) := by decide +kernel
theorem dX1_isFunction_7 : decode cX1_isFunction 7 = .ok (.bipush 8, 2) := by decide +kernel
theorem dX1_isFunction_9 : decode cX1_isFunction 9 = .ok (.if_icmp .eq 9, 3) := by decide +kernel
theorem dX1_isFunction_12 : decode cX1_isFunction 12 = .ok (.iload_n 2, 1) := by decide +kernel
theorem dX1_isFunction_13 : decode cX1_isFunction 13 = .ok (.bipush 9, 2) := by decide +kernel
theorem dX1_isFunction_15 : decode cX1_isFunction 15 = .ok (.if_icmp .ne 7, 3) := by decide +kernel
theorem dX1_isFunction_18 : decode cX1_isFunction 18 = .ok (.iconst 1, 1) := by decide +kernel
theorem dX1_isFunction_19 : decode cX1_isFunction 19 = .ok (.goto 4, 3) := by decide +kernel
theorem dX1_isFunction_22 : decode cX1_isFunction 22 = .ok (.iconst 0, 1) := by decide +kernel
theorem dX1_isFunction_23 : decode cX1_isFunction 23 = .ok (.ireturn, 1) := by decide +kernel
theorem dX1_constructorOf_0 : decode cX1_constructorOf 0 = .ok (.iload_n 1, 1) := by decide +kernel
theorem dX1_constructorOf_1 : decode cX1_constructorOf 1 = .ok (.invokestatic 50, 3) := by decide +kernel
theorem dX1_constructorOf_4 : decode cX1_constructorOf 4 = .ok (.ifCond .eq 8, 3) := by decide +kernel
theorem dX1_constructorOf_7 : decode cX1_constructorOf 7 = .ok (.iload_n 1, 1) := by decide +kernel
theorem dX1_constructorOf_8 : decode cX1_constructorOf 8 = .ok (.invokestatic 53, 3) := by decide +kernel
theorem dX1_constructorOf_11 : decode cX1_constructorOf 11 = .ok (.ireturn, 1) := by decide +kernel
theorem dX1_constructorOf_12 : decode cX1_constructorOf 12 = .ok (.aload_n 0, 1) := by decide +kernel
theorem dX1_constructorOf_13 : decode cX1_constructorOf 13 = .ok (.iload_n 1, 1) := by decide +kernel
theorem dX1_constructorOf_14 : decode cX1_constructorOf 14 = .ok (.invokevirtual 47, 3) := by decide +kernel
theorem dX1_constructorOf_17 : decode cX1_constructorOf 17 = .ok (.istore_n 2, 1) := by decide +kernel
theorem dX1_constructorOf_18 : decode cX1_constructorOf 18 = .ok (.iload_n 2, 1) := by decide +kernel
theorem dX1_constructorOf_19 : decode cX1_constructorOf 19 = .ok (.bipush 8, 2) := by decide +kernel
theorem dX1_constructorOf_21 : decode cX1_constructorOf 21 = .ok (.if_icmp .ge 7, 3) := by decide +kernel
theorem dX1_constructorOf_24 : decode cX1_constructorOf 24 = .ok (.iload_n 2, 1) := by decide +kernel
theorem dX1_constructorOf_25 : decode cX1_constructorOf 25 = .ok (.goto 4, 3) := by decide +kernel
theorem dX1_constructorOf_28 : decode cX1_constructorOf 28 = .ok (.iconst (-1), 1) := by decide +kernel
theorem dX1_constructorOf_29 : decode cX1_constructorOf 29 = .ok (.ireturn, 1) := by decide +kernel
theorem dX1_sort_0 : decode cX1_sort 0 = .ok (.iload_n 1, 1) := by decide +kernel
theorem dX1_sort_1 : decode cX1_sort 1 = .ok (.invokestatic 56, 3) := by decide +kernel
theorem dX1_sort_4 : decode cX1_sort 4 = .ok (.ifCond .eq 5, 3) := by decide +kernel
theorem dX1_sort_7 : decode cX1_sort 7 = .ok (.iconst 1, 1) := by decide +kernel
theorem dX1_sort_8 : decode cX1_sort 8 = .ok (.ireturn, 1) := by decide +kernel
theorem dX1_sort_9 : decode cX1_sort 9 = .ok (.aload_n 0, 1) := by decide +kernel
theorem dX1_sort_10 : decode cX1_sort 10 = .ok (.iload_n 1, 1) := by decide +kernel
theorem dX1_sort_11 : decode cX1_sort 11 = .ok (.invokevirtual 59, 3) := by decide +kernel
theorem dX1_sort_14 : decode cX1_sort 14 = .ok (.iconst (-1), 1) := by decide +kernel
theorem dX1_sort_15 : decode cX1_sort 15 = .ok (.if_icmp .eq 5, 3) := by decide +kernel
theorem dX1_sort_18 : decode cX1_sort 18 = .ok (.iconst 2, 1) := by decide +kernel
theorem dX1_sort_19 : decode cX1_sort 19 = .ok (.ireturn, 1) := by decide +kernel
theorem dX1_sort_20 : decode cX1_sort 20 = .ok (.aload_n 0, 1) := by decide +kernel
theorem dX1_sort_21 : decode cX1_sort 21 = .ok (.iload_n 1, 1) := by decide +kernel
theorem dX1_sort_22 : decode cX1_sort 22 = .ok (.invokevirtual 62, 3) := by decide +kernel
theorem dX1_sort_25 : decode cX1_sort 25 = .ok (.ifCond .eq 7, 3) := by decide +kernel
theorem dX1_sort_28 : decode cX1_sort 28 = .ok (.iconst 3, 1) := by decide +kernel
theorem dX1_sort_29 : decode cX1_sort 29 = .ok (.goto 4, 3) := by decide +kernel
theorem dX1_sort_32 : decode cX1_sort 32 = .ok (.iconst 0, 1) := by decide +kernel
theorem dX1_sort_33 : decode cX1_sort 33 = .ok (.ireturn, 1) := by decide +kernel
theorem dX1_meaning_0 : decode cX1_meaning 0 = .ok (.aload_n 0, 1) := by decide +kernel
theorem dX1_meaning_1 : decode cX1_meaning 1 = .ok (.iload_n 1, 1) := by decide +kernel
theorem dX1_meaning_2 : decode cX1_meaning 2 = .ok (.invokevirtual 65, 3) := by decide +kernel
theorem dX1_meaning_5 : decode cX1_meaning 5 = .ok (.tableswitch 48 1 3 #[27, 32, 38], 27) := by decide +kernel
theorem dX1_meaning_32 : decode cX1_meaning 32 = .ok (.iload_n 1, 1) := by decide +kernel
theorem dX1_meaning_33 : decode cX1_meaning 33 = .ok (.invokestatic 68, 3) := by decide +kernel
theorem dX1_meaning_36 : decode cX1_meaning 36 = .ok (.ireturn, 1) := by decide +kernel
theorem dX1_meaning_37 : decode cX1_meaning 37 = .ok (.aload_n 0, 1) := by decide +kernel
theorem dX1_meaning_38 : decode cX1_meaning 38 = .ok (.iload_n 1, 1) := by decide +kernel
theorem dX1_meaning_39 : decode cX1_meaning 39 = .ok (.invokevirtual 59, 3) := by decide +kernel
theorem dX1_meaning_42 : decode cX1_meaning 42 = .ok (.ireturn, 1) := by decide +kernel
theorem dX1_meaning_43 : decode cX1_meaning 43 = .ok (.aload_n 0, 1) := by decide +kernel
theorem dX1_meaning_44 : decode cX1_meaning 44 = .ok (.iload_n 1, 1) := by decide +kernel
theorem dX1_meaning_45 : decode cX1_meaning 45 = .ok (.iconst 1, 1) := by decide +kernel
theorem dX1_meaning_46 : decode cX1_meaning 46 = .ok (.invokevirtual 71, 3) := by decide +kernel
theorem dX1_meaning_49 : decode cX1_meaning 49 = .ok (.invokestatic 68, 3) := by decide +kernel
theorem dX1_meaning_52 : decode cX1_meaning 52 = .ok (.ireturn, 1) := by decide +kernel
theorem dX1_meaning_53 : decode cX1_meaning 53 = .ok (.iconst 0, 1) := by decide +kernel
theorem dX1_meaning_54 : decode cX1_meaning 54 = .ok (.ireturn, 1) := by decide +kernel
theorem dX1_beginCopy_0 : decode cX1_beginCopy 0 = .ok (.aload_n 0, 1) := by decide +kernel
theorem dX1_beginCopy_1 : decode cX1_beginCopy 1 = .ok (.getfield 28, 3) := by decide +kernel
theorem dX1_beginCopy_4 : decode cX1_beginCopy 4 = .ok (.iconst (-1), 1) := by decide +kernel
theorem dX1_beginCopy_5 : decode cX1_beginCopy 5 = .ok (.invokestatic 74, 3) := by decide +kernel
theorem dX1_beginCopy_8 : decode cX1_beginCopy 8 = .ok (.aload_n 0, 1) := by decide +kernel
theorem dX1_beginCopy_9 : decode cX1_beginCopy 9 = .ok (.iconst 0, 1) := by decide +kernel
theorem dX1_beginCopy_10 : decode cX1_beginCopy 10 = .ok (.putfield 15, 3) := by decide +kernel
theorem dX1_beginCopy_13 : decode cX1_beginCopy 13 = .ok (.return_, 1) := by decide +kernel
theorem dX1_copy_0 : decode cX1_copy 0 = .ok (.aload_n 0, 1) := by decide +kernel
theorem dX1_copy_1 : decode cX1_copy 1 = .ok (.iload_n 1, 1) := by decide +kernel
theorem dX1_copy_2 : decode cX1_copy 2 = .ok (.invokevirtual 39, 3) := by decide +kernel
theorem dX1_copy_5 : decode cX1_copy 5 = .ok (.ifCond .ne 5, 3) := by decide +kernel
theorem dX1_copy_8 : decode cX1_copy 8 = .ok (.iload_n 1, 1) := by decide +kernel
theorem dX1_copy_9 : decode cX1_copy 9 = .ok (.ireturn, 1) := by decide +kernel
theorem dX1_copy_10 : decode cX1_copy 10 = .ok (.iload_n 1, 1) := by decide +kernel
theorem dX1_copy_11 : decode cX1_copy 11 = .ok (.iconst 2, 1) := by decide +kernel
theorem dX1_copy_12 : decode cX1_copy 12 = .ok (.ishr, 1) := by decide +kernel
theorem dX1_copy_13 : decode cX1_copy 13 = .ok (.istore_n 2, 1) := by decide +kernel
theorem dX1_copy_14 : decode cX1_copy 14 = .ok (.aload_n 0, 1) := by decide +kernel
theorem dX1_copy_15 : decode cX1_copy 15 = .ok (.getfield 28, 3) := by decide +kernel
theorem dX1_copy_18 : decode cX1_copy 18 = .ok (.iload_n 2, 1) := by decide +kernel
theorem dX1_copy_19 : decode cX1_copy 19 = .ok (.iaload, 1) := by decide +kernel
theorem dX1_copy_20 : decode cX1_copy 20 = .ok (.iconst (-1), 1) := by decide +kernel
theorem dX1_copy_21 : decode cX1_copy 21 = .ok (.if_icmp .ne 82, 3) := by decide +kernel
theorem dX1_copy_24 : decode cX1_copy 24 = .ok (.iconst 1, 1) := by decide +kernel
theorem dX1_copy_25 : decode cX1_copy 25 = .ok (.aload_n 0, 1) := by decide +kernel
theorem dX1_copy_26 : decode cX1_copy 26 = .ok (.getfield 21, 3) := by decide +kernel
theorem dX1_copy_29 : decode cX1_copy 29 = .ok (.iload_n 2, 1) := by decide +kernel
theorem dX1_copy_30 : decode cX1_copy 30 = .ok (.iaload, 1) := by decide +kernel
theorem dX1_copy_31 : decode cX1_copy 31 = .ok (.iconst 4, 1) := by decide +kernel
theorem dX1_copy_32 : decode cX1_copy 32 = .ok (.ishr, 1) := by decide +kernel
theorem dX1_copy_33 : decode cX1_copy 33 = .ok (.iadd, 1) := by decide +kernel
theorem dX1_copy_34 : decode cX1_copy 34 = .ok (.istore_n 3, 1) := by decide +kernel
theorem dX1_copy_35 : decode cX1_copy 35 = .ok (.iload_n 3, 1) := by decide +kernel
theorem dX1_copy_36 : decode cX1_copy 36 = .ok (.iconst 1, 1) := by decide +kernel
theorem dX1_copy_37 : decode cX1_copy 37 = .ok (.if_icmp .lt 27, 3) := by decide +kernel
theorem dX1_copy_40 : decode cX1_copy 40 = .ok (.iload_n 2, 1) := by decide +kernel
theorem dX1_copy_41 : decode cX1_copy 41 = .ok (.iload_n 3, 1) := by decide +kernel
theorem dX1_copy_42 : decode cX1_copy 42 = .ok (.iadd, 1) := by decide +kernel
theorem dX1_copy_43 : decode cX1_copy 43 = .ok (.aload_n 0, 1) := by decide +kernel
theorem dX1_copy_44 : decode cX1_copy 44 = .ok (.getfield 9, 3) := by decide +kernel
theorem dX1_copy_47 : decode cX1_copy 47 = .ok (.if_icmp .gt 17, 3) := by decide +kernel
theorem dX1_copy_50 : decode cX1_copy 50 = .ok (.aload_n 0, 1) := by decide +kernel
theorem dX1_copy_51 : decode cX1_copy 51 = .ok (.getfield 15, 3) := by decide +kernel
theorem dX1_copy_54 : decode cX1_copy 54 = .ok (.iload_n 3, 1) := by decide +kernel
theorem dX1_copy_55 : decode cX1_copy 55 = .ok (.iadd, 1) := by decide +kernel
theorem dX1_copy_56 : decode cX1_copy 56 = .ok (.aload_n 0, 1) := by decide +kernel
theorem dX1_copy_57 : decode cX1_copy 57 = .ok (.getfield 25, 3) := by decide +kernel
theorem dX1_copy_60 : decode cX1_copy 60 = .ok (.arraylength, 1) := by decide +kernel
theorem dX1_copy_61 : decode cX1_copy 61 = .ok (.if_icmp .le 5, 3) := by decide +kernel
theorem dX1_copy_64 : decode cX1_copy 64 = .ok (.iload_n 1, 1) := by decide +kernel
theorem dX1_copy_65 : decode cX1_copy 65 = .ok (.ireturn, 1) := by decide +kernel
theorem dX1_copy_66 : decode cX1_copy 66 = .ok (.aload_n 0, 1) := by decide +kernel
theorem dX1_copy_67 : decode cX1_copy 67 = .ok (.getfield 21, 3) := by decide +kernel
theorem dX1_copy_70 : decode cX1_copy 70 = .ok (.iload_n 2, 1) := by decide +kernel
theorem dX1_copy_71 : decode cX1_copy 71 = .ok (.aload_n 0, 1) := by decide +kernel
theorem dX1_copy_72 : decode cX1_copy 72 = .ok (.getfield 25, 3) := by decide +kernel
theorem dX1_copy_75 : decode cX1_copy 75 = .ok (.aload_n 0, 1) := by decide +kernel
theorem dX1_copy_76 : decode cX1_copy 76 = .ok (.getfield 15, 3) := by decide +kernel
theorem dX1_copy_79 : decode cX1_copy 79 = .ok (.iload_n 3, 1) := by decide +kernel
theorem dX1_copy_80 : decode cX1_copy 80 = .ok (.invokestatic 80, 3) := by decide +kernel
theorem dX1_copy_83 : decode cX1_copy 83 = .ok (.aload_n 0, 1) := by decide +kernel
theorem dX1_copy_84 : decode cX1_copy 84 = .ok (.getfield 28, 3) := by decide +kernel
theorem dX1_copy_87 : decode cX1_copy 87 = .ok (.iload_n 2, 1) := by decide +kernel
theorem dX1_copy_88 : decode cX1_copy 88 = .ok (.aload_n 0, 1) := by decide +kernel
theorem dX1_copy_89 : decode cX1_copy 89 = .ok (.getfield 15, 3) := by decide +kernel
theorem dX1_copy_92 : decode cX1_copy 92 = .ok (.iastore, 1) := by decide +kernel
theorem dX1_copy_93 : decode cX1_copy 93 = .ok (.aload_n 0, 1) := by decide +kernel
theorem dX1_copy_94 : decode cX1_copy 94 = .ok (.dup, 1) := by decide +kernel
theorem dX1_copy_95 : decode cX1_copy 95 = .ok (.getfield 15, 3) := by decide +kernel
theorem dX1_copy_98 : decode cX1_copy 98 = .ok (.iload_n 3, 1) := by decide +kernel
theorem dX1_copy_99 : decode cX1_copy 99 = .ok (.iadd, 1) := by decide +kernel
theorem dX1_copy_100 : decode cX1_copy 100 = .ok (.putfield 15, 3) := by decide +kernel
theorem dX1_copy_103 : decode cX1_copy 103 = .ok (.iconst 4, 1) := by decide +kernel
theorem dX1_copy_104 : decode cX1_copy 104 = .ok (.aload_n 0, 1) := by decide +kernel
theorem dX1_copy_105 : decode cX1_copy 105 = .ok (.getfield 28, 3) := by decide +kernel
theorem dX1_copy_108 : decode cX1_copy 108 = .ok (.iload_n 2, 1) := by decide +kernel
theorem dX1_copy_109 : decode cX1_copy 109 = .ok (.iaload, 1) := by decide +kernel
theorem dX1_copy_110 : decode cX1_copy 110 = .ok (.imul, 1) := by decide +kernel
theorem dX1_copy_111 : decode cX1_copy 111 = .ok (.ireturn, 1) := by decide +kernel
theorem dX1_copyTheRest_0 : decode cX1_copyTheRest 0 = .ok (.iconst 0, 1) := by decide +kernel
theorem dX1_copyTheRest_1 : decode cX1_copyTheRest 1 = .ok (.istore_n 1, 1) := by decide +kernel
theorem dX1_copyTheRest_2 : decode cX1_copyTheRest 2 = .ok (.iload_n 1, 1) := by decide +kernel
theorem dX1_copyTheRest_3 : decode cX1_copyTheRest 3 = .ok (.aload_n 0, 1) := by decide +kernel
theorem dX1_copyTheRest_4 : decode cX1_copyTheRest 4 = .ok (.getfield 15, 3) := by decide +kernel
theorem dX1_copyTheRest_7 : decode cX1_copyTheRest 7 = .ok (.if_icmp .ge 74, 3) := by decide +kernel
theorem dX1_copyTheRest_10 : decode cX1_copyTheRest 10 = .ok (.iload_n 1, 1) := by decide +kernel
theorem dX1_copyTheRest_11 : decode cX1_copyTheRest 11 = .ok (.aload_n 0, 1) := by decide +kernel
theorem dX1_copyTheRest_12 : decode cX1_copyTheRest 12 = .ok (.getfield 25, 3) := by decide +kernel
theorem dX1_copyTheRest_15 : decode cX1_copyTheRest 15 = .ok (.arraylength, 1) := by decide +kernel
theorem dX1_copyTheRest_16 : decode cX1_copyTheRest 16 = .ok (.if_icmp .ge 65, 3) := by decide +kernel
theorem dX1_copyTheRest_19 : decode cX1_copyTheRest 19 = .ok (.iload_n 1, 1) := by decide +kernel
theorem dX1_copyTheRest_20 : decode cX1_copyTheRest 20 = .ok (.iconst 1, 1) := by decide +kernel
theorem dX1_copyTheRest_21 : decode cX1_copyTheRest 21 = .ok (.iadd, 1) := by decide +kernel
theorem dX1_copyTheRest_22 : decode cX1_copyTheRest 22 = .ok (.iconst 0, 1) := by decide +kernel
theorem dX1_copyTheRest_23 : decode cX1_copyTheRest 23 = .ok (.aload_n 0, 1) := by decide +kernel
theorem dX1_copyTheRest_24 : decode cX1_copyTheRest 24 = .ok (.getfield 25, 3) := by decide +kernel
theorem dX1_copyTheRest_27 : decode cX1_copyTheRest 27 = .ok (.iload_n 1, 1) := by decide +kernel
theorem dX1_copyTheRest_28 : decode cX1_copyTheRest 28 = .ok (.iaload, 1) := by decide +kernel
theorem dX1_copyTheRest_29 : decode cX1_copyTheRest 29 = .ok (.iconst 4, 1) := by decide +kernel
theorem dX1_copyTheRest_30 : decode cX1_copyTheRest 30 = .ok (.ishr, 1) := by decide +kernel
theorem dX1_copyTheRest_31 : decode cX1_copyTheRest 31 = .ok (.invokestatic 86, 3) := by decide +kernel
theorem dX1_copyTheRest_34 : decode cX1_copyTheRest 34 = .ok (.iadd, 1) := by decide +kernel
theorem dX1_copyTheRest_35 : decode cX1_copyTheRest 35 = .ok (.istore_n 2, 1) := by decide +kernel
theorem dX1_copyTheRest_36 : decode cX1_copyTheRest 36 = .ok (.iload_n 1, 1) := by decide +kernel
theorem dX1_copyTheRest_37 : decode cX1_copyTheRest 37 = .ok (.iconst 1, 1) := by decide +kernel
theorem dX1_copyTheRest_38 : decode cX1_copyTheRest 38 = .ok (.iadd, 1) := by decide +kernel
theorem dX1_copyTheRest_39 : decode cX1_copyTheRest 39 = .ok (.istore_n 3, 1) := by decide +kernel
theorem dX1_copyTheRest_40 : decode cX1_copyTheRest 40 = .ok (.iload_n 3, 1) := by decide +kernel
theorem dX1_copyTheRest_41 : decode cX1_copyTheRest 41 = .ok (.iload_n 2, 1) := by decide +kernel
theorem dX1_copyTheRest_42 : decode cX1_copyTheRest 42 = .ok (.if_icmp .ge 34, 3) := by decide +kernel
theorem dX1_copyTheRest_45 : decode cX1_copyTheRest 45 = .ok (.iload_n 3, 1) := by decide +kernel
theorem dX1_copyTheRest_46 : decode cX1_copyTheRest 46 = .ok (.aload_n 0, 1) := by decide +kernel
theorem dX1_copyTheRest_47 : decode cX1_copyTheRest 47 = .ok (.getfield 25, 3) := by decide +kernel
theorem dX1_copyTheRest_50 : decode cX1_copyTheRest 50 = .ok (.arraylength, 1) := by decide +kernel
theorem dX1_copyTheRest_51 : decode cX1_copyTheRest 51 = .ok (.if_icmp .ge 25, 3) := by decide +kernel
theorem dX1_copyTheRest_54 : decode cX1_copyTheRest 54 = .ok (.aload_n 0, 1) := by decide +kernel
theorem dX1_copyTheRest_55 : decode cX1_copyTheRest 55 = .ok (.getfield 25, 3) := by decide +kernel
theorem dX1_copyTheRest_58 : decode cX1_copyTheRest 58 = .ok (.iload_n 3, 1) := by decide +kernel
theorem dX1_copyTheRest_59 : decode cX1_copyTheRest 59 = .ok (.aload_n 0, 1) := by decide +kernel
theorem dX1_copyTheRest_60 : decode cX1_copyTheRest 60 = .ok (.aload_n 0, 1) := by decide +kernel
theorem dX1_copyTheRest_61 : decode cX1_copyTheRest 61 = .ok (.getfield 25, 3) := by decide +kernel
theorem dX1_copyTheRest_64 : decode cX1_copyTheRest 64 = .ok (.iload_n 3, 1) := by decide +kernel
theorem dX1_copyTheRest_65 : decode cX1_copyTheRest 65 = .ok (.iaload, 1) := by decide +kernel
theorem dX1_copyTheRest_66 : decode cX1_copyTheRest 66 = .ok (.invokevirtual 91, 3) := by decide +kernel
theorem dX1_copyTheRest_69 : decode cX1_copyTheRest 69 = .ok (.iastore, 1) := by decide +kernel
theorem dX1_copyTheRest_70 : decode cX1_copyTheRest 70 = .ok (.iinc 3 1, 3) := by decide +kernel
theorem dX1_copyTheRest_73 : decode cX1_copyTheRest 73 = .ok (.goto (-33), 3) := by decide +kernel
theorem dX1_copyTheRest_76 : decode cX1_copyTheRest 76 = .ok (.iload_n 2, 1) := by decide +kernel
theorem dX1_copyTheRest_77 : decode cX1_copyTheRest 77 = .ok (.istore_n 1, 1) := by decide +kernel
theorem dX1_copyTheRest_78 : decode cX1_copyTheRest 78 = .ok (.goto (-76), 3) := by decide +kernel
theorem dX1_copyTheRest_81 : decode cX1_copyTheRest 81 = .ok (.return_, 1) := by decide +kernel
theorem dX1_useOtherHalf_0 : decode cX1_useOtherHalf 0 = .ok (.aload_n 0, 1) := by decide +kernel
theorem dX1_useOtherHalf_1 : decode cX1_useOtherHalf 1 = .ok (.getfield 21, 3) := by decide +kernel
theorem dX1_useOtherHalf_4 : decode cX1_useOtherHalf 4 = .ok (.astore_n 1, 1) := by decide +kernel
theorem dX1_useOtherHalf_5 : decode cX1_useOtherHalf 5 = .ok (.aload_n 0, 1) := by decide +kernel
theorem dX1_useOtherHalf_6 : decode cX1_useOtherHalf 6 = .ok (.aload_n 0, 1) := by decide +kernel
theorem dX1_useOtherHalf_7 : decode cX1_useOtherHalf 7 = .ok (.getfield 25, 3) := by decide +kernel
theorem dX1_useOtherHalf_10 : decode cX1_useOtherHalf 10 = .ok (.putfield 21, 3) := by decide +kernel
theorem dX1_useOtherHalf_13 : decode cX1_useOtherHalf 13 = .ok (.aload_n 0, 1) := by decide +kernel
theorem dX1_useOtherHalf_14 : decode cX1_useOtherHalf 14 = .ok (.aload_n 1, 1) := by decide +kernel
theorem dX1_useOtherHalf_15 : decode cX1_useOtherHalf 15 = .ok (.putfield 25, 3) := by decide +kernel
theorem dX1_useOtherHalf_18 : decode cX1_useOtherHalf 18 = .ok (.aload_n 0, 1) := by decide +kernel
theorem dX1_useOtherHalf_19 : decode cX1_useOtherHalf 19 = .ok (.aload_n 0, 1) := by decide +kernel
theorem dX1_useOtherHalf_20 : decode cX1_useOtherHalf 20 = .ok (.getfield 15, 3) := by decide +kernel
theorem dX1_useOtherHalf_23 : decode cX1_useOtherHalf 23 = .ok (.putfield 9, 3) := by decide +kernel
theorem dX1_useOtherHalf_26 : decode cX1_useOtherHalf 26 = .ok (.aload_n 0, 1) := by decide +kernel
theorem dX1_useOtherHalf_27 : decode cX1_useOtherHalf 27 = .ok (.dup, 1) := by decide +kernel
theorem dX1_useOtherHalf_28 : decode cX1_useOtherHalf 28 = .ok (.getfield 18, 3) := by decide +kernel
theorem dX1_useOtherHalf_31 : decode cX1_useOtherHalf 31 = .ok (.iconst 1, 1) := by decide +kernel
theorem dX1_useOtherHalf_32 : decode cX1_useOtherHalf 32 = .ok (.iadd, 1) := by decide +kernel
theorem dX1_useOtherHalf_33 : decode cX1_useOtherHalf 33 = .ok (.putfield 18, 3) := by decide +kernel
theorem dX1_useOtherHalf_36 : decode cX1_useOtherHalf 36 = .ok (.return_, 1) := by decide +kernel
theorem dX2_init_0 : decode cX2_init 0 = .ok (.aload_n 0, 1) := by decide +kernel
theorem dX2_init_1 : decode cX2_init 1 = .ok (.invokespecial 3, 3) := by decide +kernel
theorem dX2_init_4 : decode cX2_init 4 = .ok (.aload_n 0, 1) := by decide +kernel
theorem dX2_init_5 : decode cX2_init 5 = .ok (.bipush 40, 2) := by decide +kernel
theorem dX2_init_7 : decode cX2_init 7 = .ok (.newarray .int, 2) := by decide +kernel
theorem dX2_init_9 : decode cX2_init 9 = .ok (.putfield 9, 3) := by decide +kernel
theorem dX2_init_12 : decode cX2_init 12 = .ok (.aload_n 0, 1) := by decide +kernel
theorem dX2_init_13 : decode cX2_init 13 = .ok (.iconst 0, 1) := by decide +kernel
theorem dX2_init_14 : decode cX2_init 14 = .ok (.putfield 15, 3) := by decide +kernel
theorem dX2_init_17 : decode cX2_init 17 = .ok (.aload_n 0, 1) := by decide +kernel
theorem dX2_init_18 : decode cX2_init 18 = .ok (.iconst 1, 1) := by decide +kernel
theorem dX2_init_19 : decode cX2_init 19 = .ok (.putfield 19, 3) := by decide +kernel
theorem dX2_init_22 : decode cX2_init 22 = .ok (.aload_n 0, 1) := by decide +kernel
theorem dX2_init_23 : decode cX2_init 23 = .ok (.iconst 1, 1) := by decide +kernel
theorem dX2_init_24 : decode cX2_init 24 = .ok (.putfield 22, 3) := by decide +kernel
theorem dX2_init_27 : decode cX2_init 27 = .ok (.aload_n 0, 1) := by decide +kernel
theorem dX2_init_28 : decode cX2_init 28 = .ok (.iconst 0, 1) := by decide +kernel
theorem dX2_init_29 : decode cX2_init 29 = .ok (.putfield 25, 3) := by decide +kernel
theorem dX2_init_32 : decode cX2_init 32 = .ok (.aload_n 0, 1) := by decide +kernel
theorem dX2_init_33 : decode cX2_init 33 = .ok (.iconst 0, 1) := by decide +kernel
theorem dX2_init_34 : decode cX2_init 34 = .ok (.putfield 28, 3) := by decide +kernel
theorem dX2_init_37 : decode cX2_init 37 = .ok (.aload_n 0, 1) := by decide +kernel
theorem dX2_init_38 : decode cX2_init 38 = .ok (.iconst 0, 1) := by decide +kernel
theorem dX2_init_39 : decode cX2_init 39 = .ok (.putfield 32, 3) := by decide +kernel
theorem dX2_init_42 : decode cX2_init 42 = .ok (.aload_n 0, 1) := by decide +kernel
theorem dX2_init_43 : decode cX2_init 43 = .ok (.aload_n 1, 1) := by decide +kernel
theorem dX2_init_44 : decode cX2_init 44 = .ok (.putfield 35, 3) := by decide +kernel
theorem dX2_init_47 : decode cX2_init 47 = .ok (.aload_n 0, 1) := by decide +kernel
theorem dX2_init_48 : decode cX2_init 48 = .ok (.aload_n 2, 1) := by decide +kernel
theorem dX2_init_49 : decode cX2_init 49 = .ok (.putfield 39, 3) := by decide +kernel
theorem dX2_init_52 : decode cX2_init 52 = .ok (.return_, 1) := by decide +kernel
theorem dX2_beginAnew_0 : decode cX2_beginAnew 0 = .ok (.aload_n 0, 1) := by decide +kernel
theorem dX2_beginAnew_1 : decode cX2_beginAnew 1 = .ok (.getfield 39, 3) := by decide +kernel
theorem dX2_beginAnew_4 : decode cX2_beginAnew 4 = .ok (.invokevirtual 43, 3) := by decide +kernel
theorem dX2_beginAnew_7 : decode cX2_beginAnew 7 = .ok (.aload_n 0, 1) := by decide +kernel
theorem dX2_beginAnew_8 : decode cX2_beginAnew 8 = .ok (.iconst 0, 1) := by decide +kernel
theorem dX2_beginAnew_9 : decode cX2_beginAnew 9 = .ok (.putfield 15, 3) := by decide +kernel
theorem dX2_beginAnew_12 : decode cX2_beginAnew 12 = .ok (.aload_n 0, 1) := by decide +kernel
theorem dX2_beginAnew_13 : decode cX2_beginAnew 13 = .ok (.iconst 1, 1) := by decide +kernel
theorem dX2_beginAnew_14 : decode cX2_beginAnew 14 = .ok (.putfield 19, 3) := by decide +kernel
theorem dX2_beginAnew_17 : decode cX2_beginAnew 17 = .ok (.aload_n 0, 1) := by decide +kernel
theorem dX2_beginAnew_18 : decode cX2_beginAnew 18 = .ok (.iconst 1, 1) := by decide +kernel
theorem dX2_beginAnew_19 : decode cX2_beginAnew 19 = .ok (.putfield 22, 3) := by decide +kernel
theorem dX2_beginAnew_22 : decode cX2_beginAnew 22 = .ok (.aload_n 0, 1) := by decide +kernel
theorem dX2_beginAnew_23 : decode cX2_beginAnew 23 = .ok (.iconst 0, 1) := by decide +kernel
theorem dX2_beginAnew_24 : decode cX2_beginAnew 24 = .ok (.putfield 25, 3) := by decide +kernel
theorem dX2_beginAnew_27 : decode cX2_beginAnew 27 = .ok (.aload_n 0, 1) := by decide +kernel
theorem dX2_beginAnew_28 : decode cX2_beginAnew 28 = .ok (.iconst 0, 1) := by decide +kernel
theorem dX2_beginAnew_29 : decode cX2_beginAnew 29 = .ok (.putfield 28, 3) := by decide +kernel
theorem dX2_beginAnew_32 : decode cX2_beginAnew 32 = .ok (.aload_n 0, 1) := by decide +kernel
theorem dX2_beginAnew_33 : decode cX2_beginAnew 33 = .ok (.iconst 0, 1) := by decide +kernel
theorem dX2_beginAnew_34 : decode cX2_beginAnew 34 = .ok (.putfield 32, 3) := by decide +kernel
theorem dX2_beginAnew_37 : decode cX2_beginAnew 37 = .ok (.return_, 1) := by decide +kernel
theorem dX2_condition_0 : decode cX2_condition 0 = .ok (.aload_n 0, 1) := by decide +kernel
theorem dX2_condition_1 : decode cX2_condition 1 = .ok (.getfield 35, 3) := by decide +kernel
theorem dX2_condition_4 : decode cX2_condition 4 = .ok (.getfield 48, 3) := by decide +kernel
theorem dX2_condition_7 : decode cX2_condition 7 = .ok (.ifCond .ne 5, 3) := by decide +kernel
theorem dX2_condition_10 : decode cX2_condition 10 = .ok (.iconst 0, 1) := by decide +kernel
theorem dX2_condition_11 : decode cX2_condition 11 = .ok (.ireturn, 1) := by decide +kernel
theorem dX2_condition_12 : decode cX2_condition 12 = .ok (.aload_n 0, 1) := by decide +kernel
theorem dX2_condition_13 : decode cX2_condition 13 = .ok (.getfield 28, 3) := by decide +kernel
theorem dX2_condition_16 : decode cX2_condition 16 = .ok (.ifCond .eq 5, 3) := by decide +kernel
theorem dX2_condition_19 : decode cX2_condition 19 = .ok (.iconst 2, 1) := by decide +kernel
theorem dX2_condition_20 : decode cX2_condition 20 = .ok (.ireturn, 1) := by decide +kernel
theorem dX2_condition_21 : decode cX2_condition 21 = .ok (.aload_n 0, 1) := by decide +kernel
theorem dX2_condition_22 : decode cX2_condition 22 = .ok (.getfield 32, 3) := by decide +kernel
theorem dX2_condition_25 : decode cX2_condition 25 = .ok (.ifCond .ne 7, 3) := by decide +kernel
theorem dX2_condition_28 : decode cX2_condition 28 = .ok (.iconst 1, 1) := by decide +kernel
theorem dX2_condition_29 : decode cX2_condition 29 = .ok (.goto 4, 3) := by decide +kernel
theorem dX2_condition_32 : decode cX2_condition 32 = .ok (.iconst 3, 1) := by decide +kernel
theorem dX2_condition_33 : decode cX2_condition 33 = .ok (.ireturn, 1) := by decide +kernel
theorem dX2_doUpTo_0 : decode cX2_doUpTo 0 = .ok (.iconst 0, 1) := by decide +kernel
theorem dX2_doUpTo_1 : decode cX2_doUpTo 1 = .ok (.istore_n 2, 1) := by decide +kernel
theorem dX2_doUpTo_2 : decode cX2_doUpTo 2 = .ok (.iload_n 2, 1) := by decide +kernel
theorem dX2_doUpTo_3 : decode cX2_doUpTo 3 = .ok (.iload_n 1, 1) := by decide +kernel
theorem dX2_doUpTo_4 : decode cX2_doUpTo 4 = .ok (.if_icmp .ge 70, 3) := by decide +kernel
theorem dX2_doUpTo_7 : decode cX2_doUpTo 7 = .ok (.aload_n 0, 1) := by decide +kernel
theorem dX2_doUpTo_8 : decode cX2_doUpTo 8 = .ok (.getfield 28, 3) := by decide +kernel
theorem dX2_doUpTo_11 : decode cX2_doUpTo 11 = .ok (.ifCond .ne 63, 3) := by decide +kernel
theorem dX2_doUpTo_14 : decode cX2_doUpTo 14 = .ok (.aload_n 0, 1) := by decide +kernel
theorem dX2_doUpTo_15 : decode cX2_doUpTo 15 = .ok (.getfield 35, 3) := by decide +kernel
theorem dX2_doUpTo_18 : decode cX2_doUpTo 18 = .ok (.aload_n 0, 1) := by decide +kernel
theorem dX2_doUpTo_19 : decode cX2_doUpTo 19 = .ok (.getfield 25, 3) := by decide +kernel
theorem dX2_doUpTo_22 : decode cX2_doUpTo 22 = .ok (.iconst 0, 1) := by decide +kernel
theorem dX2_doUpTo_23 : decode cX2_doUpTo 23 = .ok (.invokevirtual 53, 3) := by decide +kernel
theorem dX2_doUpTo_26 : decode cX2_doUpTo 26 = .ok (.istore_n 3, 1) := by decide +kernel
theorem dX2_doUpTo_27 : decode cX2_doUpTo 27 = .ok (.aload_n 0, 1) := by decide +kernel
theorem dX2_doUpTo_28 : decode cX2_doUpTo 28 = .ok (.getfield 35, 3) := by decide +kernel
theorem dX2_doUpTo_31 : decode cX2_doUpTo 31 = .ok (.aload_n 0, 1) := by decide +kernel
theorem dX2_doUpTo_32 : decode cX2_doUpTo 32 = .ok (.getfield 25, 3) := by decide +kernel
theorem dX2_doUpTo_35 : decode cX2_doUpTo 35 = .ok (.iconst 1, 1) := by decide +kernel
theorem dX2_doUpTo_36 : decode cX2_doUpTo 36 = .ok (.invokevirtual 53, 3) := by decide +kernel
theorem dX2_doUpTo_39 : decode cX2_doUpTo 39 = .ok (.istore 4, 2) := by decide +kernel
theorem dX2_doUpTo_41 : decode cX2_doUpTo 41 = .ok (.aload_n 0, 1) := by decide +kernel
theorem dX2_doUpTo_42 : decode cX2_doUpTo 42 = .ok (.aload_n 0, 1) := by decide +kernel
theorem dX2_doUpTo_43 : decode cX2_doUpTo 43 = .ok (.iload_n 3, 1) := by decide +kernel
theorem dX2_doUpTo_44 : decode cX2_doUpTo 44 = .ok (.iload 4, 2) := by decide +kernel
theorem dX2_doUpTo_46 : decode cX2_doUpTo 46 = .ok (.invokevirtual 57, 3) := by decide +kernel
theorem dX2_doUpTo_49 : decode cX2_doUpTo 49 = .ok (.putfield 32, 3) := by decide +kernel
theorem dX2_doUpTo_52 : decode cX2_doUpTo 52 = .ok (.aload_n 0, 1) := by decide +kernel
theorem dX2_doUpTo_53 : decode cX2_doUpTo 53 = .ok (.getfield 32, 3) := by decide +kernel
theorem dX2_doUpTo_56 : decode cX2_doUpTo 56 = .ok (.ifCond .eq 5, 3) := by decide +kernel
theorem dX2_doUpTo_59 : decode cX2_doUpTo 59 = .ok (.iload_n 2, 1) := by decide +kernel
theorem dX2_doUpTo_60 : decode cX2_doUpTo 60 = .ok (.ireturn, 1) := by decide +kernel
theorem dX2_doUpTo_61 : decode cX2_doUpTo 61 = .ok (.aload_n 0, 1) := by decide +kernel
theorem dX2_doUpTo_62 : decode cX2_doUpTo 62 = .ok (.iload_n 3, 1) := by decide +kernel
theorem dX2_doUpTo_63 : decode cX2_doUpTo 63 = .ok (.iload 4, 2) := by decide +kernel
theorem dX2_doUpTo_65 : decode cX2_doUpTo 65 = .ok (.invokevirtual 60, 3) := by decide +kernel
theorem dX2_doUpTo_68 : decode cX2_doUpTo 68 = .ok (.iinc 2 1, 3) := by decide +kernel
theorem dX2_doUpTo_71 : decode cX2_doUpTo 71 = .ok (.goto (-69), 3) := by decide +kernel
theorem dX2_doUpTo_74 : decode cX2_doUpTo 74 = .ok (.iload_n 2, 1) := by decide +kernel
theorem dX2_doUpTo_75 : decode cX2_doUpTo 75 = .ok (.ireturn, 1) := by decide +kernel
theorem dX2_hindrance_0 : decode cX2_hindrance 0 = .ok (.aload_n 0, 1) := by decide +kernel
theorem dX2_hindrance_1 : decode cX2_hindrance 1 = .ok (.iload_n 1, 1) := by decide +kernel
theorem dX2_hindrance_2 : decode cX2_hindrance 2 = .ok (.iload_n 2, 1) := by decide +kernel
theorem dX2_hindrance_3 : decode cX2_hindrance 3 = .ok (.invokevirtual 64, 3) := by decide +kernel
theorem dX2_hindrance_6 : decode cX2_hindrance 6 = .ok (.ifCond .eq 5, 3) := by decide +kernel
theorem dX2_hindrance_9 : decode cX2_hindrance 9 = .ok (.iconst 1, 1) := by decide +kernel
theorem dX2_hindrance_10 : decode cX2_hindrance 10 = .ok (.ireturn, 1) := by decide +kernel
theorem dX2_hindrance_11 : decode cX2_hindrance 11 = .ok (.aload_n 0, 1) := by decide +kernel
theorem dX2_hindrance_12 : decode cX2_hindrance 12 = .ok (.getfield 15, 3) := by decide +kernel
theorem dX2_hindrance_15 : decode cX2_hindrance 15 = .ok (.iload_n 1, 1) := by decide +kernel
theorem dX2_hindrance_16 : decode cX2_hindrance 16 = .ok (.invokestatic 68, 3) := by decide +kernel
theorem dX2_hindrance_19 : decode cX2_hindrance 19 = .ok (.iadd, 1) := by decide +kernel
theorem dX2_hindrance_20 : decode cX2_hindrance 20 = .ok (.bipush 40, 2) := by decide +kernel
theorem dX2_hindrance_22 : decode cX2_hindrance 22 = .ok (.if_icmp .le 5, 3) := by decide +kernel
theorem dX2_hindrance_25 : decode cX2_hindrance 25 = .ok (.iconst 3, 1) := by decide +kernel
theorem dX2_hindrance_26 : decode cX2_hindrance 26 = .ok (.ireturn, 1) := by decide +kernel
theorem dX2_hindrance_27 : decode cX2_hindrance 27 = .ok (.aload_n 0, 1) := by decide +kernel
theorem dX2_hindrance_28 : decode cX2_hindrance 28 = .ok (.iload_n 1, 1) := by decide +kernel
theorem dX2_hindrance_29 : decode cX2_hindrance 29 = .ok (.iload_n 2, 1) := by decide +kernel
theorem dX2_hindrance_30 : decode cX2_hindrance 30 = .ok (.invokevirtual 72, 3) := by decide +kernel
theorem dX2_hindrance_33 : decode cX2_hindrance 33 = .ok (.istore_n 3, 1) := by decide +kernel
theorem dX2_hindrance_34 : decode cX2_hindrance 34 = .ok (.aload_n 0, 1) := by decide +kernel
theorem dX2_hindrance_35 : decode cX2_hindrance 35 = .ok (.getfield 39, 3) := by decide +kernel
theorem dX2_hindrance_38 : decode cX2_hindrance 38 = .ok (.iload_n 3, 1) := by decide +kernel
theorem dX2_hindrance_39 : decode cX2_hindrance 39 = .ok (.invokevirtual 75, 3) := by decide +kernel
theorem dX2_hindrance_42 : decode cX2_hindrance 42 = .ok (.ifCond .ne 7, 3) := by decide +kernel
theorem dX2_hindrance_45 : decode cX2_hindrance 45 = .ok (.aload_n 0, 1) := by decide +kernel
theorem dX2_hindrance_46 : decode cX2_hindrance 46 = .ok (.invokevirtual 79, 3) := by decide +kernel
theorem dX2_hindrance_49 : decode cX2_hindrance 49 = .ok (.aload_n 0, 1) := by decide +kernel
theorem dX2_hindrance_50 : decode cX2_hindrance 50 = .ok (.getfield 39, 3) := by decide +kernel
theorem dX2_hindrance_53 : decode cX2_hindrance 53 = .ok (.iload_n 3, 1) := by decide +kernel
theorem dX2_hindrance_54 : decode cX2_hindrance 54 = .ok (.invokevirtual 75, 3) := by decide +kernel
theorem dX2_hindrance_57 : decode cX2_hindrance 57 = .ok (.ifCond .eq 7, 3) := by decide +kernel
theorem dX2_hindrance_60 : decode cX2_hindrance 60 = .ok (.iconst 0, 1) := by decide +kernel
theorem dX2_hindrance_61 : decode cX2_hindrance 61 = .ok (.goto 4, 3) := by decide +kernel
theorem dX2_hindrance_64 : decode cX2_hindrance 64 = .ok (.iconst 2, 1) := by decide +kernel
theorem dX2_hindrance_65 : decode cX2_hindrance 65 = .ok (.ireturn, 1) := by decide +kernel
theorem dX2_isWrong_0 : decode cX2_isWrong 0 = .ok (.iload_n 1, 1) := by decide +kernel
theorem dX2_isWrong_1 : decode cX2_isWrong 1 = .ok (.tableswitch 165 4 20 #[83, 83, 83, 83, 83, 165, 165, 165, 165, 124, 165, 165, 165, 165, 109, 165, 144], 83) := by decide +kernel
theorem dX2_isWrong_84 : decode cX2_isWrong 84 = .ok (.aload_n 0, 1) := by decide +kernel
theorem dX2_isWrong_85 : decode cX2_isWrong 85 = .ok (.invokevirtual 82, 3) := by decide +kernel
theorem dX2_isWrong_88 : decode cX2_isWrong 88 = .ok (.invokestatic 86, 3) := by decide +kernel
theorem dX2_isWrong_91 : decode cX2_isWrong 91 = .ok (.ifCond .eq 13, 3) := by decide +kernel
theorem dX2_isWrong_94 : decode cX2_isWrong 94 = .ok (.aload_n 0, 1) := by decide +kernel
theorem dX2_isWrong_95 : decode cX2_isWrong 95 = .ok (.getfield 19, 3) := by decide +kernel
theorem dX2_isWrong_98 : decode cX2_isWrong 98 = .ok (.invokestatic 86, 3) := by decide +kernel
theorem dX2_isWrong_101 : decode cX2_isWrong 101 = .ok (.ifCond .ne 7, 3) := by decide +kernel
theorem dX2_isWrong_104 : decode cX2_isWrong 104 = .ok (.iconst 1, 1) := by decide +kernel
theorem dX2_isWrong_105 : decode cX2_isWrong 105 = .ok (.goto 4, 3) := by decide +kernel
theorem dX2_isWrong_108 : decode cX2_isWrong 108 = .ok (.iconst 0, 1) := by decide +kernel
theorem dX2_isWrong_109 : decode cX2_isWrong 109 = .ok (.ireturn, 1) := by decide +kernel
theorem dX2_isWrong_110 : decode cX2_isWrong 110 = .ok (.aload_n 0, 1) := by decide +kernel
theorem dX2_isWrong_111 : decode cX2_isWrong 111 = .ok (.iload_n 2, 1) := by decide +kernel
theorem dX2_isWrong_112 : decode cX2_isWrong 112 = .ok (.invokevirtual 89, 3) := by decide +kernel
theorem dX2_isWrong_115 : decode cX2_isWrong 115 = .ok (.iconst (-1), 1) := by decide +kernel
theorem dX2_isWrong_116 : decode cX2_isWrong 116 = .ok (.if_icmp .ne 7, 3) := by decide +kernel
theorem dX2_isWrong_119 : decode cX2_isWrong 119 = .ok (.iconst 1, 1) := by decide +kernel
theorem dX2_isWrong_120 : decode cX2_isWrong 120 = .ok (.goto 4, 3) := by decide +kernel
theorem dX2_isWrong_123 : decode cX2_isWrong 123 = .ok (.iconst 0, 1) := by decide +kernel
theorem dX2_isWrong_124 : decode cX2_isWrong 124 = .ok (.ireturn, 1) := by decide +kernel
theorem dX2_isWrong_125 : decode cX2_isWrong 125 = .ok (.aload_n 0, 1) := by decide +kernel
theorem dX2_isWrong_126 : decode cX2_isWrong 126 = .ok (.getfield 39, 3) := by decide +kernel
theorem dX2_isWrong_129 : decode cX2_isWrong 129 = .ok (.aload_n 0, 1) := by decide +kernel
theorem dX2_isWrong_130 : decode cX2_isWrong 130 = .ok (.getfield 19, 3) := by decide +kernel
theorem dX2_isWrong_133 : decode cX2_isWrong 133 = .ok (.invokevirtual 92, 3) := by decide +kernel
theorem dX2_isWrong_136 : decode cX2_isWrong 136 = .ok (.ifCond .ne 7, 3) := by decide +kernel
theorem dX2_isWrong_139 : decode cX2_isWrong 139 = .ok (.iconst 1, 1) := by decide +kernel
theorem dX2_isWrong_140 : decode cX2_isWrong 140 = .ok (.goto 4, 3) := by decide +kernel
theorem dX2_isWrong_143 : decode cX2_isWrong 143 = .ok (.iconst 0, 1) := by decide +kernel
theorem dX2_isWrong_144 : decode cX2_isWrong 144 = .ok (.ireturn, 1) := by decide +kernel
theorem dX2_isWrong_145 : decode cX2_isWrong 145 = .ok (.aload_n 0, 1) := by decide +kernel
theorem dX2_isWrong_146 : decode cX2_isWrong 146 = .ok (.getfield 39, 3) := by decide +kernel
theorem dX2_isWrong_149 : decode cX2_isWrong 149 = .ok (.aload_n 0, 1) := by decide +kernel
theorem dX2_isWrong_150 : decode cX2_isWrong 150 = .ok (.getfield 19, 3) := by decide +kernel
theorem dX2_isWrong_153 : decode cX2_isWrong 153 = .ok (.invokevirtual 95, 3) := by decide +kernel
theorem dX2_isWrong_156 : decode cX2_isWrong 156 = .ok (.iload_n 2, 1) := by decide +kernel
theorem dX2_isWrong_157 : decode cX2_isWrong 157 = .ok (.if_icmp .eq 7, 3) := by decide +kernel
theorem dX2_isWrong_160 : decode cX2_isWrong 160 = .ok (.iconst 1, 1) := by decide +kernel
theorem dX2_isWrong_161 : decode cX2_isWrong 161 = .ok (.goto 4, 3) := by decide +kernel
theorem dX2_isWrong_164 : decode cX2_isWrong 164 = .ok (.iconst 0, 1) := by decide +kernel
theorem dX2_isWrong_165 : decode cX2_isWrong 165 = .ok (.ireturn, 1) := by decide +kernel
theorem dX2_isWrong_166 : decode cX2_isWrong 166 = .ok (.iload_n 1, 1) := by decide +kernel
theorem dX2_isWrong_167 : decode cX2_isWrong 167 = .ok (.ifCond .lt 9, 3) := by decide +kernel
theorem dX2_isWrong_170 : decode cX2_isWrong 170 = .ok (.iload_n 1, 1) := by decide +kernel
theorem dX2_isWrong_171 : decode cX2_isWrong 171 = .ok (.bipush 20, 2) := by decide +kernel
theorem dX2_isWrong_173 : decode cX2_isWrong 173 = .ok (.if_icmp .le 7, 3) := by decide +kernel
theorem dX2_isWrong_176 : decode cX2_isWrong 176 = .ok (.iconst 1, 1) := by decide +kernel
theorem dX2_isWrong_177 : decode cX2_isWrong 177 = .ok (.goto 4, 3) := by decide +kernel
theorem dX2_isWrong_180 : decode cX2_isWrong 180 = .ok (.iconst 0, 1) := by decide +kernel
theorem dX2_isWrong_181 : decode cX2_isWrong 181 = .ok (.ireturn, 1) := by decide +kernel
theorem dX2_growth_0 : decode cX2_growth 0 = .ok (.iload_n 0, 1) := by decide +kernel
theorem dX2_growth_1 : decode cX2_growth 1 = .ok (.iconst 3, 1) := by decide +kernel
theorem dX2_growth_2 : decode cX2_growth 2 = .ok (.if_icmp .eq 9, 3) := by decide +kernel
theorem dX2_growth_5 : decode cX2_growth 5 = .ok (.iload_n 0, 1) := by decide +kernel
theorem dX2_growth_6 : decode cX2_growth 6 = .ok (.bipush 13, 2) := by decide +kernel
theorem dX2_growth_8 : decode cX2_growth 8 = .ok (.if_icmp .ne 7, 3) := by decide +kernel
theorem dX2_growth_11 : decode cX2_growth 11 = .ok (.iconst 1, 1) := by decide +kernel
theorem dX2_growth_12 : decode cX2_growth 12 = .ok (.goto 4, 3) := by decide +kernel
theorem dX2_growth_15 : decode cX2_growth 15 = .ok (.iconst 0, 1) := by decide +kernel
theorem dX2_growth_16 : decode cX2_growth 16 = .ok (.ireturn, 1) := by decide +kernel
theorem dX2_wordsMade_0 : decode cX2_wordsMade 0 = .ok (.iload_n 1, 1) := by decide +kernel
theorem dX2_wordsMade_1 : decode cX2_wordsMade 1 = .ok (.tableswitch 99 9 20 #[63, 63, 99, 99, 76, 63, 99, 99, 65, 99, 99, 72], 63) := by decide +kernel
theorem dX2_wordsMade_64 : decode cX2_wordsMade 64 = .ok (.iconst 3, 1) := by decide +kernel
theorem dX2_wordsMade_65 : decode cX2_wordsMade 65 = .ok (.ireturn, 1) := by decide +kernel
theorem dX2_wordsMade_66 : decode cX2_wordsMade 66 = .ok (.iconst 1, 1) := by decide +kernel
theorem dX2_wordsMade_67 : decode cX2_wordsMade 67 = .ok (.iload_n 2, 1) := by decide +kernel
theorem dX2_wordsMade_68 : decode cX2_wordsMade 68 = .ok (.invokestatic 98, 3) := by decide +kernel
theorem dX2_wordsMade_71 : decode cX2_wordsMade 71 = .ok (.iadd, 1) := by decide +kernel
theorem dX2_wordsMade_72 : decode cX2_wordsMade 72 = .ok (.ireturn, 1) := by decide +kernel
theorem dX2_wordsMade_73 : decode cX2_wordsMade 73 = .ok (.iconst 3, 1) := by decide +kernel
theorem dX2_wordsMade_74 : decode cX2_wordsMade 74 = .ok (.iload_n 2, 1) := by decide +kernel
theorem dX2_wordsMade_75 : decode cX2_wordsMade 75 = .ok (.imul, 1) := by decide +kernel
theorem dX2_wordsMade_76 : decode cX2_wordsMade 76 = .ok (.ireturn, 1) := by decide +kernel
theorem dX2_wordsMade_77 : decode cX2_wordsMade 77 = .ok (.aload_n 0, 1) := by decide +kernel
theorem dX2_wordsMade_78 : decode cX2_wordsMade 78 = .ok (.getfield 39, 3) := by decide +kernel
theorem dX2_wordsMade_81 : decode cX2_wordsMade 81 = .ok (.aload_n 0, 1) := by decide +kernel
theorem dX2_wordsMade_82 : decode cX2_wordsMade 82 = .ok (.getfield 19, 3) := by decide +kernel
theorem dX2_wordsMade_85 : decode cX2_wordsMade 85 = .ok (.invokevirtual 101, 3) := by decide +kernel
theorem dX2_wordsMade_88 : decode cX2_wordsMade 88 = .ok (.bipush 9, 2) := by decide +kernel
theorem dX2_wordsMade_90 : decode cX2_wordsMade 90 = .ok (.if_icmp .ne 8, 3) := by decide +kernel
theorem dX2_wordsMade_93 : decode cX2_wordsMade 93 = .ok (.bipush 6, 2) := by decide +kernel
theorem dX2_wordsMade_95 : decode cX2_wordsMade 95 = .ok (.goto 4, 3) := by decide +kernel
theorem dX2_wordsMade_98 : decode cX2_wordsMade 98 = .ok (.iconst 3, 1) := by decide +kernel
theorem dX2_wordsMade_99 : decode cX2_wordsMade 99 = .ok (.ireturn, 1) := by decide +kernel
theorem dX2_wordsMade_100 : decode cX2_wordsMade 100 = .ok (.iconst 0, 1) := by decide +kernel
theorem dX2_wordsMade_101 : decode cX2_wordsMade 101 = .ok (.ireturn, 1) := by decide +kernel
theorem dX2_collect_0 : decode cX2_collect 0 = .ok (.aload_n 0, 1) := by decide +kernel
theorem dX2_collect_1 : decode cX2_collect 1 = .ok (.invokevirtual 104, 3) := by decide +kernel
theorem dX2_collect_4 : decode cX2_collect 4 = .ok (.pop, 1) := by decide +kernel
theorem dX2_collect_5 : decode cX2_collect 5 = .ok (.aload_n 0, 1) := by decide +kernel
theorem dX2_collect_6 : decode cX2_collect 6 = .ok (.aload_n 0, 1) := by decide +kernel
theorem dX2_collect_7 : decode cX2_collect 7 = .ok (.getfield 39, 3) := by decide +kernel
theorem dX2_collect_10 : decode cX2_collect 10 = .ok (.aload_n 0, 1) := by decide +kernel
theorem dX2_collect_11 : decode cX2_collect 11 = .ok (.getfield 19, 3) := by decide +kernel
theorem dX2_collect_14 : decode cX2_collect 14 = .ok (.invokevirtual 107, 3) := by decide +kernel
theorem dX2_collect_17 : decode cX2_collect 17 = .ok (.putfield 19, 3) := by decide +kernel
theorem dX2_collect_20 : decode cX2_collect 20 = .ok (.aload_n 0, 1) := by decide +kernel
theorem dX2_collect_21 : decode cX2_collect 21 = .ok (.aload_n 0, 1) := by decide +kernel
theorem dX2_collect_22 : decode cX2_collect 22 = .ok (.getfield 39, 3) := by decide +kernel
theorem dX2_collect_25 : decode cX2_collect 25 = .ok (.aload_n 0, 1) := by decide +kernel
theorem dX2_collect_26 : decode cX2_collect 26 = .ok (.getfield 22, 3) := by decide +kernel
theorem dX2_collect_29 : decode cX2_collect 29 = .ok (.invokevirtual 107, 3) := by decide +kernel
theorem dX2_collect_32 : decode cX2_collect 32 = .ok (.putfield 22, 3) := by decide +kernel
theorem dX2_collect_35 : decode cX2_collect 35 = .ok (.iconst 0, 1) := by decide +kernel
theorem dX2_collect_36 : decode cX2_collect 36 = .ok (.istore_n 1, 1) := by decide +kernel
theorem dX2_collect_37 : decode cX2_collect 37 = .ok (.iload_n 1, 1) := by decide +kernel
theorem dX2_collect_38 : decode cX2_collect 38 = .ok (.aload_n 0, 1) := by decide +kernel
theorem dX2_collect_39 : decode cX2_collect 39 = .ok (.getfield 15, 3) := by decide +kernel
theorem dX2_collect_42 : decode cX2_collect 42 = .ok (.if_icmp .ge 37, 3) := by decide +kernel
theorem dX2_collect_45 : decode cX2_collect 45 = .ok (.iload_n 1, 1) := by decide +kernel
theorem dX2_collect_46 : decode cX2_collect 46 = .ok (.aload_n 0, 1) := by decide +kernel
theorem dX2_collect_47 : decode cX2_collect 47 = .ok (.getfield 9, 3) := by decide +kernel
theorem dX2_collect_50 : decode cX2_collect 50 = .ok (.arraylength, 1) := by decide +kernel
theorem dX2_collect_51 : decode cX2_collect 51 = .ok (.if_icmp .ge 28, 3) := by decide +kernel
theorem dX2_collect_54 : decode cX2_collect 54 = .ok (.aload_n 0, 1) := by decide +kernel
theorem dX2_collect_55 : decode cX2_collect 55 = .ok (.getfield 9, 3) := by decide +kernel
theorem dX2_collect_58 : decode cX2_collect 58 = .ok (.iload_n 1, 1) := by decide +kernel
theorem dX2_collect_59 : decode cX2_collect 59 = .ok (.aload_n 0, 1) := by decide +kernel
theorem dX2_collect_60 : decode cX2_collect 60 = .ok (.getfield 39, 3) := by decide +kernel
theorem dX2_collect_63 : decode cX2_collect 63 = .ok (.aload_n 0, 1) := by decide +kernel
theorem dX2_collect_64 : decode cX2_collect 64 = .ok (.getfield 9, 3) := by decide +kernel
theorem dX2_collect_67 : decode cX2_collect 67 = .ok (.iload_n 1, 1) := by decide +kernel
theorem dX2_collect_68 : decode cX2_collect 68 = .ok (.iaload, 1) := by decide +kernel
theorem dX2_collect_69 : decode cX2_collect 69 = .ok (.invokevirtual 107, 3) := by decide +kernel
theorem dX2_collect_72 : decode cX2_collect 72 = .ok (.iastore, 1) := by decide +kernel
theorem dX2_collect_73 : decode cX2_collect 73 = .ok (.iinc 1 1, 3) := by decide +kernel
theorem dX2_collect_76 : decode cX2_collect 76 = .ok (.goto (-39), 3) := by decide +kernel
theorem dX2_collect_79 : decode cX2_collect 79 = .ok (.aload_n 0, 1) := by decide +kernel
theorem dX2_collect_80 : decode cX2_collect 80 = .ok (.getfield 39, 3) := by decide +kernel
theorem dX2_collect_83 : decode cX2_collect 83 = .ok (.invokevirtual 110, 3) := by decide +kernel
theorem dX2_collect_86 : decode cX2_collect 86 = .ok (.return_, 1) := by decide +kernel
theorem dX2_copyReachable_0 : decode cX2_copyReachable 0 = .ok (.aload_n 0, 1) := by decide +kernel
theorem dX2_copyReachable_1 : decode cX2_copyReachable 1 = .ok (.getfield 39, 3) := by decide +kernel
theorem dX2_copyReachable_4 : decode cX2_copyReachable 4 = .ok (.invokevirtual 113, 3) := by decide +kernel
theorem dX2_copyReachable_7 : decode cX2_copyReachable 7 = .ok (.aload_n 0, 1) := by decide +kernel
theorem dX2_copyReachable_8 : decode cX2_copyReachable 8 = .ok (.getfield 39, 3) := by decide +kernel
theorem dX2_copyReachable_11 : decode cX2_copyReachable 11 = .ok (.aload_n 0, 1) := by decide +kernel
theorem dX2_copyReachable_12 : decode cX2_copyReachable 12 = .ok (.getfield 19, 3) := by decide +kernel
theorem dX2_copyReachable_15 : decode cX2_copyReachable 15 = .ok (.invokevirtual 107, 3) := by decide +kernel
theorem dX2_copyReachable_18 : decode cX2_copyReachable 18 = .ok (.pop, 1) := by decide +kernel
theorem dX2_copyReachable_19 : decode cX2_copyReachable 19 = .ok (.aload_n 0, 1) := by decide +kernel
theorem dX2_copyReachable_20 : decode cX2_copyReachable 20 = .ok (.getfield 39, 3) := by decide +kernel
theorem dX2_copyReachable_23 : decode cX2_copyReachable 23 = .ok (.aload_n 0, 1) := by decide +kernel
theorem dX2_copyReachable_24 : decode cX2_copyReachable 24 = .ok (.getfield 22, 3) := by decide +kernel
theorem dX2_copyReachable_27 : decode cX2_copyReachable 27 = .ok (.invokevirtual 107, 3) := by decide +kernel
theorem dX2_copyReachable_30 : decode cX2_copyReachable 30 = .ok (.pop, 1) := by decide +kernel
theorem dX2_copyReachable_31 : decode cX2_copyReachable 31 = .ok (.iconst 0, 1) := by decide +kernel
theorem dX2_copyReachable_32 : decode cX2_copyReachable 32 = .ok (.istore_n 1, 1) := by decide +kernel
theorem dX2_copyReachable_33 : decode cX2_copyReachable 33 = .ok (.iload_n 1, 1) := by decide +kernel
theorem dX2_copyReachable_34 : decode cX2_copyReachable 34 = .ok (.aload_n 0, 1) := by decide +kernel
theorem dX2_copyReachable_35 : decode cX2_copyReachable 35 = .ok (.getfield 15, 3) := by decide +kernel
theorem dX2_copyReachable_38 : decode cX2_copyReachable 38 = .ok (.if_icmp .ge 32, 3) := by decide +kernel
theorem dX2_copyReachable_41 : decode cX2_copyReachable 41 = .ok (.iload_n 1, 1) := by decide +kernel
theorem dX2_copyReachable_42 : decode cX2_copyReachable 42 = .ok (.aload_n 0, 1) := by decide +kernel
theorem dX2_copyReachable_43 : decode cX2_copyReachable 43 = .ok (.getfield 9, 3) := by decide +kernel
theorem dX2_copyReachable_46 : decode cX2_copyReachable 46 = .ok (.arraylength, 1) := by decide +kernel
theorem dX2_copyReachable_47 : decode cX2_copyReachable 47 = .ok (.if_icmp .ge 23, 3) := by decide +kernel
theorem dX2_copyReachable_50 : decode cX2_copyReachable 50 = .ok (.aload_n 0, 1) := by decide +kernel
theorem dX2_copyReachable_51 : decode cX2_copyReachable 51 = .ok (.getfield 39, 3) := by decide +kernel
theorem dX2_copyReachable_54 : decode cX2_copyReachable 54 = .ok (.aload_n 0, 1) := by decide +kernel
theorem dX2_copyReachable_55 : decode cX2_copyReachable 55 = .ok (.getfield 9, 3) := by decide +kernel
theorem dX2_copyReachable_58 : decode cX2_copyReachable 58 = .ok (.iload_n 1, 1) := by decide +kernel
theorem dX2_copyReachable_59 : decode cX2_copyReachable 59 = .ok (.iaload, 1) := by decide +kernel
theorem dX2_copyReachable_60 : decode cX2_copyReachable 60 = .ok (.invokevirtual 107, 3) := by decide +kernel
theorem dX2_copyReachable_63 : decode cX2_copyReachable 63 = .ok (.pop, 1) := by decide +kernel
theorem dX2_copyReachable_64 : decode cX2_copyReachable 64 = .ok (.iinc 1 1, 3) := by decide +kernel
theorem dX2_copyReachable_67 : decode cX2_copyReachable 67 = .ok (.goto (-34), 3) := by decide +kernel
theorem dX2_copyReachable_70 : decode cX2_copyReachable 70 = .ok (.aload_n 0, 1) := by decide +kernel
theorem dX2_copyReachable_71 : decode cX2_copyReachable 71 = .ok (.getfield 39, 3) := by decide +kernel
theorem dX2_copyReachable_74 : decode cX2_copyReachable 74 = .ok (.invokevirtual 116, 3) := by decide +kernel
theorem dX2_copyReachable_77 : decode cX2_copyReachable 77 = .ok (.aload_n 0, 1) := by decide +kernel
theorem dX2_copyReachable_78 : decode cX2_copyReachable 78 = .ok (.getfield 39, 3) := by decide +kernel
theorem dX2_copyReachable_81 : decode cX2_copyReachable 81 = .ok (.getfield 119, 3) := by decide +kernel
theorem dX2_copyReachable_84 : decode cX2_copyReachable 84 = .ok (.ireturn, 1) := by decide +kernel
theorem dX2_perform_0 : decode cX2_perform 0 = .ok (.aload_n 0, 1) := by decide +kernel
theorem dX2_perform_1 : decode cX2_perform 1 = .ok (.getfield 25, 3) := by decide +kernel
theorem dX2_perform_4 : decode cX2_perform 4 = .ok (.iconst 1, 1) := by decide +kernel
theorem dX2_perform_5 : decode cX2_perform 5 = .ok (.iadd, 1) := by decide +kernel
theorem dX2_perform_6 : decode cX2_perform 6 = .ok (.istore_n 3, 1) := by decide +kernel
theorem dX2_perform_7 : decode cX2_perform 7 = .ok (.iload_n 1, 1) := by decide +kernel
theorem dX2_perform_8 : decode cX2_perform 8 = .ok (.tableswitch 295 0 20 #[100, 113, 124, 144, 295, 295, 295, 295, 295, 155, 179, 203, 208, 227, 236, 247, 259, 270, 278, 295, 287], 100) := by decide +kernel
theorem dX2_perform_108 : decode cX2_perform 108 = .ok (.aload_n 0, 1) := by decide +kernel
theorem dX2_perform_109 : decode cX2_perform 109 = .ok (.iconst 1, 1) := by decide +kernel
theorem dX2_perform_110 : decode cX2_perform 110 = .ok (.putfield 28, 3) := by decide +kernel
theorem dX2_perform_113 : decode cX2_perform 113 = .ok (.aload_n 0, 1) := by decide +kernel
theorem dX2_perform_114 : decode cX2_perform 114 = .ok (.getfield 25, 3) := by decide +kernel
theorem dX2_perform_117 : decode cX2_perform 117 = .ok (.istore_n 3, 1) := by decide +kernel
theorem dX2_perform_118 : decode cX2_perform 118 = .ok (.goto 190, 3) := by decide +kernel
theorem dX2_perform_121 : decode cX2_perform 121 = .ok (.aload_n 0, 1) := by decide +kernel
theorem dX2_perform_122 : decode cX2_perform 122 = .ok (.iload_n 2, 1) := by decide +kernel
theorem dX2_perform_123 : decode cX2_perform 123 = .ok (.invokestatic 122, 3) := by decide +kernel
theorem dX2_perform_126 : decode cX2_perform 126 = .ok (.putfield 19, 3) := by decide +kernel
theorem dX2_perform_129 : decode cX2_perform 129 = .ok (.goto 179, 3) := by decide +kernel
theorem dX2_perform_132 : decode cX2_perform 132 = .ok (.aload_n 0, 1) := by decide +kernel
theorem dX2_perform_133 : decode cX2_perform 133 = .ok (.aload_n 0, 1) := by decide +kernel
theorem dX2_perform_134 : decode cX2_perform 134 = .ok (.getfield 39, 3) := by decide +kernel
theorem dX2_perform_137 : decode cX2_perform 137 = .ok (.aload_n 0, 1) := by decide +kernel
theorem dX2_perform_138 : decode cX2_perform 138 = .ok (.iload_n 2, 1) := by decide +kernel
theorem dX2_perform_139 : decode cX2_perform 139 = .ok (.invokevirtual 125, 3) := by decide +kernel
theorem dX2_perform_142 : decode cX2_perform 142 = .ok (.iconst 1, 1) := by decide +kernel
theorem dX2_perform_143 : decode cX2_perform 143 = .ok (.invokevirtual 128, 3) := by decide +kernel
theorem dX2_perform_146 : decode cX2_perform 146 = .ok (.putfield 19, 3) := by decide +kernel
theorem dX2_perform_149 : decode cX2_perform 149 = .ok (.goto 159, 3) := by decide +kernel
theorem dX2_perform_152 : decode cX2_perform 152 = .ok (.aload_n 0, 1) := by decide +kernel
theorem dX2_perform_153 : decode cX2_perform 153 = .ok (.aload_n 0, 1) := by decide +kernel
theorem dX2_perform_154 : decode cX2_perform 154 = .ok (.getfield 19, 3) := by decide +kernel
theorem dX2_perform_157 : decode cX2_perform 157 = .ok (.invokevirtual 131, 3) := by decide +kernel
theorem dX2_perform_160 : decode cX2_perform 160 = .ok (.goto 148, 3) := by decide +kernel
theorem dX2_perform_163 : decode cX2_perform 163 = .ok (.aload_n 0, 1) := by decide +kernel
theorem dX2_perform_164 : decode cX2_perform 164 = .ok (.aload_n 0, 1) := by decide +kernel
theorem dX2_perform_165 : decode cX2_perform 165 = .ok (.getfield 39, 3) := by decide +kernel
theorem dX2_perform_168 : decode cX2_perform 168 = .ok (.bipush 8, 2) := by decide +kernel
theorem dX2_perform_170 : decode cX2_perform 170 = .ok (.iload_n 2, 1) := by decide +kernel
theorem dX2_perform_171 : decode cX2_perform 171 = .ok (.invokestatic 122, 3) := by decide +kernel
theorem dX2_perform_174 : decode cX2_perform 174 = .ok (.aload_n 0, 1) := by decide +kernel
theorem dX2_perform_175 : decode cX2_perform 175 = .ok (.getfield 22, 3) := by decide +kernel
theorem dX2_perform_178 : decode cX2_perform 178 = .ok (.invokevirtual 135, 3) := by decide +kernel
theorem dX2_perform_181 : decode cX2_perform 181 = .ok (.putfield 19, 3) := by decide +kernel
theorem dX2_perform_184 : decode cX2_perform 184 = .ok (.goto 124, 3) := by decide +kernel
theorem dX2_perform_187 : decode cX2_perform 187 = .ok (.aload_n 0, 1) := by decide +kernel
theorem dX2_perform_188 : decode cX2_perform 188 = .ok (.aload_n 0, 1) := by decide +kernel
theorem dX2_perform_189 : decode cX2_perform 189 = .ok (.getfield 39, 3) := by decide +kernel
theorem dX2_perform_192 : decode cX2_perform 192 = .ok (.bipush 9, 2) := by decide +kernel
theorem dX2_perform_194 : decode cX2_perform 194 = .ok (.iload_n 2, 1) := by decide +kernel
theorem dX2_perform_195 : decode cX2_perform 195 = .ok (.invokestatic 122, 3) := by decide +kernel
theorem dX2_perform_198 : decode cX2_perform 198 = .ok (.aload_n 0, 1) := by decide +kernel
theorem dX2_perform_199 : decode cX2_perform 199 = .ok (.getfield 22, 3) := by decide +kernel
theorem dX2_perform_202 : decode cX2_perform 202 = .ok (.invokevirtual 135, 3) := by decide +kernel
theorem dX2_perform_205 : decode cX2_perform 205 = .ok (.putfield 19, 3) := by decide +kernel
theorem dX2_perform_208 : decode cX2_perform 208 = .ok (.goto 100, 3) := by decide +kernel
theorem dX2_perform_211 : decode cX2_perform 211 = .ok (.iload_n 2, 1) := by decide +kernel
theorem dX2_perform_212 : decode cX2_perform 212 = .ok (.istore_n 3, 1) := by decide +kernel
theorem dX2_perform_213 : decode cX2_perform 213 = .ok (.goto 95, 3) := by decide +kernel
theorem dX2_perform_216 : decode cX2_perform 216 = .ok (.aload_n 0, 1) := by decide +kernel
theorem dX2_perform_217 : decode cX2_perform 217 = .ok (.invokevirtual 139, 3) := by decide +kernel
theorem dX2_perform_220 : decode cX2_perform 220 = .ok (.invokestatic 142, 3) := by decide +kernel
theorem dX2_perform_223 : decode cX2_perform 223 = .ok (.istore_n 3, 1) := by decide +kernel
theorem dX2_perform_224 : decode cX2_perform 224 = .ok (.aload_n 0, 1) := by decide +kernel
theorem dX2_perform_225 : decode cX2_perform 225 = .ok (.aload_n 0, 1) := by decide +kernel
theorem dX2_perform_226 : decode cX2_perform 226 = .ok (.invokevirtual 139, 3) := by decide +kernel
theorem dX2_perform_229 : decode cX2_perform 229 = .ok (.putfield 22, 3) := by decide +kernel
theorem dX2_perform_232 : decode cX2_perform 232 = .ok (.goto 76, 3) := by decide +kernel
theorem dX2_perform_235 : decode cX2_perform 235 = .ok (.aload_n 0, 1) := by decide +kernel
theorem dX2_perform_236 : decode cX2_perform 236 = .ok (.iload_n 3, 1) := by decide +kernel
theorem dX2_perform_237 : decode cX2_perform 237 = .ok (.invokevirtual 145, 3) := by decide +kernel
theorem dX2_perform_240 : decode cX2_perform 240 = .ok (.istore_n 3, 1) := by decide +kernel
theorem dX2_perform_241 : decode cX2_perform 241 = .ok (.goto 67, 3) := by decide +kernel
theorem dX2_perform_244 : decode cX2_perform 244 = .ok (.aload_n 0, 1) := by decide +kernel
theorem dX2_perform_245 : decode cX2_perform 245 = .ok (.aload_n 0, 1) := by decide +kernel
theorem dX2_perform_246 : decode cX2_perform 246 = .ok (.getfield 19, 3) := by decide +kernel
theorem dX2_perform_249 : decode cX2_perform 249 = .ok (.invokevirtual 148, 3) := by decide +kernel
theorem dX2_perform_252 : decode cX2_perform 252 = .ok (.goto 56, 3) := by decide +kernel
theorem dX2_perform_255 : decode cX2_perform 255 = .ok (.aload_n 0, 1) := by decide +kernel
theorem dX2_perform_256 : decode cX2_perform 256 = .ok (.aload_n 0, 1) := by decide +kernel
theorem dX2_perform_257 : decode cX2_perform 257 = .ok (.iload_n 2, 1) := by decide +kernel
theorem dX2_perform_258 : decode cX2_perform 258 = .ok (.invokevirtual 125, 3) := by decide +kernel
theorem dX2_perform_261 : decode cX2_perform 261 = .ok (.putfield 22, 3) := by decide +kernel
theorem dX2_perform_264 : decode cX2_perform 264 = .ok (.goto 44, 3) := by decide +kernel
theorem dX2_perform_267 : decode cX2_perform 267 = .ok (.aload_n 0, 1) := by decide +kernel
theorem dX2_perform_268 : decode cX2_perform 268 = .ok (.iload_n 2, 1) := by decide +kernel
theorem dX2_perform_269 : decode cX2_perform 269 = .ok (.invokestatic 151, 3) := by decide +kernel
theorem dX2_perform_272 : decode cX2_perform 272 = .ok (.putfield 19, 3) := by decide +kernel
theorem dX2_perform_275 : decode cX2_perform 275 = .ok (.goto 33, 3) := by decide +kernel
theorem dX2_perform_278 : decode cX2_perform 278 = .ok (.aload_n 0, 1) := by decide +kernel
theorem dX2_perform_279 : decode cX2_perform 279 = .ok (.iload_n 2, 1) := by decide +kernel
theorem dX2_perform_280 : decode cX2_perform 280 = .ok (.invokevirtual 154, 3) := by decide +kernel
theorem dX2_perform_283 : decode cX2_perform 283 = .ok (.goto 25, 3) := by decide +kernel
theorem dX2_perform_286 : decode cX2_perform 286 = .ok (.aload_n 0, 1) := by decide +kernel
theorem dX2_perform_287 : decode cX2_perform 287 = .ok (.iload_n 2, 1) := by decide +kernel
theorem dX2_perform_288 : decode cX2_perform 288 = .ok (.invokevirtual 89, 3) := by decide +kernel
theorem dX2_perform_291 : decode cX2_perform 291 = .ok (.istore_n 3, 1) := by decide +kernel
theorem dX2_perform_292 : decode cX2_perform 292 = .ok (.goto 16, 3) := by decide +kernel
theorem dX2_perform_295 : decode cX2_perform 295 = .ok (.aload_n 0, 1) := by decide +kernel
theorem dX2_perform_296 : decode cX2_perform 296 = .ok (.iload_n 2, 1) := by decide +kernel
theorem dX2_perform_297 : decode cX2_perform 297 = .ok (.invokevirtual 157, 3) := by decide +kernel
theorem dX2_perform_300 : decode cX2_perform 300 = .ok (.goto 8, 3) := by decide +kernel
theorem dX2_perform_303 : decode cX2_perform 303 = .ok (.aload_n 0, 1) := by decide +kernel
theorem dX2_perform_304 : decode cX2_perform 304 = .ok (.iload_n 1, 1) := by decide +kernel
theorem dX2_perform_305 : decode cX2_perform 305 = .ok (.invokevirtual 160, 3) := by decide +kernel
theorem dX2_perform_308 : decode cX2_perform 308 = .ok (.aload_n 0, 1) := by decide +kernel
theorem dX2_perform_309 : decode cX2_perform 309 = .ok (.iload_n 3, 1) := by decide +kernel
theorem dX2_perform_310 : decode cX2_perform 310 = .ok (.putfield 25, 3) := by decide +kernel
theorem dX2_perform_313 : decode cX2_perform 313 = .ok (.return_, 1) := by decide +kernel
theorem dX2_operate_0 : decode cX2_operate 0 = .ok (.aload_n 0, 1) := by decide +kernel
theorem dX2_operate_1 : decode cX2_operate 1 = .ok (.invokevirtual 139, 3) := by decide +kernel
theorem dX2_operate_4 : decode cX2_operate 4 = .ok (.invokestatic 142, 3) := by decide +kernel
theorem dX2_operate_7 : decode cX2_operate 7 = .ok (.istore_n 2, 1) := by decide +kernel
theorem dX2_operate_8 : decode cX2_operate 8 = .ok (.aload_n 0, 1) := by decide +kernel
theorem dX2_operate_9 : decode cX2_operate 9 = .ok (.getfield 19, 3) := by decide +kernel
theorem dX2_operate_12 : decode cX2_operate 12 = .ok (.invokestatic 142, 3) := by decide +kernel
theorem dX2_operate_15 : decode cX2_operate 15 = .ok (.istore_n 3, 1) := by decide +kernel
theorem dX2_operate_16 : decode cX2_operate 16 = .ok (.iload_n 1, 1) := by decide +kernel
theorem dX2_operate_17 : decode cX2_operate 17 = .ok (.tableswitch 90 4 7 #[31, 44, 57, 70], 31) := by decide +kernel
theorem dX2_operate_48 : decode cX2_operate 48 = .ok (.aload_n 0, 1) := by decide +kernel
theorem dX2_operate_49 : decode cX2_operate 49 = .ok (.iload_n 2, 1) := by decide +kernel
theorem dX2_operate_50 : decode cX2_operate 50 = .ok (.iload_n 3, 1) := by decide +kernel
theorem dX2_operate_51 : decode cX2_operate 51 = .ok (.iadd, 1) := by decide +kernel
theorem dX2_operate_52 : decode cX2_operate 52 = .ok (.invokestatic 122, 3) := by decide +kernel
theorem dX2_operate_55 : decode cX2_operate 55 = .ok (.putfield 19, 3) := by decide +kernel
theorem dX2_operate_58 : decode cX2_operate 58 = .ok (.goto 66, 3) := by decide +kernel
theorem dX2_operate_61 : decode cX2_operate 61 = .ok (.aload_n 0, 1) := by decide +kernel
theorem dX2_operate_62 : decode cX2_operate 62 = .ok (.iload_n 2, 1) := by decide +kernel
theorem dX2_operate_63 : decode cX2_operate 63 = .ok (.iload_n 3, 1) := by decide +kernel
theorem dX2_operate_64 : decode cX2_operate 64 = .ok (.isub, 1) := by decide +kernel
theorem dX2_operate_65 : decode cX2_operate 65 = .ok (.invokestatic 122, 3) := by decide +kernel
theorem dX2_operate_68 : decode cX2_operate 68 = .ok (.putfield 19, 3) := by decide +kernel
theorem dX2_operate_71 : decode cX2_operate 71 = .ok (.goto 53, 3) := by decide +kernel
theorem dX2_operate_74 : decode cX2_operate 74 = .ok (.aload_n 0, 1) := by decide +kernel
theorem dX2_operate_75 : decode cX2_operate 75 = .ok (.iload_n 2, 1) := by decide +kernel
theorem dX2_operate_76 : decode cX2_operate 76 = .ok (.iload_n 3, 1) := by decide +kernel
theorem dX2_operate_77 : decode cX2_operate 77 = .ok (.imul, 1) := by decide +kernel
theorem dX2_operate_78 : decode cX2_operate 78 = .ok (.invokestatic 122, 3) := by decide +kernel
theorem dX2_operate_81 : decode cX2_operate 81 = .ok (.putfield 19, 3) := by decide +kernel
theorem dX2_operate_84 : decode cX2_operate 84 = .ok (.goto 40, 3) := by decide +kernel
theorem dX2_operate_87 : decode cX2_operate 87 = .ok (.aload_n 0, 1) := by decide +kernel
theorem dX2_operate_88 : decode cX2_operate 88 = .ok (.iload_n 2, 1) := by decide +kernel
theorem dX2_operate_89 : decode cX2_operate 89 = .ok (.iload_n 3, 1) := by decide +kernel
theorem dX2_operate_90 : decode cX2_operate 90 = .ok (.if_icmp .ge 7, 3) := by decide +kernel
theorem dX2_operate_93 : decode cX2_operate 93 = .ok (.iconst 1, 1) := by decide +kernel
theorem dX2_operate_94 : decode cX2_operate 94 = .ok (.goto 4, 3) := by decide +kernel
theorem dX2_operate_97 : decode cX2_operate 97 = .ok (.iconst 0, 1) := by decide +kernel
theorem dX2_operate_98 : decode cX2_operate 98 = .ok (.invokestatic 163, 3) := by decide +kernel
theorem dX2_operate_101 : decode cX2_operate 101 = .ok (.putfield 19, 3) := by decide +kernel
theorem dX2_operate_104 : decode cX2_operate 104 = .ok (.goto 20, 3) := by decide +kernel
theorem dX2_operate_107 : decode cX2_operate 107 = .ok (.aload_n 0, 1) := by decide +kernel
theorem dX2_operate_108 : decode cX2_operate 108 = .ok (.iload_n 2, 1) := by decide +kernel
theorem dX2_operate_109 : decode cX2_operate 109 = .ok (.iload_n 3, 1) := by decide +kernel
theorem dX2_operate_110 : decode cX2_operate 110 = .ok (.if_icmp .ne 7, 3) := by decide +kernel
theorem dX2_operate_113 : decode cX2_operate 113 = .ok (.iconst 1, 1) := by decide +kernel
theorem dX2_operate_114 : decode cX2_operate 114 = .ok (.goto 4, 3) := by decide +kernel
theorem dX2_operate_117 : decode cX2_operate 117 = .ok (.iconst 0, 1) := by decide +kernel
theorem dX2_operate_118 : decode cX2_operate 118 = .ok (.invokestatic 163, 3) := by decide +kernel
theorem dX2_operate_121 : decode cX2_operate 121 = .ok (.putfield 19, 3) := by decide +kernel
theorem dX2_operate_124 : decode cX2_operate 124 = .ok (.return_, 1) := by decide +kernel
theorem dX2_wordOfTruth_0 : decode cX2_wordOfTruth 0 = .ok (.iload_n 0, 1) := by decide +kernel
theorem dX2_wordOfTruth_1 : decode cX2_wordOfTruth 1 = .ok (.ifCond .eq 7, 3) := by decide +kernel
theorem dX2_wordOfTruth_4 : decode cX2_wordOfTruth 4 = .ok (.iconst 4, 1) := by decide +kernel
theorem dX2_wordOfTruth_5 : decode cX2_wordOfTruth 5 = .ok (.goto 4, 3) := by decide +kernel
theorem dX2_wordOfTruth_8 : decode cX2_wordOfTruth 8 = .ok (.iconst 0, 1) := by decide +kernel
theorem dX2_wordOfTruth_9 : decode cX2_wordOfTruth 9 = .ok (.invokestatic 151, 3) := by decide +kernel
theorem dX2_wordOfTruth_12 : decode cX2_wordOfTruth 12 = .ok (.ireturn, 1) := by decide +kernel
theorem dX2_enterFunction_0 : decode cX2_enterFunction 0 = .ok (.aload_n 0, 1) := by decide +kernel
theorem dX2_enterFunction_1 : decode cX2_enterFunction 1 = .ok (.invokevirtual 139, 3) := by decide +kernel
theorem dX2_enterFunction_4 : decode cX2_enterFunction 4 = .ok (.istore_n 2, 1) := by decide +kernel
theorem dX2_enterFunction_5 : decode cX2_enterFunction 5 = .ok (.aload_n 0, 1) := by decide +kernel
theorem dX2_enterFunction_6 : decode cX2_enterFunction 6 = .ok (.aload_n 0, 1) := by decide +kernel
theorem dX2_enterFunction_7 : decode cX2_enterFunction 7 = .ok (.getfield 22, 3) := by decide +kernel
theorem dX2_enterFunction_10 : decode cX2_enterFunction 10 = .ok (.invokevirtual 131, 3) := by decide +kernel
theorem dX2_enterFunction_13 : decode cX2_enterFunction 13 = .ok (.aload_n 0, 1) := by decide +kernel
theorem dX2_enterFunction_14 : decode cX2_enterFunction 14 = .ok (.iload_n 1, 1) := by decide +kernel
theorem dX2_enterFunction_15 : decode cX2_enterFunction 15 = .ok (.invokestatic 122, 3) := by decide +kernel
theorem dX2_enterFunction_18 : decode cX2_enterFunction 18 = .ok (.invokevirtual 131, 3) := by decide +kernel
theorem dX2_enterFunction_21 : decode cX2_enterFunction 21 = .ok (.aload_n 0, 1) := by decide +kernel
theorem dX2_enterFunction_22 : decode cX2_enterFunction 22 = .ok (.aload_n 0, 1) := by decide +kernel
theorem dX2_enterFunction_23 : decode cX2_enterFunction 23 = .ok (.getfield 39, 3) := by decide +kernel
theorem dX2_enterFunction_26 : decode cX2_enterFunction 26 = .ok (.aload_n 0, 1) := by decide +kernel
theorem dX2_enterFunction_27 : decode cX2_enterFunction 27 = .ok (.getfield 19, 3) := by decide +kernel
theorem dX2_enterFunction_30 : decode cX2_enterFunction 30 = .ok (.iconst 2, 1) := by decide +kernel
theorem dX2_enterFunction_31 : decode cX2_enterFunction 31 = .ok (.invokevirtual 128, 3) := by decide +kernel
theorem dX2_enterFunction_34 : decode cX2_enterFunction 34 = .ok (.putfield 22, 3) := by decide +kernel
theorem dX2_enterFunction_37 : decode cX2_enterFunction 37 = .ok (.aload_n 0, 1) := by decide +kernel
theorem dX2_enterFunction_38 : decode cX2_enterFunction 38 = .ok (.getfield 39, 3) := by decide +kernel
theorem dX2_enterFunction_41 : decode cX2_enterFunction 41 = .ok (.aload_n 0, 1) := by decide +kernel
theorem dX2_enterFunction_42 : decode cX2_enterFunction 42 = .ok (.getfield 19, 3) := by decide +kernel
theorem dX2_enterFunction_45 : decode cX2_enterFunction 45 = .ok (.invokevirtual 101, 3) := by decide +kernel
theorem dX2_enterFunction_48 : decode cX2_enterFunction 48 = .ok (.bipush 9, 2) := by decide +kernel
theorem dX2_enterFunction_50 : decode cX2_enterFunction 50 = .ok (.if_icmp .ne 11, 3) := by decide +kernel
theorem dX2_enterFunction_53 : decode cX2_enterFunction 53 = .ok (.aload_n 0, 1) := by decide +kernel
theorem dX2_enterFunction_54 : decode cX2_enterFunction 54 = .ok (.aload_n 0, 1) := by decide +kernel
theorem dX2_enterFunction_55 : decode cX2_enterFunction 55 = .ok (.getfield 19, 3) := by decide +kernel
theorem dX2_enterFunction_58 : decode cX2_enterFunction 58 = .ok (.invokevirtual 148, 3) := by decide +kernel
theorem dX2_enterFunction_61 : decode cX2_enterFunction 61 = .ok (.aload_n 0, 1) := by decide +kernel
theorem dX2_enterFunction_62 : decode cX2_enterFunction 62 = .ok (.iload_n 2, 1) := by decide +kernel
theorem dX2_enterFunction_63 : decode cX2_enterFunction 63 = .ok (.invokevirtual 148, 3) := by decide +kernel
theorem dX2_enterFunction_66 : decode cX2_enterFunction 66 = .ok (.aload_n 0, 1) := by decide +kernel
theorem dX2_enterFunction_67 : decode cX2_enterFunction 67 = .ok (.getfield 39, 3) := by decide +kernel
theorem dX2_enterFunction_70 : decode cX2_enterFunction 70 = .ok (.aload_n 0, 1) := by decide +kernel
theorem dX2_enterFunction_71 : decode cX2_enterFunction 71 = .ok (.getfield 19, 3) := by decide +kernel
theorem dX2_enterFunction_74 : decode cX2_enterFunction 74 = .ok (.iconst 1, 1) := by decide +kernel
theorem dX2_enterFunction_75 : decode cX2_enterFunction 75 = .ok (.invokevirtual 128, 3) := by decide +kernel
theorem dX2_enterFunction_78 : decode cX2_enterFunction 78 = .ok (.invokestatic 142, 3) := by decide +kernel
theorem dX2_enterFunction_81 : decode cX2_enterFunction 81 = .ok (.ireturn, 1) := by decide +kernel
theorem dX2_bind_0 : decode cX2_bind 0 = .ok (.aload_n 0, 1) := by decide +kernel
theorem dX2_bind_1 : decode cX2_bind 1 = .ok (.aload_n 0, 1) := by decide +kernel
theorem dX2_bind_2 : decode cX2_bind 2 = .ok (.getfield 39, 3) := by decide +kernel
theorem dX2_bind_5 : decode cX2_bind 5 = .ok (.bipush 10, 2) := by decide +kernel
theorem dX2_bind_7 : decode cX2_bind 7 = .ok (.iload_n 1, 1) := by decide +kernel
theorem dX2_bind_8 : decode cX2_bind 8 = .ok (.aload_n 0, 1) := by decide +kernel
theorem dX2_bind_9 : decode cX2_bind 9 = .ok (.getfield 22, 3) := by decide +kernel
theorem dX2_bind_12 : decode cX2_bind 12 = .ok (.invokevirtual 135, 3) := by decide +kernel
theorem dX2_bind_15 : decode cX2_bind 15 = .ok (.putfield 22, 3) := by decide +kernel
theorem dX2_bind_18 : decode cX2_bind 18 = .ok (.return_, 1) := by decide +kernel
theorem dX2_make_0 : decode cX2_make 0 = .ok (.iload_n 1, 1) := by decide +kernel
theorem dX2_make_1 : decode cX2_make 1 = .ok (.invokestatic 98, 3) := by decide +kernel
theorem dX2_make_4 : decode cX2_make 4 = .ok (.istore_n 2, 1) := by decide +kernel
theorem dX2_make_5 : decode cX2_make 5 = .ok (.iconst 0, 1) := by decide +kernel
theorem dX2_make_6 : decode cX2_make 6 = .ok (.aload_n 0, 1) := by decide +kernel
theorem dX2_make_7 : decode cX2_make 7 = .ok (.getfield 15, 3) := by decide +kernel
theorem dX2_make_10 : decode cX2_make 10 = .ok (.iload_n 2, 1) := by decide +kernel
theorem dX2_make_11 : decode cX2_make 11 = .ok (.iconst 1, 1) := by decide +kernel
theorem dX2_make_12 : decode cX2_make 12 = .ok (.isub, 1) := by decide +kernel
theorem dX2_make_13 : decode cX2_make 13 = .ok (.isub, 1) := by decide +kernel
theorem dX2_make_14 : decode cX2_make 14 = .ok (.invokestatic 167, 3) := by decide +kernel
theorem dX2_make_17 : decode cX2_make 17 = .ok (.istore_n 3, 1) := by decide +kernel
theorem dX2_make_18 : decode cX2_make 18 = .ok (.aload_n 0, 1) := by decide +kernel
theorem dX2_make_19 : decode cX2_make 19 = .ok (.getfield 39, 3) := by decide +kernel
theorem dX2_make_22 : decode cX2_make 22 = .ok (.iload_n 1, 1) := by decide +kernel
theorem dX2_make_23 : decode cX2_make 23 = .ok (.iload_n 2, 1) := by decide +kernel
theorem dX2_make_24 : decode cX2_make 24 = .ok (.invokevirtual 172, 3) := by decide +kernel
theorem dX2_make_27 : decode cX2_make 27 = .ok (.istore 4, 2) := by decide +kernel
theorem dX2_make_29 : decode cX2_make 29 = .ok (.iload_n 3, 1) := by decide +kernel
theorem dX2_make_30 : decode cX2_make 30 = .ok (.istore 5, 2) := by decide +kernel
theorem dX2_make_32 : decode cX2_make 32 = .ok (.iload 5, 2) := by decide +kernel
theorem dX2_make_34 : decode cX2_make 34 = .ok (.aload_n 0, 1) := by decide +kernel
theorem dX2_make_35 : decode cX2_make 35 = .ok (.getfield 15, 3) := by decide +kernel
theorem dX2_make_38 : decode cX2_make 38 = .ok (.if_icmp .ge 33, 3) := by decide +kernel
theorem dX2_make_41 : decode cX2_make 41 = .ok (.iload 5, 2) := by decide +kernel
theorem dX2_make_43 : decode cX2_make 43 = .ok (.aload_n 0, 1) := by decide +kernel
theorem dX2_make_44 : decode cX2_make 44 = .ok (.getfield 9, 3) := by decide +kernel
theorem dX2_make_47 : decode cX2_make 47 = .ok (.arraylength, 1) := by decide +kernel
theorem dX2_make_48 : decode cX2_make 48 = .ok (.if_icmp .ge 23, 3) := by decide +kernel
theorem dX2_make_51 : decode cX2_make 51 = .ok (.aload_n 0, 1) := by decide +kernel
theorem dX2_make_52 : decode cX2_make 52 = .ok (.getfield 39, 3) := by decide +kernel
theorem dX2_make_55 : decode cX2_make 55 = .ok (.aload_n 0, 1) := by decide +kernel
theorem dX2_make_56 : decode cX2_make 56 = .ok (.getfield 9, 3) := by decide +kernel
theorem dX2_make_59 : decode cX2_make 59 = .ok (.iload 5, 2) := by decide +kernel
theorem dX2_make_61 : decode cX2_make 61 = .ok (.iaload, 1) := by decide +kernel
theorem dX2_make_62 : decode cX2_make 62 = .ok (.invokevirtual 175, 3) := by decide +kernel
theorem dX2_make_65 : decode cX2_make 65 = .ok (.iinc 5 1, 3) := by decide +kernel
theorem dX2_make_68 : decode cX2_make 68 = .ok (.goto (-36), 3) := by decide +kernel
theorem dX2_make_71 : decode cX2_make 71 = .ok (.aload_n 0, 1) := by decide +kernel
theorem dX2_make_72 : decode cX2_make 72 = .ok (.getfield 39, 3) := by decide +kernel
theorem dX2_make_75 : decode cX2_make 75 = .ok (.aload_n 0, 1) := by decide +kernel
theorem dX2_make_76 : decode cX2_make 76 = .ok (.getfield 19, 3) := by decide +kernel
theorem dX2_make_79 : decode cX2_make 79 = .ok (.invokevirtual 175, 3) := by decide +kernel
theorem dX2_make_82 : decode cX2_make 82 = .ok (.aload_n 0, 1) := by decide +kernel
theorem dX2_make_83 : decode cX2_make 83 = .ok (.iload_n 3, 1) := by decide +kernel
theorem dX2_make_84 : decode cX2_make 84 = .ok (.putfield 15, 3) := by decide +kernel
theorem dX2_make_87 : decode cX2_make 87 = .ok (.aload_n 0, 1) := by decide +kernel
theorem dX2_make_88 : decode cX2_make 88 = .ok (.iload 4, 2) := by decide +kernel
theorem dX2_make_90 : decode cX2_make 90 = .ok (.putfield 19, 3) := by decide +kernel
theorem dX2_make_93 : decode cX2_make 93 = .ok (.return_, 1) := by decide +kernel
theorem dX2_open_0 : decode cX2_open 0 = .ok (.iconst 1, 1) := by decide +kernel
theorem dX2_open_1 : decode cX2_open 1 = .ok (.istore_n 2, 1) := by decide +kernel
theorem dX2_open_2 : decode cX2_open 2 = .ok (.iload_n 2, 1) := by decide +kernel
theorem dX2_open_3 : decode cX2_open 3 = .ok (.iload_n 1, 1) := by decide +kernel
theorem dX2_open_4 : decode cX2_open 4 = .ok (.if_icmp .gt 25, 3) := by decide +kernel
theorem dX2_open_7 : decode cX2_open 7 = .ok (.aload_n 0, 1) := by decide +kernel
theorem dX2_open_8 : decode cX2_open 8 = .ok (.aload_n 0, 1) := by decide +kernel
theorem dX2_open_9 : decode cX2_open 9 = .ok (.getfield 39, 3) := by decide +kernel
theorem dX2_open_12 : decode cX2_open 12 = .ok (.aload_n 0, 1) := by decide +kernel
theorem dX2_open_13 : decode cX2_open 13 = .ok (.getfield 19, 3) := by decide +kernel
theorem dX2_open_16 : decode cX2_open 16 = .ok (.iload_n 2, 1) := by decide +kernel
theorem dX2_open_17 : decode cX2_open 17 = .ok (.invokevirtual 128, 3) := by decide +kernel
theorem dX2_open_20 : decode cX2_open 20 = .ok (.invokevirtual 148, 3) := by decide +kernel
theorem dX2_open_23 : decode cX2_open 23 = .ok (.iinc 2 1, 3) := by decide +kernel
theorem dX2_open_26 : decode cX2_open 26 = .ok (.goto (-24), 3) := by decide +kernel
theorem dX2_open_29 : decode cX2_open 29 = .ok (.return_, 1) := by decide +kernel
theorem dX2_furtherOn_0 : decode cX2_furtherOn 0 = .ok (.aload_n 0, 1) := by decide +kernel
theorem dX2_furtherOn_1 : decode cX2_furtherOn 1 = .ok (.getfield 22, 3) := by decide +kernel
theorem dX2_furtherOn_4 : decode cX2_furtherOn 4 = .ok (.istore_n 2, 1) := by decide +kernel
theorem dX2_furtherOn_5 : decode cX2_furtherOn 5 = .ok (.iconst 0, 1) := by decide +kernel
theorem dX2_furtherOn_6 : decode cX2_furtherOn 6 = .ok (.istore_n 3, 1) := by decide +kernel
theorem dX2_furtherOn_7 : decode cX2_furtherOn 7 = .ok (.iload_n 3, 1) := by decide +kernel
theorem dX2_furtherOn_8 : decode cX2_furtherOn 8 = .ok (.iload_n 1, 1) := by decide +kernel
theorem dX2_furtherOn_9 : decode cX2_furtherOn 9 = .ok (.if_icmp .ge 19, 3) := by decide +kernel
theorem dX2_furtherOn_12 : decode cX2_furtherOn 12 = .ok (.aload_n 0, 1) := by decide +kernel
theorem dX2_furtherOn_13 : decode cX2_furtherOn 13 = .ok (.getfield 39, 3) := by decide +kernel
theorem dX2_furtherOn_16 : decode cX2_furtherOn 16 = .ok (.iload_n 2, 1) := by decide +kernel
theorem dX2_furtherOn_17 : decode cX2_furtherOn 17 = .ok (.iconst 2, 1) := by decide +kernel
theorem dX2_furtherOn_18 : decode cX2_furtherOn 18 = .ok (.invokevirtual 128, 3) := by decide +kernel
theorem dX2_furtherOn_21 : decode cX2_furtherOn 21 = .ok (.istore_n 2, 1) := by decide +kernel
theorem dX2_furtherOn_22 : decode cX2_furtherOn 22 = .ok (.iinc 3 1, 3) := by decide +kernel
theorem dX2_furtherOn_25 : decode cX2_furtherOn 25 = .ok (.goto (-18), 3) := by decide +kernel
theorem dX2_furtherOn_28 : decode cX2_furtherOn 28 = .ok (.iload_n 2, 1) := by decide +kernel
theorem dX2_furtherOn_29 : decode cX2_furtherOn 29 = .ok (.ireturn, 1) := by decide +kernel
theorem dX2_placeOfCase_0 : decode cX2_placeOfCase 0 = .ok (.aload_n 0, 1) := by decide +kernel
theorem dX2_placeOfCase_1 : decode cX2_placeOfCase 1 = .ok (.getfield 39, 3) := by decide +kernel
theorem dX2_placeOfCase_4 : decode cX2_placeOfCase 4 = .ok (.aload_n 0, 1) := by decide +kernel
theorem dX2_placeOfCase_5 : decode cX2_placeOfCase 5 = .ok (.getfield 19, 3) := by decide +kernel
theorem dX2_placeOfCase_8 : decode cX2_placeOfCase 8 = .ok (.invokevirtual 178, 3) := by decide +kernel
theorem dX2_placeOfCase_11 : decode cX2_placeOfCase 11 = .ok (.istore_n 2, 1) := by decide +kernel
theorem dX2_placeOfCase_12 : decode cX2_placeOfCase 12 = .ok (.iconst 1, 1) := by decide +kernel
theorem dX2_placeOfCase_13 : decode cX2_placeOfCase 13 = .ok (.istore_n 3, 1) := by decide +kernel
theorem dX2_placeOfCase_14 : decode cX2_placeOfCase 14 = .ok (.iload_n 3, 1) := by decide +kernel
theorem dX2_placeOfCase_15 : decode cX2_placeOfCase 15 = .ok (.iload_n 1, 1) := by decide +kernel
theorem dX2_placeOfCase_16 : decode cX2_placeOfCase 16 = .ok (.if_icmp .gt 47, 3) := by decide +kernel
theorem dX2_placeOfCase_19 : decode cX2_placeOfCase 19 = .ok (.iload_n 2, 1) := by decide +kernel
theorem dX2_placeOfCase_20 : decode cX2_placeOfCase 20 = .ok (.iconst (-1), 1) := by decide +kernel
theorem dX2_placeOfCase_21 : decode cX2_placeOfCase 21 = .ok (.if_icmp .eq 42, 3) := by decide +kernel
theorem dX2_placeOfCase_24 : decode cX2_placeOfCase 24 = .ok (.aload_n 0, 1) := by decide +kernel
theorem dX2_placeOfCase_25 : decode cX2_placeOfCase 25 = .ok (.getfield 35, 3) := by decide +kernel
theorem dX2_placeOfCase_28 : decode cX2_placeOfCase 28 = .ok (.aload_n 0, 1) := by decide +kernel
theorem dX2_placeOfCase_29 : decode cX2_placeOfCase 29 = .ok (.getfield 25, 3) := by decide +kernel
theorem dX2_placeOfCase_32 : decode cX2_placeOfCase 32 = .ok (.iload_n 3, 1) := by decide +kernel
theorem dX2_placeOfCase_33 : decode cX2_placeOfCase 33 = .ok (.iadd, 1) := by decide +kernel
theorem dX2_placeOfCase_34 : decode cX2_placeOfCase 34 = .ok (.iconst 1, 1) := by decide +kernel
theorem dX2_placeOfCase_35 : decode cX2_placeOfCase 35 = .ok (.invokevirtual 53, 3) := by decide +kernel
theorem dX2_placeOfCase_38 : decode cX2_placeOfCase 38 = .ok (.iload_n 2, 1) := by decide +kernel
theorem dX2_placeOfCase_39 : decode cX2_placeOfCase 39 = .ok (.if_icmp .ne 18, 3) := by decide +kernel
theorem dX2_placeOfCase_42 : decode cX2_placeOfCase 42 = .ok (.aload_n 0, 1) := by decide +kernel
theorem dX2_placeOfCase_43 : decode cX2_placeOfCase 43 = .ok (.getfield 35, 3) := by decide +kernel
theorem dX2_placeOfCase_46 : decode cX2_placeOfCase 46 = .ok (.aload_n 0, 1) := by decide +kernel
theorem dX2_placeOfCase_47 : decode cX2_placeOfCase 47 = .ok (.getfield 25, 3) := by decide +kernel
theorem dX2_placeOfCase_50 : decode cX2_placeOfCase 50 = .ok (.iload_n 3, 1) := by decide +kernel
theorem dX2_placeOfCase_51 : decode cX2_placeOfCase 51 = .ok (.iadd, 1) := by decide +kernel
theorem dX2_placeOfCase_52 : decode cX2_placeOfCase 52 = .ok (.iconst 2, 1) := by decide +kernel
theorem dX2_placeOfCase_53 : decode cX2_placeOfCase 53 = .ok (.invokevirtual 53, 3) := by decide +kernel
theorem dX2_placeOfCase_56 : decode cX2_placeOfCase 56 = .ok (.ireturn, 1) := by decide +kernel
theorem dX2_placeOfCase_57 : decode cX2_placeOfCase 57 = .ok (.iinc 3 1, 3) := by decide +kernel
theorem dX2_placeOfCase_60 : decode cX2_placeOfCase 60 = .ok (.goto (-46), 3) := by decide +kernel
theorem dX2_placeOfCase_63 : decode cX2_placeOfCase 63 = .ok (.iconst (-1), 1) := by decide +kernel
theorem dX2_placeOfCase_64 : decode cX2_placeOfCase 64 = .ok (.ireturn, 1) := by decide +kernel
theorem dX2_top_0 : decode cX2_top 0 = .ok (.aload_n 0, 1) := by decide +kernel
theorem dX2_top_1 : decode cX2_top 1 = .ok (.getfield 15, 3) := by decide +kernel
theorem dX2_top_4 : decode cX2_top 4 = .ok (.ifCond .le 29, 3) := by decide +kernel
theorem dX2_top_7 : decode cX2_top 7 = .ok (.aload_n 0, 1) := by decide +kernel
theorem dX2_top_8 : decode cX2_top 8 = .ok (.getfield 15, 3) := by decide +kernel
theorem dX2_top_11 : decode cX2_top 11 = .ok (.aload_n 0, 1) := by decide +kernel
theorem dX2_top_12 : decode cX2_top 12 = .ok (.getfield 9, 3) := by decide +kernel
theorem dX2_top_15 : decode cX2_top 15 = .ok (.arraylength, 1) := by decide +kernel
theorem dX2_top_16 : decode cX2_top 16 = .ok (.if_icmp .gt 17, 3) := by decide +kernel
theorem dX2_top_19 : decode cX2_top 19 = .ok (.aload_n 0, 1) := by decide +kernel
theorem dX2_top_20 : decode cX2_top 20 = .ok (.getfield 9, 3) := by decide +kernel
theorem dX2_top_23 : decode cX2_top 23 = .ok (.aload_n 0, 1) := by decide +kernel
theorem dX2_top_24 : decode cX2_top 24 = .ok (.getfield 15, 3) := by decide +kernel
theorem dX2_top_27 : decode cX2_top 27 = .ok (.iconst 1, 1) := by decide +kernel
theorem dX2_top_28 : decode cX2_top 28 = .ok (.isub, 1) := by decide +kernel
theorem dX2_top_29 : decode cX2_top 29 = .ok (.iaload, 1) := by decide +kernel
theorem dX2_top_30 : decode cX2_top 30 = .ok (.goto 5, 3) := by decide +kernel
theorem dX2_top_33 : decode cX2_top 33 = .ok (.bipush (-4), 2) := by decide +kernel
theorem dX2_top_35 : decode cX2_top 35 = .ok (.ireturn, 1) := by decide +kernel
theorem dX2_pop_0 : decode cX2_pop 0 = .ok (.aload_n 0, 1) := by decide +kernel
theorem dX2_pop_1 : decode cX2_pop 1 = .ok (.invokevirtual 82, 3) := by decide +kernel
theorem dX2_pop_4 : decode cX2_pop 4 = .ok (.istore_n 1, 1) := by decide +kernel
theorem dX2_pop_5 : decode cX2_pop 5 = .ok (.aload_n 0, 1) := by decide +kernel
theorem dX2_pop_6 : decode cX2_pop 6 = .ok (.iconst 0, 1) := by decide +kernel
theorem dX2_pop_7 : decode cX2_pop 7 = .ok (.aload_n 0, 1) := by decide +kernel
theorem dX2_pop_8 : decode cX2_pop 8 = .ok (.getfield 15, 3) := by decide +kernel
theorem dX2_pop_11 : decode cX2_pop 11 = .ok (.iconst 1, 1) := by decide +kernel
theorem dX2_pop_12 : decode cX2_pop 12 = .ok (.isub, 1) := by decide +kernel
theorem dX2_pop_13 : decode cX2_pop 13 = .ok (.invokestatic 167, 3) := by decide +kernel
theorem dX2_pop_16 : decode cX2_pop 16 = .ok (.putfield 15, 3) := by decide +kernel
theorem dX2_pop_19 : decode cX2_pop 19 = .ok (.iload_n 1, 1) := by decide +kernel
theorem dX2_pop_20 : decode cX2_pop 20 = .ok (.ireturn, 1) := by decide +kernel
theorem dX2_push_0 : decode cX2_push 0 = .ok (.aload_n 0, 1) := by decide +kernel
theorem dX2_push_1 : decode cX2_push 1 = .ok (.getfield 15, 3) := by decide +kernel
theorem dX2_push_4 : decode cX2_push 4 = .ok (.ifCond .lt 35, 3) := by decide +kernel
theorem dX2_push_7 : decode cX2_push 7 = .ok (.aload_n 0, 1) := by decide +kernel
theorem dX2_push_8 : decode cX2_push 8 = .ok (.getfield 15, 3) := by decide +kernel
theorem dX2_push_11 : decode cX2_push 11 = .ok (.aload_n 0, 1) := by decide +kernel
theorem dX2_push_12 : decode cX2_push 12 = .ok (.getfield 9, 3) := by decide +kernel
theorem dX2_push_15 : decode cX2_push 15 = .ok (.arraylength, 1) := by decide +kernel
theorem dX2_push_16 : decode cX2_push 16 = .ok (.if_icmp .ge 23, 3) := by decide +kernel
theorem dX2_push_19 : decode cX2_push 19 = .ok (.aload_n 0, 1) := by decide +kernel
theorem dX2_push_20 : decode cX2_push 20 = .ok (.getfield 9, 3) := by decide +kernel
theorem dX2_push_23 : decode cX2_push 23 = .ok (.aload_n 0, 1) := by decide +kernel
theorem dX2_push_24 : decode cX2_push 24 = .ok (.getfield 15, 3) := by decide +kernel
theorem dX2_push_27 : decode cX2_push 27 = .ok (.iload_n 1, 1) := by decide +kernel
theorem dX2_push_28 : decode cX2_push 28 = .ok (.iastore, 1) := by decide +kernel
theorem dX2_push_29 : decode cX2_push 29 = .ok (.aload_n 0, 1) := by decide +kernel
theorem dX2_push_30 : decode cX2_push 30 = .ok (.dup, 1) := by decide +kernel
theorem dX2_push_31 : decode cX2_push 31 = .ok (.getfield 15, 3) := by decide +kernel
theorem dX2_push_34 : decode cX2_push 34 = .ok (.iconst 1, 1) := by decide +kernel
theorem dX2_push_35 : decode cX2_push 35 = .ok (.iadd, 1) := by decide +kernel
theorem dX2_push_36 : decode cX2_push 36 = .ok (.putfield 15, 3) := by decide +kernel
theorem dX2_push_39 : decode cX2_push 39 = .ok (.return_, 1) := by decide +kernel
theorem dX2_wordAt_0 : decode cX2_wordAt 0 = .ok (.aload_n 0, 1) := by decide +kernel
theorem dX2_wordAt_1 : decode cX2_wordAt 1 = .ok (.getfield 19, 3) := by decide +kernel
theorem dX2_wordAt_4 : decode cX2_wordAt 4 = .ok (.istore_n 2, 1) := by decide +kernel
theorem dX2_wordAt_5 : decode cX2_wordAt 5 = .ok (.iload_n 1, 1) := by decide +kernel
theorem dX2_wordAt_6 : decode cX2_wordAt 6 = .ok (.istore_n 3, 1) := by decide +kernel
theorem dX2_wordAt_7 : decode cX2_wordAt 7 = .ok (.iconst 0, 1) := by decide +kernel
theorem dX2_wordAt_8 : decode cX2_wordAt 8 = .ok (.istore 4, 2) := by decide +kernel
theorem dX2_wordAt_10 : decode cX2_wordAt 10 = .ok (.iload 4, 2) := by decide +kernel
theorem dX2_wordAt_12 : decode cX2_wordAt 12 = .ok (.bipush 16, 2) := by decide +kernel
theorem dX2_wordAt_14 : decode cX2_wordAt 14 = .ok (.if_icmp .ge 46, 3) := by decide +kernel
theorem dX2_wordAt_17 : decode cX2_wordAt 17 = .ok (.iload_n 3, 1) := by decide +kernel
theorem dX2_wordAt_18 : decode cX2_wordAt 18 = .ok (.iconst 3, 1) := by decide +kernel
theorem dX2_wordAt_19 : decode cX2_wordAt 19 = .ok (.iand, 1) := by decide +kernel
theorem dX2_wordAt_20 : decode cX2_wordAt 20 = .ok (.ifCond .eq 40, 3) := by decide +kernel
theorem dX2_wordAt_23 : decode cX2_wordAt 23 = .ok (.aload_n 0, 1) := by decide +kernel
theorem dX2_wordAt_24 : decode cX2_wordAt 24 = .ok (.getfield 39, 3) := by decide +kernel
theorem dX2_wordAt_27 : decode cX2_wordAt 27 = .ok (.iload_n 2, 1) := by decide +kernel
theorem dX2_wordAt_28 : decode cX2_wordAt 28 = .ok (.invokevirtual 178, 3) := by decide +kernel
theorem dX2_wordAt_31 : decode cX2_wordAt 31 = .ok (.iconst (-1), 1) := by decide +kernel
theorem dX2_wordAt_32 : decode cX2_wordAt 32 = .ok (.if_icmp .ne 6, 3) := by decide +kernel
theorem dX2_wordAt_35 : decode cX2_wordAt 35 = .ok (.bipush (-4), 2) := by decide +kernel
theorem dX2_wordAt_37 : decode cX2_wordAt 37 = .ok (.ireturn, 1) := by decide +kernel
theorem dX2_wordAt_38 : decode cX2_wordAt 38 = .ok (.aload_n 0, 1) := by decide +kernel
theorem dX2_wordAt_39 : decode cX2_wordAt 39 = .ok (.getfield 39, 3) := by decide +kernel
theorem dX2_wordAt_42 : decode cX2_wordAt 42 = .ok (.iload_n 2, 1) := by decide +kernel
theorem dX2_wordAt_43 : decode cX2_wordAt 43 = .ok (.iload_n 3, 1) := by decide +kernel
theorem dX2_wordAt_44 : decode cX2_wordAt 44 = .ok (.iconst 3, 1) := by decide +kernel
theorem dX2_wordAt_45 : decode cX2_wordAt 45 = .ok (.iand, 1) := by decide +kernel
theorem dX2_wordAt_46 : decode cX2_wordAt 46 = .ok (.invokevirtual 128, 3) := by decide +kernel
theorem dX2_wordAt_49 : decode cX2_wordAt 49 = .ok (.istore_n 2, 1) := by decide +kernel
theorem dX2_wordAt_50 : decode cX2_wordAt 50 = .ok (.iload_n 3, 1) := by decide +kernel
theorem dX2_wordAt_51 : decode cX2_wordAt 51 = .ok (.iconst 2, 1) := by decide +kernel
theorem dX2_wordAt_52 : decode cX2_wordAt 52 = .ok (.iushr, 1) := by decide +kernel
theorem dX2_wordAt_53 : decode cX2_wordAt 53 = .ok (.istore_n 3, 1) := by decide +kernel
theorem dX2_wordAt_54 : decode cX2_wordAt 54 = .ok (.iinc 4 1, 3) := by decide +kernel
theorem dX2_wordAt_57 : decode cX2_wordAt 57 = .ok (.goto (-47), 3) := by decide +kernel
theorem dX2_wordAt_60 : decode cX2_wordAt 60 = .ok (.iload_n 2, 1) := by decide +kernel
theorem dX2_wordAt_61 : decode cX2_wordAt 61 = .ok (.ireturn, 1) := by decide +kernel
theorem dX3_init_0 : decode cX3_init 0 = .ok (.aload_n 0, 1) := by decide +kernel
theorem dX3_init_1 : decode cX3_init 1 = .ok (.invokespecial 3, 3) := by decide +kernel
theorem dX3_init_4 : decode cX3_init 4 = .ok (.aload_n 0, 1) := by decide +kernel
theorem dX3_init_5 : decode cX3_init 5 = .ok (.bipush 90, 2) := by decide +kernel
theorem dX3_init_7 : decode cX3_init 7 = .ok (.newarray .char, 2) := by decide +kernel
theorem dX3_init_9 : decode cX3_init 9 = .ok (.putfield 9, 3) := by decide +kernel
theorem dX3_init_12 : decode cX3_init 12 = .ok (.aload_n 0, 1) := by decide +kernel
theorem dX3_init_13 : decode cX3_init 13 = .ok (.iconst 0, 1) := by decide +kernel
theorem dX3_init_14 : decode cX3_init 14 = .ok (.putfield 15, 3) := by decide +kernel
theorem dX3_init_17 : decode cX3_init 17 = .ok (.aload_n 0, 1) := by decide +kernel
theorem dX3_init_18 : decode cX3_init 18 = .ok (.iconst 0, 1) := by decide +kernel
theorem dX3_init_19 : decode cX3_init 19 = .ok (.putfield 19, 3) := by decide +kernel
theorem dX3_init_22 : decode cX3_init 22 = .ok (.aload_n 0, 1) := by decide +kernel
theorem dX3_init_23 : decode cX3_init 23 = .ok (.bipush 90, 2) := by decide +kernel
theorem dX3_init_25 : decode cX3_init 25 = .ok (.newarray .char, 2) := by decide +kernel
theorem dX3_init_27 : decode cX3_init 27 = .ok (.putfield 22, 3) := by decide +kernel
theorem dX3_init_30 : decode cX3_init 30 = .ok (.aload_n 0, 1) := by decide +kernel
theorem dX3_init_31 : decode cX3_init 31 = .ok (.iconst 0, 1) := by decide +kernel
theorem dX3_init_32 : decode cX3_init 32 = .ok (.putfield 25, 3) := by decide +kernel
theorem dX3_init_35 : decode cX3_init 35 = .ok (.aload_n 0, 1) := by decide +kernel
theorem dX3_init_36 : decode cX3_init 36 = .ok (.iconst (-1), 1) := by decide +kernel
theorem dX3_init_37 : decode cX3_init 37 = .ok (.putfield 28, 3) := by decide +kernel
theorem dX3_init_40 : decode cX3_init 40 = .ok (.return_, 1) := by decide +kernel
theorem dX3_read_0 : decode cX3_read 0 = .ok (.aload_n 0, 1) := by decide +kernel
theorem dX3_read_1 : decode cX3_read 1 = .ok (.aload_n 1, 1) := by decide +kernel
theorem dX3_read_2 : decode cX3_read 2 = .ok (.iload_n 2, 1) := by decide +kernel
theorem dX3_read_3 : decode cX3_read 3 = .ok (.invokevirtual 31, 3) := by decide +kernel
theorem dX3_read_6 : decode cX3_read 6 = .ok (.aload_n 0, 1) := by decide +kernel
theorem dX3_read_7 : decode cX3_read 7 = .ok (.iconst 0, 1) := by decide +kernel
theorem dX3_read_8 : decode cX3_read 8 = .ok (.putfield 19, 3) := by decide +kernel
theorem dX3_read_11 : decode cX3_read 11 = .ok (.aload_n 0, 1) := by decide +kernel
theorem dX3_read_12 : decode cX3_read 12 = .ok (.iconst 0, 1) := by decide +kernel
theorem dX3_read_13 : decode cX3_read 13 = .ok (.putfield 25, 3) := by decide +kernel
theorem dX3_read_16 : decode cX3_read 16 = .ok (.aload_n 0, 1) := by decide +kernel
theorem dX3_read_17 : decode cX3_read 17 = .ok (.iconst (-1), 1) := by decide +kernel
theorem dX3_read_18 : decode cX3_read 18 = .ok (.putfield 28, 3) := by decide +kernel
theorem dX3_read_21 : decode cX3_read 21 = .ok (.aload_n 0, 1) := by decide +kernel
theorem dX3_read_22 : decode cX3_read 22 = .ok (.iconst 0, 1) := by decide +kernel
theorem dX3_read_23 : decode cX3_read 23 = .ok (.invokevirtual 35, 3) := by decide +kernel
theorem dX3_read_26 : decode cX3_read 26 = .ok (.astore_n 3, 1) := by decide +kernel
theorem dX3_read_27 : decode cX3_read 27 = .ok (.aload_n 0, 1) := by decide +kernel
theorem dX3_read_28 : decode cX3_read 28 = .ok (.getfield 19, 3) := by decide +kernel
theorem dX3_read_31 : decode cX3_read 31 = .ok (.aload_n 0, 1) := by decide +kernel
theorem dX3_read_32 : decode cX3_read 32 = .ok (.getfield 15, 3) := by decide +kernel
theorem dX3_read_35 : decode cX3_read 35 = .ok (.if_icmp .ge 7, 3) := by decide +kernel
theorem dX3_read_38 : decode cX3_read 38 = .ok (.aload_n 0, 1) := by decide +kernel
theorem dX3_read_39 : decode cX3_read 39 = .ok (.invokevirtual 39, 3) := by decide +kernel
theorem dX3_read_42 : decode cX3_read 42 = .ok (.aload_n 3, 1) := by decide +kernel
theorem dX3_read_43 : decode cX3_read 43 = .ok (.iconst 0, 1) := by decide +kernel
theorem dX3_read_44 : decode cX3_read 44 = .ok (.iconst 0, 1) := by decide +kernel
theorem dX3_read_45 : decode cX3_read 45 = .ok (.invokevirtual 42, 3) := by decide +kernel
theorem dX3_read_48 : decode cX3_read 48 = .ok (.aload_n 3, 1) := by decide +kernel
theorem dX3_read_49 : decode cX3_read 49 = .ok (.areturn, 1) := by decide +kernel
theorem dX3_refuse_0 : decode cX3_refuse 0 = .ok (.aload_n 0, 1) := by decide +kernel
theorem dX3_refuse_1 : decode cX3_refuse 1 = .ok (.aload_n 0, 1) := by decide +kernel
theorem dX3_refuse_2 : decode cX3_refuse 2 = .ok (.getfield 19, 3) := by decide +kernel
theorem dX3_refuse_5 : decode cX3_refuse 5 = .ok (.putfield 28, 3) := by decide +kernel
theorem dX3_refuse_8 : decode cX3_refuse 8 = .ok (.new 48, 3) := by decide +kernel
theorem dX3_refuse_11 : decode cX3_refuse 11 = .ok (.dup, 1) := by decide +kernel
theorem dX3_refuse_12 : decode cX3_refuse 12 = .ok (.ldc 50, 2) := by decide +kernel
theorem dX3_refuse_14 : decode cX3_refuse 14 = .ok (.invokespecial 52, 3) := by decide +kernel
theorem dX3_refuse_17 : decode cX3_refuse 17 = .ok (.athrow, 1) := by decide +kernel
theorem dX3_leaveOutBlanks_0 : decode cX3_leaveOutBlanks 0 = .ok (.aload_n 0, 1) := by decide +kernel
theorem dX3_leaveOutBlanks_1 : decode cX3_leaveOutBlanks 1 = .ok (.iconst 0, 1) := by decide +kernel
theorem dX3_leaveOutBlanks_2 : decode cX3_leaveOutBlanks 2 = .ok (.putfield 15, 3) := by decide +kernel
theorem dX3_leaveOutBlanks_5 : decode cX3_leaveOutBlanks 5 = .ok (.iconst 0, 1) := by decide +kernel
theorem dX3_leaveOutBlanks_6 : decode cX3_leaveOutBlanks 6 = .ok (.istore_n 3, 1) := by decide +kernel
theorem dX3_leaveOutBlanks_7 : decode cX3_leaveOutBlanks 7 = .ok (.iload_n 3, 1) := by decide +kernel
theorem dX3_leaveOutBlanks_8 : decode cX3_leaveOutBlanks 8 = .ok (.iload_n 2, 1) := by decide +kernel
theorem dX3_leaveOutBlanks_9 : decode cX3_leaveOutBlanks 9 = .ok (.if_icmp .ge 57, 3) := by decide +kernel
theorem dX3_leaveOutBlanks_12 : decode cX3_leaveOutBlanks 12 = .ok (.iload_n 3, 1) := by decide +kernel
theorem dX3_leaveOutBlanks_13 : decode cX3_leaveOutBlanks 13 = .ok (.aload_n 1, 1) := by decide +kernel
theorem dX3_leaveOutBlanks_14 : decode cX3_leaveOutBlanks 14 = .ok (.arraylength, 1) := by decide +kernel
theorem dX3_leaveOutBlanks_15 : decode cX3_leaveOutBlanks 15 = .ok (.if_icmp .ge 51, 3) := by decide +kernel
theorem dX3_leaveOutBlanks_18 : decode cX3_leaveOutBlanks 18 = .ok (.aload_n 1, 1) := by decide +kernel
theorem dX3_leaveOutBlanks_19 : decode cX3_leaveOutBlanks 19 = .ok (.iload_n 3, 1) := by decide +kernel
theorem dX3_leaveOutBlanks_20 : decode cX3_leaveOutBlanks 20 = .ok (.caload, 1) := by decide +kernel
theorem dX3_leaveOutBlanks_21 : decode cX3_leaveOutBlanks 21 = .ok (.bipush 32, 2) := by decide +kernel
theorem dX3_leaveOutBlanks_23 : decode cX3_leaveOutBlanks 23 = .ok (.if_icmp .eq 37, 3) := by decide +kernel
theorem dX3_leaveOutBlanks_26 : decode cX3_leaveOutBlanks 26 = .ok (.aload_n 0, 1) := by decide +kernel
theorem dX3_leaveOutBlanks_27 : decode cX3_leaveOutBlanks 27 = .ok (.getfield 15, 3) := by decide +kernel
theorem dX3_leaveOutBlanks_30 : decode cX3_leaveOutBlanks 30 = .ok (.aload_n 0, 1) := by decide +kernel
theorem dX3_leaveOutBlanks_31 : decode cX3_leaveOutBlanks 31 = .ok (.getfield 9, 3) := by decide +kernel
theorem dX3_leaveOutBlanks_34 : decode cX3_leaveOutBlanks 34 = .ok (.arraylength, 1) := by decide +kernel
theorem dX3_leaveOutBlanks_35 : decode cX3_leaveOutBlanks 35 = .ok (.if_icmp .ge 25, 3) := by decide +kernel
theorem dX3_leaveOutBlanks_38 : decode cX3_leaveOutBlanks 38 = .ok (.aload_n 0, 1) := by decide +kernel
theorem dX3_leaveOutBlanks_39 : decode cX3_leaveOutBlanks 39 = .ok (.getfield 9, 3) := by decide +kernel
theorem dX3_leaveOutBlanks_42 : decode cX3_leaveOutBlanks 42 = .ok (.aload_n 0, 1) := by decide +kernel
theorem dX3_leaveOutBlanks_43 : decode cX3_leaveOutBlanks 43 = .ok (.getfield 15, 3) := by decide +kernel
theorem dX3_leaveOutBlanks_46 : decode cX3_leaveOutBlanks 46 = .ok (.aload_n 1, 1) := by decide +kernel
theorem dX3_leaveOutBlanks_47 : decode cX3_leaveOutBlanks 47 = .ok (.iload_n 3, 1) := by decide +kernel
theorem dX3_leaveOutBlanks_48 : decode cX3_leaveOutBlanks 48 = .ok (.caload, 1) := by decide +kernel
theorem dX3_leaveOutBlanks_49 : decode cX3_leaveOutBlanks 49 = .ok (.castore, 1) := by decide +kernel
theorem dX3_leaveOutBlanks_50 : decode cX3_leaveOutBlanks 50 = .ok (.aload_n 0, 1) := by decide +kernel
theorem dX3_leaveOutBlanks_51 : decode cX3_leaveOutBlanks 51 = .ok (.dup, 1) := by decide +kernel
theorem dX3_leaveOutBlanks_52 : decode cX3_leaveOutBlanks 52 = .ok (.getfield 15, 3) := by decide +kernel
theorem dX3_leaveOutBlanks_55 : decode cX3_leaveOutBlanks 55 = .ok (.iconst 1, 1) := by decide +kernel
theorem dX3_leaveOutBlanks_56 : decode cX3_leaveOutBlanks 56 = .ok (.iadd, 1) := by decide +kernel
theorem dX3_leaveOutBlanks_57 : decode cX3_leaveOutBlanks 57 = .ok (.putfield 15, 3) := by decide +kernel
theorem dX3_leaveOutBlanks_60 : decode cX3_leaveOutBlanks 60 = .ok (.iinc 3 1, 3) := by decide +kernel
theorem dX3_leaveOutBlanks_63 : decode cX3_leaveOutBlanks 63 = .ok (.goto (-56), 3) := by decide +kernel
theorem dX3_leaveOutBlanks_66 : decode cX3_leaveOutBlanks 66 = .ok (.return_, 1) := by decide +kernel
theorem dX3_expression_0 : decode cX3_expression 0 = .ok (.iload_n 1, 1) := by decide +kernel
theorem dX3_expression_1 : decode cX3_expression 1 = .ok (.iconst 5, 1) := by decide +kernel
theorem dX3_expression_2 : decode cX3_expression 2 = .ok (.if_icmp .le 7, 3) := by decide +kernel
theorem dX3_expression_5 : decode cX3_expression 5 = .ok (.aload_n 0, 1) := by decide +kernel
theorem dX3_expression_6 : decode cX3_expression 6 = .ok (.invokevirtual 39, 3) := by decide +kernel
theorem dX3_expression_9 : decode cX3_expression 9 = .ok (.aload_n 0, 1) := by decide +kernel
theorem dX3_expression_10 : decode cX3_expression 10 = .ok (.getfield 25, 3) := by decide +kernel
theorem dX3_expression_13 : decode cX3_expression 13 = .ok (.istore_n 2, 1) := by decide +kernel
theorem dX3_expression_14 : decode cX3_expression 14 = .ok (.new 43, 3) := by decide +kernel
theorem dX3_expression_17 : decode cX3_expression 17 = .ok (.dup, 1) := by decide +kernel
theorem dX3_expression_18 : decode cX3_expression 18 = .ok (.invokespecial 55, 3) := by decide +kernel
theorem dX3_expression_21 : decode cX3_expression 21 = .ok (.astore_n 3, 1) := by decide +kernel
theorem dX3_expression_22 : decode cX3_expression 22 = .ok (.new 43, 3) := by decide +kernel
theorem dX3_expression_25 : decode cX3_expression 25 = .ok (.dup, 1) := by decide +kernel
theorem dX3_expression_26 : decode cX3_expression 26 = .ok (.invokespecial 55, 3) := by decide +kernel
theorem dX3_expression_29 : decode cX3_expression 29 = .ok (.astore 4, 2) := by decide +kernel
theorem dX3_expression_31 : decode cX3_expression 31 = .ok (.iconst 0, 1) := by decide +kernel
theorem dX3_expression_32 : decode cX3_expression 32 = .ok (.istore 5, 2) := by decide +kernel
theorem dX3_expression_34 : decode cX3_expression 34 = .ok (.iload 5, 2) := by decide +kernel
theorem dX3_expression_36 : decode cX3_expression 36 = .ok (.aload_n 0, 1) := by decide +kernel
theorem dX3_expression_37 : decode cX3_expression 37 = .ok (.getfield 15, 3) := by decide +kernel
theorem dX3_expression_40 : decode cX3_expression 40 = .ok (.if_icmp .ge 24, 3) := by decide +kernel
theorem dX3_expression_43 : decode cX3_expression 43 = .ok (.aload_n 0, 1) := by decide +kernel
theorem dX3_expression_44 : decode cX3_expression 44 = .ok (.invokevirtual 56, 3) := by decide +kernel
theorem dX3_expression_47 : decode cX3_expression 47 = .ok (.ifCond .eq 17, 3) := by decide +kernel
theorem dX3_expression_50 : decode cX3_expression 50 = .ok (.aload_n 0, 1) := by decide +kernel
theorem dX3_expression_51 : decode cX3_expression 51 = .ok (.aload_n 3, 1) := by decide +kernel
theorem dX3_expression_52 : decode cX3_expression 52 = .ok (.aload 4, 2) := by decide +kernel
theorem dX3_expression_54 : decode cX3_expression 54 = .ok (.iload_n 1, 1) := by decide +kernel
theorem dX3_expression_55 : decode cX3_expression 55 = .ok (.invokevirtual 60, 3) := by decide +kernel
theorem dX3_expression_58 : decode cX3_expression 58 = .ok (.iinc 5 1, 3) := by decide +kernel
theorem dX3_expression_61 : decode cX3_expression 61 = .ok (.goto (-27), 3) := by decide +kernel
theorem dX3_expression_64 : decode cX3_expression 64 = .ok (.aload_n 3, 1) := by decide +kernel
theorem dX3_expression_65 : decode cX3_expression 65 = .ok (.aload_n 0, 1) := by decide +kernel
theorem dX3_expression_66 : decode cX3_expression 66 = .ok (.invokevirtual 64, 3) := by decide +kernel
theorem dX3_expression_69 : decode cX3_expression 69 = .ok (.bipush 63, 2) := by decide +kernel
theorem dX3_expression_71 : decode cX3_expression 71 = .ok (.if_icmp .ne 11, 3) := by decide +kernel
theorem dX3_expression_74 : decode cX3_expression 74 = .ok (.aload_n 0, 1) := by decide +kernel
theorem dX3_expression_75 : decode cX3_expression 75 = .ok (.iload_n 1, 1) := by decide +kernel
theorem dX3_expression_76 : decode cX3_expression 76 = .ok (.invokevirtual 68, 3) := by decide +kernel
theorem dX3_expression_79 : decode cX3_expression 79 = .ok (.goto 8, 3) := by decide +kernel
theorem dX3_expression_82 : decode cX3_expression 82 = .ok (.aload_n 0, 1) := by decide +kernel
theorem dX3_expression_83 : decode cX3_expression 83 = .ok (.iload_n 1, 1) := by decide +kernel
theorem dX3_expression_84 : decode cX3_expression 84 = .ok (.invokevirtual 71, 3) := by decide +kernel
theorem dX3_expression_87 : decode cX3_expression 87 = .ok (.invokevirtual 74, 3) := by decide +kernel
theorem dX3_expression_90 : decode cX3_expression 90 = .ok (.aload_n 3, 1) := by decide +kernel
theorem dX3_expression_91 : decode cX3_expression 91 = .ok (.aload 4, 2) := by decide +kernel
theorem dX3_expression_93 : decode cX3_expression 93 = .ok (.invokevirtual 74, 3) := by decide +kernel
theorem dX3_expression_96 : decode cX3_expression 96 = .ok (.aload_n 0, 1) := by decide +kernel
theorem dX3_expression_97 : decode cX3_expression 97 = .ok (.iload_n 2, 1) := by decide +kernel
theorem dX3_expression_98 : decode cX3_expression 98 = .ok (.putfield 25, 3) := by decide +kernel
theorem dX3_expression_101 : decode cX3_expression 101 = .ok (.aload_n 3, 1) := by decide +kernel
theorem dX3_expression_102 : decode cX3_expression 102 = .ok (.areturn, 1) := by decide +kernel
theorem dX3_beginsHead_0 : decode cX3_beginsHead 0 = .ok (.aload_n 0, 1) := by decide +kernel
theorem dX3_beginsHead_1 : decode cX3_beginsHead 1 = .ok (.invokevirtual 64, 3) := by decide +kernel
theorem dX3_beginsHead_4 : decode cX3_beginsHead 4 = .ok (.istore_n 1, 1) := by decide +kernel
theorem dX3_beginsHead_5 : decode cX3_beginsHead 5 = .ok (.iload_n 1, 1) := by decide +kernel
theorem dX3_beginsHead_6 : decode cX3_beginsHead 6 = .ok (.bipush 92, 2) := by decide +kernel
theorem dX3_beginsHead_8 : decode cX3_beginsHead 8 = .ok (.if_icmp .eq 31, 3) := by decide +kernel
theorem dX3_beginsHead_11 : decode cX3_beginsHead 11 = .ok (.iload_n 1, 1) := by decide +kernel
theorem dX3_beginsHead_12 : decode cX3_beginsHead 12 = .ok (.bipush 64, 2) := by decide +kernel
theorem dX3_beginsHead_14 : decode cX3_beginsHead 14 = .ok (.if_icmp .eq 25, 3) := by decide +kernel
theorem dX3_beginsHead_17 : decode cX3_beginsHead 17 = .ok (.iload_n 1, 1) := by decide +kernel
theorem dX3_beginsHead_18 : decode cX3_beginsHead 18 = .ok (.invokestatic 78, 3) := by decide +kernel
theorem dX3_beginsHead_21 : decode cX3_beginsHead 21 = .ok (.ifCond .eq 22, 3) := by decide +kernel
theorem dX3_beginsHead_24 : decode cX3_beginsHead 24 = .ok (.aload_n 0, 1) := by decide +kernel
theorem dX3_beginsHead_25 : decode cX3_beginsHead 25 = .ok (.aload_n 0, 1) := by decide +kernel
theorem dX3_beginsHead_26 : decode cX3_beginsHead 26 = .ok (.getfield 19, 3) := by decide +kernel
theorem dX3_beginsHead_29 : decode cX3_beginsHead 29 = .ok (.iconst 1, 1) := by decide +kernel
theorem dX3_beginsHead_30 : decode cX3_beginsHead 30 = .ok (.iadd, 1) := by decide +kernel
theorem dX3_beginsHead_31 : decode cX3_beginsHead 31 = .ok (.invokevirtual 82, 3) := by decide +kernel
theorem dX3_beginsHead_34 : decode cX3_beginsHead 34 = .ok (.bipush 61, 2) := by decide +kernel
theorem dX3_beginsHead_36 : decode cX3_beginsHead 36 = .ok (.if_icmp .ne 7, 3) := by decide +kernel
theorem dX3_beginsHead_39 : decode cX3_beginsHead 39 = .ok (.iconst 1, 1) := by decide +kernel
theorem dX3_beginsHead_40 : decode cX3_beginsHead 40 = .ok (.goto 4, 3) := by decide +kernel
theorem dX3_beginsHead_43 : decode cX3_beginsHead 43 = .ok (.iconst 0, 1) := by decide +kernel
theorem dX3_beginsHead_44 : decode cX3_beginsHead 44 = .ok (.ireturn, 1) := by decide +kernel
theorem dX3_head_0 : decode cX3_head 0 = .ok (.aload_n 0, 1) := by decide +kernel
theorem dX3_head_1 : decode cX3_head 1 = .ok (.invokevirtual 64, 3) := by decide +kernel
theorem dX3_head_4 : decode cX3_head 4 = .ok (.istore 4, 2) := by decide +kernel
theorem dX3_head_6 : decode cX3_head 6 = .ok (.iload 4, 2) := by decide +kernel
theorem dX3_head_8 : decode cX3_head 8 = .ok (.bipush 92, 2) := by decide +kernel
theorem dX3_head_10 : decode cX3_head 10 = .ok (.if_icmp .ne 12, 3) := by decide +kernel
theorem dX3_head_13 : decode cX3_head 13 = .ok (.aload_n 0, 1) := by decide +kernel
theorem dX3_head_14 : decode cX3_head 14 = .ok (.aload_n 1, 1) := by decide +kernel
theorem dX3_head_15 : decode cX3_head 15 = .ok (.aload_n 2, 1) := by decide +kernel
theorem dX3_head_16 : decode cX3_head 16 = .ok (.invokevirtual 86, 3) := by decide +kernel
theorem dX3_head_19 : decode cX3_head 19 = .ok (.goto 27, 3) := by decide +kernel
theorem dX3_head_22 : decode cX3_head 22 = .ok (.iload 4, 2) := by decide +kernel
theorem dX3_head_24 : decode cX3_head 24 = .ok (.bipush 64, 2) := by decide +kernel
theorem dX3_head_26 : decode cX3_head 26 = .ok (.if_icmp .ne 13, 3) := by decide +kernel
theorem dX3_head_29 : decode cX3_head 29 = .ok (.aload_n 0, 1) := by decide +kernel
theorem dX3_head_30 : decode cX3_head 30 = .ok (.aload_n 1, 1) := by decide +kernel
theorem dX3_head_31 : decode cX3_head 31 = .ok (.aload_n 2, 1) := by decide +kernel
theorem dX3_head_32 : decode cX3_head 32 = .ok (.iload_n 3, 1) := by decide +kernel
theorem dX3_head_33 : decode cX3_head 33 = .ok (.invokevirtual 90, 3) := by decide +kernel
theorem dX3_head_36 : decode cX3_head 36 = .ok (.goto 10, 3) := by decide +kernel
theorem dX3_head_39 : decode cX3_head 39 = .ok (.aload_n 0, 1) := by decide +kernel
theorem dX3_head_40 : decode cX3_head 40 = .ok (.aload_n 1, 1) := by decide +kernel
theorem dX3_head_41 : decode cX3_head 41 = .ok (.aload_n 2, 1) := by decide +kernel
theorem dX3_head_42 : decode cX3_head 42 = .ok (.iload_n 3, 1) := by decide +kernel
theorem dX3_head_43 : decode cX3_head 43 = .ok (.invokevirtual 93, 3) := by decide +kernel
theorem dX3_head_46 : decode cX3_head 46 = .ok (.return_, 1) := by decide +kernel
theorem dX3_function_0 : decode cX3_function 0 = .ok (.aload_n 0, 1) := by decide +kernel
theorem dX3_function_1 : decode cX3_function 1 = .ok (.dup, 1) := by decide +kernel
theorem dX3_function_2 : decode cX3_function 2 = .ok (.getfield 19, 3) := by decide +kernel
theorem dX3_function_5 : decode cX3_function 5 = .ok (.iconst 1, 1) := by decide +kernel
theorem dX3_function_6 : decode cX3_function 6 = .ok (.iadd, 1) := by decide +kernel
theorem dX3_function_7 : decode cX3_function 7 = .ok (.putfield 19, 3) := by decide +kernel
theorem dX3_function_10 : decode cX3_function 10 = .ok (.aload_n 0, 1) := by decide +kernel
theorem dX3_function_11 : decode cX3_function 11 = .ok (.aload_n 0, 1) := by decide +kernel
theorem dX3_function_12 : decode cX3_function 12 = .ok (.invokevirtual 96, 3) := by decide +kernel
theorem dX3_function_15 : decode cX3_function 15 = .ok (.invokevirtual 99, 3) := by decide +kernel
theorem dX3_function_18 : decode cX3_function 18 = .ok (.invokestatic 103, 3) := by decide +kernel
theorem dX3_function_21 : decode cX3_function 21 = .ok (.astore_n 3, 1) := by decide +kernel
theorem dX3_function_22 : decode cX3_function 22 = .ok (.aload_n 0, 1) := by decide +kernel
theorem dX3_function_23 : decode cX3_function 23 = .ok (.aload_n 1, 1) := by decide +kernel
theorem dX3_function_24 : decode cX3_function 24 = .ok (.bipush 9, 2) := by decide +kernel
theorem dX3_function_26 : decode cX3_function 26 = .ok (.aload_n 3, 1) := by decide +kernel
theorem dX3_function_27 : decode cX3_function 27 = .ok (.invokevirtual 107, 3) := by decide +kernel
theorem dX3_function_30 : decode cX3_function 30 = .ok (.aload_n 2, 1) := by decide +kernel
theorem dX3_function_31 : decode cX3_function 31 = .ok (.aload_n 3, 1) := by decide +kernel
theorem dX3_function_32 : decode cX3_function 32 = .ok (.invokevirtual 111, 3) := by decide +kernel
theorem dX3_function_35 : decode cX3_function 35 = .ok (.aload_n 2, 1) := by decide +kernel
theorem dX3_function_36 : decode cX3_function 36 = .ok (.new 115, 3) := by decide +kernel
theorem dX3_function_39 : decode cX3_function 39 = .ok (.dup, 1) := by decide +kernel
theorem dX3_function_40 : decode cX3_function 40 = .ok (.bipush 12, 2) := by decide +kernel
theorem dX3_function_42 : decode cX3_function 42 = .ok (.iconst 0, 1) := by decide +kernel
theorem dX3_function_43 : decode cX3_function 43 = .ok (.aconst_null, 1) := by decide +kernel
theorem dX3_function_44 : decode cX3_function 44 = .ok (.invokespecial 117, 3) := by decide +kernel
theorem dX3_function_47 : decode cX3_function 47 = .ok (.invokevirtual 111, 3) := by decide +kernel
theorem dX3_function_50 : decode cX3_function 50 = .ok (.return_, 1) := by decide +kernel
theorem dX3_boundFunction_0 : decode cX3_boundFunction 0 = .ok (.aload_n 0, 1) := by decide +kernel
theorem dX3_boundFunction_1 : decode cX3_boundFunction 1 = .ok (.dup, 1) := by decide +kernel
theorem dX3_boundFunction_2 : decode cX3_boundFunction 2 = .ok (.getfield 19, 3) := by decide +kernel
theorem dX3_boundFunction_5 : decode cX3_boundFunction 5 = .ok (.iconst 1, 1) := by decide +kernel
theorem dX3_boundFunction_6 : decode cX3_boundFunction 6 = .ok (.iadd, 1) := by decide +kernel
theorem dX3_boundFunction_7 : decode cX3_boundFunction 7 = .ok (.putfield 19, 3) := by decide +kernel
theorem dX3_boundFunction_10 : decode cX3_boundFunction 10 = .ok (.aload_n 0, 1) := by decide +kernel
theorem dX3_boundFunction_11 : decode cX3_boundFunction 11 = .ok (.invokevirtual 96, 3) := by decide +kernel
theorem dX3_boundFunction_14 : decode cX3_boundFunction 14 = .ok (.istore 4, 2) := by decide +kernel
theorem dX3_boundFunction_16 : decode cX3_boundFunction 16 = .ok (.aload_n 0, 1) := by decide +kernel
theorem dX3_boundFunction_17 : decode cX3_boundFunction 17 = .ok (.invokevirtual 64, 3) := by decide +kernel
theorem dX3_boundFunction_20 : decode cX3_boundFunction 20 = .ok (.iload 4, 2) := by decide +kernel
theorem dX3_boundFunction_22 : decode cX3_boundFunction 22 = .ok (.if_icmp .ne 7, 3) := by decide +kernel
theorem dX3_boundFunction_25 : decode cX3_boundFunction 25 = .ok (.aload_n 0, 1) := by decide +kernel
theorem dX3_boundFunction_26 : decode cX3_boundFunction 26 = .ok (.invokevirtual 39, 3) := by decide +kernel
theorem dX3_boundFunction_29 : decode cX3_boundFunction 29 = .ok (.aload_n 0, 1) := by decide +kernel
theorem dX3_boundFunction_30 : decode cX3_boundFunction 30 = .ok (.invokevirtual 96, 3) := by decide +kernel
theorem dX3_boundFunction_33 : decode cX3_boundFunction 33 = .ok (.istore 5, 2) := by decide +kernel
theorem dX3_boundFunction_35 : decode cX3_boundFunction 35 = .ok (.aload_n 0, 1) := by decide +kernel
theorem dX3_boundFunction_36 : decode cX3_boundFunction 36 = .ok (.bipush 61, 2) := by decide +kernel
theorem dX3_boundFunction_38 : decode cX3_boundFunction 38 = .ok (.invokevirtual 120, 3) := by decide +kernel
theorem dX3_boundFunction_41 : decode cX3_boundFunction 41 = .ok (.aload_n 0, 1) := by decide +kernel
theorem dX3_boundFunction_42 : decode cX3_boundFunction 42 = .ok (.iload 4, 2) := by decide +kernel
theorem dX3_boundFunction_44 : decode cX3_boundFunction 44 = .ok (.invokevirtual 99, 3) := by decide +kernel
theorem dX3_boundFunction_47 : decode cX3_boundFunction 47 = .ok (.aload_n 0, 1) := by decide +kernel
theorem dX3_boundFunction_48 : decode cX3_boundFunction 48 = .ok (.iload 5, 2) := by decide +kernel
theorem dX3_boundFunction_50 : decode cX3_boundFunction 50 = .ok (.invokevirtual 99, 3) := by decide +kernel
theorem dX3_boundFunction_53 : decode cX3_boundFunction 53 = .ok (.invokestatic 103, 3) := by decide +kernel
theorem dX3_boundFunction_56 : decode cX3_boundFunction 56 = .ok (.astore 6, 2) := by decide +kernel
theorem dX3_boundFunction_58 : decode cX3_boundFunction 58 = .ok (.aload_n 0, 1) := by decide +kernel
theorem dX3_boundFunction_59 : decode cX3_boundFunction 59 = .ok (.aload_n 1, 1) := by decide +kernel
theorem dX3_boundFunction_60 : decode cX3_boundFunction 60 = .ok (.bipush 10, 2) := by decide +kernel
theorem dX3_boundFunction_62 : decode cX3_boundFunction 62 = .ok (.aload 6, 2) := by decide +kernel
theorem dX3_boundFunction_64 : decode cX3_boundFunction 64 = .ok (.invokevirtual 107, 3) := by decide +kernel
theorem dX3_boundFunction_67 : decode cX3_boundFunction 67 = .ok (.aload_n 1, 1) := by decide +kernel
theorem dX3_boundFunction_68 : decode cX3_boundFunction 68 = .ok (.aload_n 0, 1) := by decide +kernel
theorem dX3_boundFunction_69 : decode cX3_boundFunction 69 = .ok (.iload_n 3, 1) := by decide +kernel
theorem dX3_boundFunction_70 : decode cX3_boundFunction 70 = .ok (.iconst 1, 1) := by decide +kernel
theorem dX3_boundFunction_71 : decode cX3_boundFunction 71 = .ok (.iadd, 1) := by decide +kernel
theorem dX3_boundFunction_72 : decode cX3_boundFunction 72 = .ok (.invokevirtual 35, 3) := by decide +kernel
theorem dX3_boundFunction_75 : decode cX3_boundFunction 75 = .ok (.invokevirtual 74, 3) := by decide +kernel
theorem dX3_boundFunction_78 : decode cX3_boundFunction 78 = .ok (.aload_n 1, 1) := by decide +kernel
theorem dX3_boundFunction_79 : decode cX3_boundFunction 79 = .ok (.bipush 12, 2) := by decide +kernel
theorem dX3_boundFunction_81 : decode cX3_boundFunction 81 = .ok (.iconst 0, 1) := by decide +kernel
theorem dX3_boundFunction_82 : decode cX3_boundFunction 82 = .ok (.invokevirtual 42, 3) := by decide +kernel
theorem dX3_boundFunction_85 : decode cX3_boundFunction 85 = .ok (.aload_n 1, 1) := by decide +kernel
theorem dX3_boundFunction_86 : decode cX3_boundFunction 86 = .ok (.aload 6, 2) := by decide +kernel
theorem dX3_boundFunction_88 : decode cX3_boundFunction 88 = .ok (.invokevirtual 123, 3) := by decide +kernel
theorem dX3_boundFunction_91 : decode cX3_boundFunction 91 = .ok (.aload_n 0, 1) := by decide +kernel
theorem dX3_boundFunction_92 : decode cX3_boundFunction 92 = .ok (.bipush 59, 2) := by decide +kernel
theorem dX3_boundFunction_94 : decode cX3_boundFunction 94 = .ok (.invokevirtual 120, 3) := by decide +kernel
theorem dX3_boundFunction_97 : decode cX3_boundFunction 97 = .ok (.aload_n 0, 1) := by decide +kernel
theorem dX3_boundFunction_98 : decode cX3_boundFunction 98 = .ok (.dup, 1) := by decide +kernel
theorem dX3_boundFunction_99 : decode cX3_boundFunction 99 = .ok (.getfield 25, 3) := by decide +kernel
theorem dX3_boundFunction_102 : decode cX3_boundFunction 102 = .ok (.iconst 1, 1) := by decide +kernel
theorem dX3_boundFunction_103 : decode cX3_boundFunction 103 = .ok (.isub, 1) := by decide +kernel
theorem dX3_boundFunction_104 : decode cX3_boundFunction 104 = .ok (.putfield 25, 3) := by decide +kernel
theorem dX3_boundFunction_107 : decode cX3_boundFunction 107 = .ok (.aload_n 1, 1) := by decide +kernel
theorem dX3_boundFunction_108 : decode cX3_boundFunction 108 = .ok (.bipush 14, 2) := by decide +kernel
theorem dX3_boundFunction_110 : decode cX3_boundFunction 110 = .ok (.iconst 0, 1) := by decide +kernel
theorem dX3_boundFunction_111 : decode cX3_boundFunction 111 = .ok (.invokevirtual 42, 3) := by decide +kernel
theorem dX3_boundFunction_114 : decode cX3_boundFunction 114 = .ok (.aload_n 2, 1) := by decide +kernel
theorem dX3_boundFunction_115 : decode cX3_boundFunction 115 = .ok (.new 115, 3) := by decide +kernel
theorem dX3_boundFunction_118 : decode cX3_boundFunction 118 = .ok (.dup, 1) := by decide +kernel
theorem dX3_boundFunction_119 : decode cX3_boundFunction 119 = .ok (.bipush 15, 2) := by decide +kernel
theorem dX3_boundFunction_121 : decode cX3_boundFunction 121 = .ok (.iconst 1, 1) := by decide +kernel
theorem dX3_boundFunction_122 : decode cX3_boundFunction 122 = .ok (.aconst_null, 1) := by decide +kernel
theorem dX3_boundFunction_123 : decode cX3_boundFunction 123 = .ok (.invokespecial 117, 3) := by decide +kernel
theorem dX3_boundFunction_126 : decode cX3_boundFunction 126 = .ok (.invokevirtual 111, 3) := by decide +kernel
theorem dX3_boundFunction_129 : decode cX3_boundFunction 129 = .ok (.return_, 1) := by decide +kernel
theorem dX3_boundValue_0 : decode cX3_boundValue 0 = .ok (.aload_n 0, 1) := by decide +kernel
theorem dX3_boundValue_1 : decode cX3_boundValue 1 = .ok (.invokevirtual 96, 3) := by decide +kernel
theorem dX3_boundValue_4 : decode cX3_boundValue 4 = .ok (.istore 4, 2) := by decide +kernel
theorem dX3_boundValue_6 : decode cX3_boundValue 6 = .ok (.aload_n 0, 1) := by decide +kernel
theorem dX3_boundValue_7 : decode cX3_boundValue 7 = .ok (.bipush 61, 2) := by decide +kernel
theorem dX3_boundValue_9 : decode cX3_boundValue 9 = .ok (.invokevirtual 120, 3) := by decide +kernel
theorem dX3_boundValue_12 : decode cX3_boundValue 12 = .ok (.aload_n 1, 1) := by decide +kernel
theorem dX3_boundValue_13 : decode cX3_boundValue 13 = .ok (.aload_n 0, 1) := by decide +kernel
theorem dX3_boundValue_14 : decode cX3_boundValue 14 = .ok (.iload_n 3, 1) := by decide +kernel
theorem dX3_boundValue_15 : decode cX3_boundValue 15 = .ok (.iconst 1, 1) := by decide +kernel
theorem dX3_boundValue_16 : decode cX3_boundValue 16 = .ok (.iadd, 1) := by decide +kernel
theorem dX3_boundValue_17 : decode cX3_boundValue 17 = .ok (.invokevirtual 35, 3) := by decide +kernel
theorem dX3_boundValue_20 : decode cX3_boundValue 20 = .ok (.invokevirtual 74, 3) := by decide +kernel
theorem dX3_boundValue_23 : decode cX3_boundValue 23 = .ok (.aload_n 0, 1) := by decide +kernel
theorem dX3_boundValue_24 : decode cX3_boundValue 24 = .ok (.bipush 59, 2) := by decide +kernel
theorem dX3_boundValue_26 : decode cX3_boundValue 26 = .ok (.invokevirtual 120, 3) := by decide +kernel
theorem dX3_boundValue_29 : decode cX3_boundValue 29 = .ok (.aload_n 0, 1) := by decide +kernel
theorem dX3_boundValue_30 : decode cX3_boundValue 30 = .ok (.iload 4, 2) := by decide +kernel
theorem dX3_boundValue_32 : decode cX3_boundValue 32 = .ok (.invokevirtual 99, 3) := by decide +kernel
theorem dX3_boundValue_35 : decode cX3_boundValue 35 = .ok (.aload_n 1, 1) := by decide +kernel
theorem dX3_boundValue_36 : decode cX3_boundValue 36 = .ok (.bipush 14, 2) := by decide +kernel
theorem dX3_boundValue_38 : decode cX3_boundValue 38 = .ok (.iconst 0, 1) := by decide +kernel
theorem dX3_boundValue_39 : decode cX3_boundValue 39 = .ok (.invokevirtual 42, 3) := by decide +kernel
theorem dX3_boundValue_42 : decode cX3_boundValue 42 = .ok (.aload_n 2, 1) := by decide +kernel
theorem dX3_boundValue_43 : decode cX3_boundValue 43 = .ok (.new 115, 3) := by decide +kernel
theorem dX3_boundValue_46 : decode cX3_boundValue 46 = .ok (.dup, 1) := by decide +kernel
theorem dX3_boundValue_47 : decode cX3_boundValue 47 = .ok (.bipush 15, 2) := by decide +kernel
theorem dX3_boundValue_49 : decode cX3_boundValue 49 = .ok (.iconst 1, 1) := by decide +kernel
theorem dX3_boundValue_50 : decode cX3_boundValue 50 = .ok (.aconst_null, 1) := by decide +kernel
theorem dX3_boundValue_51 : decode cX3_boundValue 51 = .ok (.invokespecial 117, 3) := by decide +kernel
theorem dX3_boundValue_54 : decode cX3_boundValue 54 = .ok (.invokevirtual 111, 3) := by decide +kernel
theorem dX3_boundValue_57 : decode cX3_boundValue 57 = .ok (.return_, 1) := by decide +kernel
theorem dX3_openFunction_0 : decode cX3_openFunction 0 = .ok (.invokestatic 103, 3) := by decide +kernel
theorem dX3_openFunction_3 : decode cX3_openFunction 3 = .ok (.astore 4, 2) := by decide +kernel
theorem dX3_openFunction_5 : decode cX3_openFunction 5 = .ok (.aload_n 1, 1) := by decide +kernel
theorem dX3_openFunction_6 : decode cX3_openFunction 6 = .ok (.new 115, 3) := by decide +kernel
theorem dX3_openFunction_9 : decode cX3_openFunction 9 = .ok (.dup, 1) := by decide +kernel
theorem dX3_openFunction_10 : decode cX3_openFunction 10 = .ok (.iload_n 2, 1) := by decide +kernel
theorem dX3_openFunction_11 : decode cX3_openFunction 11 = .ok (.iconst 0, 1) := by decide +kernel
theorem dX3_openFunction_12 : decode cX3_openFunction 12 = .ok (.aload 4, 2) := by decide +kernel
theorem dX3_openFunction_14 : decode cX3_openFunction 14 = .ok (.invokespecial 117, 3) := by decide +kernel
theorem dX3_openFunction_17 : decode cX3_openFunction 17 = .ok (.invokevirtual 123, 3) := by decide +kernel
theorem dX3_openFunction_20 : decode cX3_openFunction 20 = .ok (.aload_n 1, 1) := by decide +kernel
theorem dX3_openFunction_21 : decode cX3_openFunction 21 = .ok (.new 115, 3) := by decide +kernel
theorem dX3_openFunction_24 : decode cX3_openFunction 24 = .ok (.dup, 1) := by decide +kernel
theorem dX3_openFunction_25 : decode cX3_openFunction 25 = .ok (.bipush 11, 2) := by decide +kernel
theorem dX3_openFunction_27 : decode cX3_openFunction 27 = .ok (.iconst 0, 1) := by decide +kernel
theorem dX3_openFunction_28 : decode cX3_openFunction 28 = .ok (.aload_n 3, 1) := by decide +kernel
theorem dX3_openFunction_29 : decode cX3_openFunction 29 = .ok (.invokespecial 117, 3) := by decide +kernel
theorem dX3_openFunction_32 : decode cX3_openFunction 32 = .ok (.invokevirtual 123, 3) := by decide +kernel
theorem dX3_openFunction_35 : decode cX3_openFunction 35 = .ok (.aload_n 1, 1) := by decide +kernel
theorem dX3_openFunction_36 : decode cX3_openFunction 36 = .ok (.aload 4, 2) := by decide +kernel
theorem dX3_openFunction_38 : decode cX3_openFunction 38 = .ok (.invokevirtual 123, 3) := by decide +kernel
theorem dX3_openFunction_41 : decode cX3_openFunction 41 = .ok (.return_, 1) := by decide +kernel
theorem dX3_match_0 : decode cX3_match 0 = .ok (.aload_n 0, 1) := by decide +kernel
theorem dX3_match_1 : decode cX3_match 1 = .ok (.dup, 1) := by decide +kernel
theorem dX3_match_2 : decode cX3_match 2 = .ok (.getfield 19, 3) := by decide +kernel
theorem dX3_match_5 : decode cX3_match 5 = .ok (.iconst 1, 1) := by decide +kernel
theorem dX3_match_6 : decode cX3_match 6 = .ok (.iadd, 1) := by decide +kernel
theorem dX3_match_7 : decode cX3_match 7 = .ok (.putfield 19, 3) := by decide +kernel
theorem dX3_match_10 : decode cX3_match 10 = .ok (.aload_n 0, 1) := by decide +kernel
theorem dX3_match_11 : decode cX3_match 11 = .ok (.iload_n 1, 1) := by decide +kernel
theorem dX3_match_12 : decode cX3_match 12 = .ok (.invokevirtual 71, 3) := by decide +kernel
theorem dX3_match_15 : decode cX3_match 15 = .ok (.astore_n 2, 1) := by decide +kernel
theorem dX3_match_16 : decode cX3_match 16 = .ok (.aload_n 0, 1) := by decide +kernel
theorem dX3_match_17 : decode cX3_match 17 = .ok (.bipush 123, 2) := by decide +kernel
theorem dX3_match_19 : decode cX3_match 19 = .ok (.invokevirtual 120, 3) := by decide +kernel
theorem dX3_match_22 : decode cX3_match 22 = .ok (.new 115, 3) := by decide +kernel
theorem dX3_match_25 : decode cX3_match 25 = .ok (.dup, 1) := by decide +kernel
theorem dX3_match_26 : decode cX3_match 26 = .ok (.bipush 18, 2) := by decide +kernel
theorem dX3_match_28 : decode cX3_match 28 = .ok (.iconst 0, 1) := by decide +kernel
theorem dX3_match_29 : decode cX3_match 29 = .ok (.aconst_null, 1) := by decide +kernel
theorem dX3_match_30 : decode cX3_match 30 = .ok (.invokespecial 117, 3) := by decide +kernel
theorem dX3_match_33 : decode cX3_match 33 = .ok (.astore_n 3, 1) := by decide +kernel
theorem dX3_match_34 : decode cX3_match 34 = .ok (.aload_n 2, 1) := by decide +kernel
theorem dX3_match_35 : decode cX3_match 35 = .ok (.aload_n 3, 1) := by decide +kernel
theorem dX3_match_36 : decode cX3_match 36 = .ok (.invokevirtual 123, 3) := by decide +kernel
theorem dX3_match_39 : decode cX3_match 39 = .ok (.new 43, 3) := by decide +kernel
theorem dX3_match_42 : decode cX3_match 42 = .ok (.dup, 1) := by decide +kernel
theorem dX3_match_43 : decode cX3_match 43 = .ok (.invokespecial 55, 3) := by decide +kernel
theorem dX3_match_46 : decode cX3_match 46 = .ok (.astore 4, 2) := by decide +kernel
theorem dX3_match_48 : decode cX3_match 48 = .ok (.invokestatic 103, 3) := by decide +kernel
theorem dX3_match_51 : decode cX3_match 51 = .ok (.astore 5, 2) := by decide +kernel
theorem dX3_match_53 : decode cX3_match 53 = .ok (.iconst 0, 1) := by decide +kernel
theorem dX3_match_54 : decode cX3_match 54 = .ok (.istore 6, 2) := by decide +kernel
theorem dX3_match_56 : decode cX3_match 56 = .ok (.iconst 0, 1) := by decide +kernel
theorem dX3_match_57 : decode cX3_match 57 = .ok (.istore 7, 2) := by decide +kernel
theorem dX3_match_59 : decode cX3_match 59 = .ok (.iload 7, 2) := by decide +kernel
theorem dX3_match_61 : decode cX3_match 61 = .ok (.bipush 8, 2) := by decide +kernel
theorem dX3_match_63 : decode cX3_match 63 = .ok (.if_icmp .ge 80, 3) := by decide +kernel
theorem dX3_match_66 : decode cX3_match 66 = .ok (.iload 7, 2) := by decide +kernel
theorem dX3_match_68 : decode cX3_match 68 = .ok (.ifCond .eq 12, 3) := by decide +kernel
theorem dX3_match_71 : decode cX3_match 71 = .ok (.aload_n 0, 1) := by decide +kernel
theorem dX3_match_72 : decode cX3_match 72 = .ok (.invokevirtual 64, 3) := by decide +kernel
theorem dX3_match_75 : decode cX3_match 75 = .ok (.bipush 125, 2) := by decide +kernel
theorem dX3_match_77 : decode cX3_match 77 = .ok (.if_icmp .eq 66, 3) := by decide +kernel
theorem dX3_match_80 : decode cX3_match 80 = .ok (.aload_n 0, 1) := by decide +kernel
theorem dX3_match_81 : decode cX3_match 81 = .ok (.iload 6, 2) := by decide +kernel
theorem dX3_match_83 : decode cX3_match 83 = .ok (.invokevirtual 125, 3) := by decide +kernel
theorem dX3_match_86 : decode cX3_match 86 = .ok (.istore 8, 2) := by decide +kernel
theorem dX3_match_88 : decode cX3_match 88 = .ok (.iload 6, 2) := by decide +kernel
theorem dX3_match_90 : decode cX3_match 90 = .ok (.iconst 1, 1) := by decide +kernel
theorem dX3_match_91 : decode cX3_match 91 = .ok (.iload 8, 2) := by decide +kernel
theorem dX3_match_93 : decode cX3_match 93 = .ok (.ishl, 1) := by decide +kernel
theorem dX3_match_94 : decode cX3_match 94 = .ok (.ior, 1) := by decide +kernel
theorem dX3_match_95 : decode cX3_match 95 = .ok (.istore 6, 2) := by decide +kernel
theorem dX3_match_97 : decode cX3_match 97 = .ok (.iinc 7 1, 3) := by decide +kernel
theorem dX3_match_100 : decode cX3_match 100 = .ok (.invokestatic 103, 3) := by decide +kernel
theorem dX3_match_103 : decode cX3_match 103 = .ok (.astore 9, 2) := by decide +kernel
theorem dX3_match_105 : decode cX3_match 105 = .ok (.aload_n 2, 1) := by decide +kernel
theorem dX3_match_106 : decode cX3_match 106 = .ok (.new 115, 3) := by decide +kernel
theorem dX3_match_109 : decode cX3_match 109 = .ok (.dup, 1) := by decide +kernel
theorem dX3_match_110 : decode cX3_match 110 = .ok (.bipush 19, 2) := by decide +kernel
theorem dX3_match_112 : decode cX3_match 112 = .ok (.iload 8, 2) := by decide +kernel
theorem dX3_match_114 : decode cX3_match 114 = .ok (.aload 9, 2) := by decide +kernel
theorem dX3_match_116 : decode cX3_match 116 = .ok (.invokespecial 117, 3) := by decide +kernel
theorem dX3_match_119 : decode cX3_match 119 = .ok (.invokevirtual 123, 3) := by decide +kernel
theorem dX3_match_122 : decode cX3_match 122 = .ok (.aload 4, 2) := by decide +kernel
theorem dX3_match_124 : decode cX3_match 124 = .ok (.aload 9, 2) := by decide +kernel
theorem dX3_match_126 : decode cX3_match 126 = .ok (.invokevirtual 123, 3) := by decide +kernel
theorem dX3_match_129 : decode cX3_match 129 = .ok (.aload_n 0, 1) := by decide +kernel
theorem dX3_match_130 : decode cX3_match 130 = .ok (.aload 4, 2) := by decide +kernel
theorem dX3_match_132 : decode cX3_match 132 = .ok (.iload 8, 2) := by decide +kernel
theorem dX3_match_134 : decode cX3_match 134 = .ok (.aload 5, 2) := by decide +kernel
theorem dX3_match_136 : decode cX3_match 136 = .ok (.iload_n 1, 1) := by decide +kernel
theorem dX3_match_137 : decode cX3_match 137 = .ok (.invokevirtual 129, 3) := by decide +kernel
theorem dX3_match_140 : decode cX3_match 140 = .ok (.goto (-81), 3) := by decide +kernel
theorem dX3_match_143 : decode cX3_match 143 = .ok (.aload_n 0, 1) := by decide +kernel
theorem dX3_match_144 : decode cX3_match 144 = .ok (.bipush 125, 2) := by decide +kernel
theorem dX3_match_146 : decode cX3_match 146 = .ok (.invokevirtual 120, 3) := by decide +kernel
theorem dX3_match_149 : decode cX3_match 149 = .ok (.aload_n 3, 1) := by decide +kernel
theorem dX3_match_150 : decode cX3_match 150 = .ok (.iload 7, 2) := by decide +kernel
theorem dX3_match_152 : decode cX3_match 152 = .ok (.putfield 133, 3) := by decide +kernel
theorem dX3_match_155 : decode cX3_match 155 = .ok (.aload_n 2, 1) := by decide +kernel
theorem dX3_match_156 : decode cX3_match 156 = .ok (.aload 4, 2) := by decide +kernel
theorem dX3_match_158 : decode cX3_match 158 = .ok (.invokevirtual 74, 3) := by decide +kernel
theorem dX3_match_161 : decode cX3_match 161 = .ok (.aload_n 2, 1) := by decide +kernel
theorem dX3_match_162 : decode cX3_match 162 = .ok (.aload 5, 2) := by decide +kernel
theorem dX3_match_164 : decode cX3_match 164 = .ok (.invokevirtual 123, 3) := by decide +kernel
theorem dX3_match_167 : decode cX3_match 167 = .ok (.aload_n 2, 1) := by decide +kernel
theorem dX3_match_168 : decode cX3_match 168 = .ok (.areturn, 1) := by decide +kernel
theorem dX3_caseBody_0 : decode cX3_caseBody 0 = .ok (.iload_n 2, 1) := by decide +kernel
theorem dX3_caseBody_1 : decode cX3_caseBody 1 = .ok (.invokestatic 136, 3) := by decide +kernel
theorem dX3_caseBody_4 : decode cX3_caseBody 4 = .ok (.istore 5, 2) := by decide +kernel
theorem dX3_caseBody_6 : decode cX3_caseBody 6 = .ok (.aload_n 0, 1) := by decide +kernel
theorem dX3_caseBody_7 : decode cX3_caseBody 7 = .ok (.getfield 25, 3) := by decide +kernel
theorem dX3_caseBody_10 : decode cX3_caseBody 10 = .ok (.istore 6, 2) := by decide +kernel
theorem dX3_caseBody_12 : decode cX3_caseBody 12 = .ok (.iconst 0, 1) := by decide +kernel
theorem dX3_caseBody_13 : decode cX3_caseBody 13 = .ok (.istore 7, 2) := by decide +kernel
theorem dX3_caseBody_15 : decode cX3_caseBody 15 = .ok (.iload 7, 2) := by decide +kernel
theorem dX3_caseBody_17 : decode cX3_caseBody 17 = .ok (.iload 5, 2) := by decide +kernel
theorem dX3_caseBody_19 : decode cX3_caseBody 19 = .ok (.if_icmp .ge 49, 3) := by decide +kernel
theorem dX3_caseBody_22 : decode cX3_caseBody 22 = .ok (.aload_n 0, 1) := by decide +kernel
theorem dX3_caseBody_23 : decode cX3_caseBody 23 = .ok (.aload_n 0, 1) := by decide +kernel
theorem dX3_caseBody_24 : decode cX3_caseBody 24 = .ok (.invokevirtual 64, 3) := by decide +kernel
theorem dX3_caseBody_27 : decode cX3_caseBody 27 = .ok (.invokevirtual 139, 3) := by decide +kernel
theorem dX3_caseBody_30 : decode cX3_caseBody 30 = .ok (.istore 8, 2) := by decide +kernel
theorem dX3_caseBody_32 : decode cX3_caseBody 32 = .ok (.iload 8, 2) := by decide +kernel
theorem dX3_caseBody_34 : decode cX3_caseBody 34 = .ok (.iconst (-1), 1) := by decide +kernel
theorem dX3_caseBody_35 : decode cX3_caseBody 35 = .ok (.if_icmp .eq 19, 3) := by decide +kernel
theorem dX3_caseBody_38 : decode cX3_caseBody 38 = .ok (.iload 8, 2) := by decide +kernel
theorem dX3_caseBody_40 : decode cX3_caseBody 40 = .ok (.aload_n 0, 1) := by decide +kernel
theorem dX3_caseBody_41 : decode cX3_caseBody 41 = .ok (.getfield 25, 3) := by decide +kernel
theorem dX3_caseBody_44 : decode cX3_caseBody 44 = .ok (.iload 6, 2) := by decide +kernel
theorem dX3_caseBody_46 : decode cX3_caseBody 46 = .ok (.isub, 1) := by decide +kernel
theorem dX3_caseBody_47 : decode cX3_caseBody 47 = .ok (.if_icmp .ge 7, 3) := by decide +kernel
theorem dX3_caseBody_50 : decode cX3_caseBody 50 = .ok (.aload_n 0, 1) := by decide +kernel
theorem dX3_caseBody_51 : decode cX3_caseBody 51 = .ok (.invokevirtual 39, 3) := by decide +kernel
theorem dX3_caseBody_54 : decode cX3_caseBody 54 = .ok (.aload_n 0, 1) := by decide +kernel
theorem dX3_caseBody_55 : decode cX3_caseBody 55 = .ok (.aload_n 0, 1) := by decide +kernel
theorem dX3_caseBody_56 : decode cX3_caseBody 56 = .ok (.invokevirtual 96, 3) := by decide +kernel
theorem dX3_caseBody_59 : decode cX3_caseBody 59 = .ok (.invokevirtual 99, 3) := by decide +kernel
theorem dX3_caseBody_62 : decode cX3_caseBody 62 = .ok (.iinc 7 1, 3) := by decide +kernel
theorem dX3_caseBody_65 : decode cX3_caseBody 65 = .ok (.goto (-50), 3) := by decide +kernel
theorem dX3_caseBody_68 : decode cX3_caseBody 68 = .ok (.aload_n 0, 1) := by decide +kernel
theorem dX3_caseBody_69 : decode cX3_caseBody 69 = .ok (.bipush 58, 2) := by decide +kernel
theorem dX3_caseBody_71 : decode cX3_caseBody 71 = .ok (.invokevirtual 120, 3) := by decide +kernel
theorem dX3_caseBody_74 : decode cX3_caseBody 74 = .ok (.iload 5, 2) := by decide +kernel
theorem dX3_caseBody_76 : decode cX3_caseBody 76 = .ok (.ifCond .le 11, 3) := by decide +kernel
theorem dX3_caseBody_79 : decode cX3_caseBody 79 = .ok (.aload_n 1, 1) := by decide +kernel
theorem dX3_caseBody_80 : decode cX3_caseBody 80 = .ok (.bipush 20, 2) := by decide +kernel
theorem dX3_caseBody_82 : decode cX3_caseBody 82 = .ok (.iload 5, 2) := by decide +kernel
theorem dX3_caseBody_84 : decode cX3_caseBody 84 = .ok (.invokevirtual 42, 3) := by decide +kernel
theorem dX3_caseBody_87 : decode cX3_caseBody 87 = .ok (.aload_n 1, 1) := by decide +kernel
theorem dX3_caseBody_88 : decode cX3_caseBody 88 = .ok (.aload_n 0, 1) := by decide +kernel
theorem dX3_caseBody_89 : decode cX3_caseBody 89 = .ok (.iload 4, 2) := by decide +kernel
theorem dX3_caseBody_91 : decode cX3_caseBody 91 = .ok (.iconst 1, 1) := by decide +kernel
theorem dX3_caseBody_92 : decode cX3_caseBody 92 = .ok (.iadd, 1) := by decide +kernel
theorem dX3_caseBody_93 : decode cX3_caseBody 93 = .ok (.invokevirtual 35, 3) := by decide +kernel
theorem dX3_caseBody_96 : decode cX3_caseBody 96 = .ok (.invokevirtual 74, 3) := by decide +kernel
theorem dX3_caseBody_99 : decode cX3_caseBody 99 = .ok (.iload 5, 2) := by decide +kernel
theorem dX3_caseBody_101 : decode cX3_caseBody 101 = .ok (.ifCond .le 11, 3) := by decide +kernel
theorem dX3_caseBody_104 : decode cX3_caseBody 104 = .ok (.aload_n 1, 1) := by decide +kernel
theorem dX3_caseBody_105 : decode cX3_caseBody 105 = .ok (.bipush 15, 2) := by decide +kernel
theorem dX3_caseBody_107 : decode cX3_caseBody 107 = .ok (.iload 5, 2) := by decide +kernel
theorem dX3_caseBody_109 : decode cX3_caseBody 109 = .ok (.invokevirtual 42, 3) := by decide +kernel
theorem dX3_caseBody_112 : decode cX3_caseBody 112 = .ok (.aload_n 1, 1) := by decide +kernel
theorem dX3_caseBody_113 : decode cX3_caseBody 113 = .ok (.new 115, 3) := by decide +kernel
theorem dX3_caseBody_116 : decode cX3_caseBody 116 = .ok (.dup, 1) := by decide +kernel
theorem dX3_caseBody_117 : decode cX3_caseBody 117 = .ok (.bipush 11, 2) := by decide +kernel
theorem dX3_caseBody_119 : decode cX3_caseBody 119 = .ok (.iconst 0, 1) := by decide +kernel
theorem dX3_caseBody_120 : decode cX3_caseBody 120 = .ok (.aload_n 3, 1) := by decide +kernel
theorem dX3_caseBody_121 : decode cX3_caseBody 121 = .ok (.invokespecial 117, 3) := by decide +kernel
theorem dX3_caseBody_124 : decode cX3_caseBody 124 = .ok (.invokevirtual 123, 3) := by decide +kernel
theorem dX3_caseBody_127 : decode cX3_caseBody 127 = .ok (.aload_n 0, 1) := by decide +kernel
theorem dX3_caseBody_128 : decode cX3_caseBody 128 = .ok (.bipush 59, 2) := by decide +kernel
theorem dX3_caseBody_130 : decode cX3_caseBody 130 = .ok (.invokevirtual 120, 3) := by decide +kernel
theorem dX3_caseBody_133 : decode cX3_caseBody 133 = .ok (.aload_n 0, 1) := by decide +kernel
theorem dX3_caseBody_134 : decode cX3_caseBody 134 = .ok (.iload 6, 2) := by decide +kernel
theorem dX3_caseBody_136 : decode cX3_caseBody 136 = .ok (.putfield 25, 3) := by decide +kernel
theorem dX3_caseBody_139 : decode cX3_caseBody 139 = .ok (.return_, 1) := by decide +kernel
theorem dX3_comparison_0 : decode cX3_comparison 0 = .ok (.aload_n 0, 1) := by decide +kernel
theorem dX3_comparison_1 : decode cX3_comparison 1 = .ok (.iload_n 1, 1) := by decide +kernel
theorem dX3_comparison_2 : decode cX3_comparison 2 = .ok (.invokevirtual 143, 3) := by decide +kernel
theorem dX3_comparison_5 : decode cX3_comparison 5 = .ok (.astore_n 2, 1) := by decide +kernel
theorem dX3_comparison_6 : decode cX3_comparison 6 = .ok (.aload_n 0, 1) := by decide +kernel
theorem dX3_comparison_7 : decode cX3_comparison 7 = .ok (.invokevirtual 64, 3) := by decide +kernel
theorem dX3_comparison_10 : decode cX3_comparison 10 = .ok (.istore_n 3, 1) := by decide +kernel
theorem dX3_comparison_11 : decode cX3_comparison 11 = .ok (.iload_n 3, 1) := by decide +kernel
theorem dX3_comparison_12 : decode cX3_comparison 12 = .ok (.bipush 60, 2) := by decide +kernel
theorem dX3_comparison_14 : decode cX3_comparison 14 = .ok (.if_icmp .eq 9, 3) := by decide +kernel
theorem dX3_comparison_17 : decode cX3_comparison 17 = .ok (.iload_n 3, 1) := by decide +kernel
theorem dX3_comparison_18 : decode cX3_comparison 18 = .ok (.bipush 126, 2) := by decide +kernel
theorem dX3_comparison_20 : decode cX3_comparison 20 = .ok (.if_icmp .ne 35, 3) := by decide +kernel
theorem dX3_comparison_23 : decode cX3_comparison 23 = .ok (.aload_n 0, 1) := by decide +kernel
theorem dX3_comparison_24 : decode cX3_comparison 24 = .ok (.dup, 1) := by decide +kernel
theorem dX3_comparison_25 : decode cX3_comparison 25 = .ok (.getfield 19, 3) := by decide +kernel
theorem dX3_comparison_28 : decode cX3_comparison 28 = .ok (.iconst 1, 1) := by decide +kernel
theorem dX3_comparison_29 : decode cX3_comparison 29 = .ok (.iadd, 1) := by decide +kernel
theorem dX3_comparison_30 : decode cX3_comparison 30 = .ok (.putfield 19, 3) := by decide +kernel
theorem dX3_comparison_33 : decode cX3_comparison 33 = .ok (.aload_n 2, 1) := by decide +kernel
theorem dX3_comparison_34 : decode cX3_comparison 34 = .ok (.iload_n 3, 1) := by decide +kernel
theorem dX3_comparison_35 : decode cX3_comparison 35 = .ok (.bipush 60, 2) := by decide +kernel
theorem dX3_comparison_37 : decode cX3_comparison 37 = .ok (.if_icmp .ne 8, 3) := by decide +kernel
theorem dX3_comparison_40 : decode cX3_comparison 40 = .ok (.bipush 7, 2) := by decide +kernel
theorem dX3_comparison_42 : decode cX3_comparison 42 = .ok (.goto 5, 3) := by decide +kernel
theorem dX3_comparison_45 : decode cX3_comparison 45 = .ok (.bipush 8, 2) := by decide +kernel
theorem dX3_comparison_47 : decode cX3_comparison 47 = .ok (.aload_n 0, 1) := by decide +kernel
theorem dX3_comparison_48 : decode cX3_comparison 48 = .ok (.iload_n 1, 1) := by decide +kernel
theorem dX3_comparison_49 : decode cX3_comparison 49 = .ok (.invokevirtual 143, 3) := by decide +kernel
theorem dX3_comparison_52 : decode cX3_comparison 52 = .ok (.invokevirtual 146, 3) := by decide +kernel
theorem dX3_comparison_55 : decode cX3_comparison 55 = .ok (.aload_n 2, 1) := by decide +kernel
theorem dX3_comparison_56 : decode cX3_comparison 56 = .ok (.areturn, 1) := by decide +kernel
theorem dX3_sum_0 : decode cX3_sum 0 = .ok (.aload_n 0, 1) := by decide +kernel
theorem dX3_sum_1 : decode cX3_sum 1 = .ok (.iload_n 1, 1) := by decide +kernel
theorem dX3_sum_2 : decode cX3_sum 2 = .ok (.invokevirtual 150, 3) := by decide +kernel
theorem dX3_sum_5 : decode cX3_sum 5 = .ok (.astore_n 2, 1) := by decide +kernel
theorem dX3_sum_6 : decode cX3_sum 6 = .ok (.aload_n 0, 1) := by decide +kernel
theorem dX3_sum_7 : decode cX3_sum 7 = .ok (.getfield 19, 3) := by decide +kernel
theorem dX3_sum_10 : decode cX3_sum 10 = .ok (.aload_n 0, 1) := by decide +kernel
theorem dX3_sum_11 : decode cX3_sum 11 = .ok (.getfield 15, 3) := by decide +kernel
theorem dX3_sum_14 : decode cX3_sum 14 = .ok (.if_icmp .ge 59, 3) := by decide +kernel
theorem dX3_sum_17 : decode cX3_sum 17 = .ok (.aload_n 0, 1) := by decide +kernel
theorem dX3_sum_18 : decode cX3_sum 18 = .ok (.invokevirtual 64, 3) := by decide +kernel
theorem dX3_sum_21 : decode cX3_sum 21 = .ok (.bipush 43, 2) := by decide +kernel
theorem dX3_sum_23 : decode cX3_sum 23 = .ok (.if_icmp .eq 12, 3) := by decide +kernel
theorem dX3_sum_26 : decode cX3_sum 26 = .ok (.aload_n 0, 1) := by decide +kernel
theorem dX3_sum_27 : decode cX3_sum 27 = .ok (.invokevirtual 64, 3) := by decide +kernel
theorem dX3_sum_30 : decode cX3_sum 30 = .ok (.bipush 45, 2) := by decide +kernel
theorem dX3_sum_32 : decode cX3_sum 32 = .ok (.if_icmp .ne 41, 3) := by decide +kernel
theorem dX3_sum_35 : decode cX3_sum 35 = .ok (.aload_n 0, 1) := by decide +kernel
theorem dX3_sum_36 : decode cX3_sum 36 = .ok (.invokevirtual 64, 3) := by decide +kernel
theorem dX3_sum_39 : decode cX3_sum 39 = .ok (.bipush 43, 2) := by decide +kernel
theorem dX3_sum_41 : decode cX3_sum 41 = .ok (.if_icmp .ne 7, 3) := by decide +kernel
theorem dX3_sum_44 : decode cX3_sum 44 = .ok (.iconst 4, 1) := by decide +kernel
theorem dX3_sum_45 : decode cX3_sum 45 = .ok (.goto 4, 3) := by decide +kernel
theorem dX3_sum_48 : decode cX3_sum 48 = .ok (.iconst 5, 1) := by decide +kernel
theorem dX3_sum_49 : decode cX3_sum 49 = .ok (.istore_n 3, 1) := by decide +kernel
theorem dX3_sum_50 : decode cX3_sum 50 = .ok (.aload_n 0, 1) := by decide +kernel
theorem dX3_sum_51 : decode cX3_sum 51 = .ok (.dup, 1) := by decide +kernel
theorem dX3_sum_52 : decode cX3_sum 52 = .ok (.getfield 19, 3) := by decide +kernel
theorem dX3_sum_55 : decode cX3_sum 55 = .ok (.iconst 1, 1) := by decide +kernel
theorem dX3_sum_56 : decode cX3_sum 56 = .ok (.iadd, 1) := by decide +kernel
theorem dX3_sum_57 : decode cX3_sum 57 = .ok (.putfield 19, 3) := by decide +kernel
theorem dX3_sum_60 : decode cX3_sum 60 = .ok (.aload_n 2, 1) := by decide +kernel
theorem dX3_sum_61 : decode cX3_sum 61 = .ok (.iload_n 3, 1) := by decide +kernel
theorem dX3_sum_62 : decode cX3_sum 62 = .ok (.aload_n 0, 1) := by decide +kernel
theorem dX3_sum_63 : decode cX3_sum 63 = .ok (.iload_n 1, 1) := by decide +kernel
theorem dX3_sum_64 : decode cX3_sum 64 = .ok (.invokevirtual 150, 3) := by decide +kernel
theorem dX3_sum_67 : decode cX3_sum 67 = .ok (.invokevirtual 146, 3) := by decide +kernel
theorem dX3_sum_70 : decode cX3_sum 70 = .ok (.goto (-64), 3) := by decide +kernel
theorem dX3_sum_73 : decode cX3_sum 73 = .ok (.aload_n 2, 1) := by decide +kernel
theorem dX3_sum_74 : decode cX3_sum 74 = .ok (.areturn, 1) := by decide +kernel
theorem dX3_product_0 : decode cX3_product 0 = .ok (.aload_n 0, 1) := by decide +kernel
theorem dX3_product_1 : decode cX3_product 1 = .ok (.iload_n 1, 1) := by decide +kernel
theorem dX3_product_2 : decode cX3_product 2 = .ok (.invokevirtual 153, 3) := by decide +kernel
theorem dX3_product_5 : decode cX3_product 5 = .ok (.astore_n 2, 1) := by decide +kernel
theorem dX3_product_6 : decode cX3_product 6 = .ok (.aload_n 0, 1) := by decide +kernel
theorem dX3_product_7 : decode cX3_product 7 = .ok (.getfield 19, 3) := by decide +kernel
theorem dX3_product_10 : decode cX3_product 10 = .ok (.aload_n 0, 1) := by decide +kernel
theorem dX3_product_11 : decode cX3_product 11 = .ok (.getfield 15, 3) := by decide +kernel
theorem dX3_product_14 : decode cX3_product 14 = .ok (.if_icmp .ge 36, 3) := by decide +kernel
theorem dX3_product_17 : decode cX3_product 17 = .ok (.aload_n 0, 1) := by decide +kernel
theorem dX3_product_18 : decode cX3_product 18 = .ok (.invokevirtual 64, 3) := by decide +kernel
theorem dX3_product_21 : decode cX3_product 21 = .ok (.bipush 42, 2) := by decide +kernel
theorem dX3_product_23 : decode cX3_product 23 = .ok (.if_icmp .ne 27, 3) := by decide +kernel
theorem dX3_product_26 : decode cX3_product 26 = .ok (.aload_n 0, 1) := by decide +kernel
theorem dX3_product_27 : decode cX3_product 27 = .ok (.dup, 1) := by decide +kernel
theorem dX3_product_28 : decode cX3_product 28 = .ok (.getfield 19, 3) := by decide +kernel
theorem dX3_product_31 : decode cX3_product 31 = .ok (.iconst 1, 1) := by decide +kernel
theorem dX3_product_32 : decode cX3_product 32 = .ok (.iadd, 1) := by decide +kernel
theorem dX3_product_33 : decode cX3_product 33 = .ok (.putfield 19, 3) := by decide +kernel
theorem dX3_product_36 : decode cX3_product 36 = .ok (.aload_n 2, 1) := by decide +kernel
theorem dX3_product_37 : decode cX3_product 37 = .ok (.bipush 6, 2) := by decide +kernel
theorem dX3_product_39 : decode cX3_product 39 = .ok (.aload_n 0, 1) := by decide +kernel
theorem dX3_product_40 : decode cX3_product 40 = .ok (.iload_n 1, 1) := by decide +kernel
theorem dX3_product_41 : decode cX3_product 41 = .ok (.invokevirtual 153, 3) := by decide +kernel
theorem dX3_product_44 : decode cX3_product 44 = .ok (.invokevirtual 146, 3) := by decide +kernel
theorem dX3_product_47 : decode cX3_product 47 = .ok (.goto (-41), 3) := by decide +kernel
theorem dX3_product_50 : decode cX3_product 50 = .ok (.aload_n 2, 1) := by decide +kernel
theorem dX3_product_51 : decode cX3_product 51 = .ok (.areturn, 1) := by decide +kernel
theorem dX3_application_0 : decode cX3_application 0 = .ok (.aload_n 0, 1) := by decide +kernel
theorem dX3_application_1 : decode cX3_application 1 = .ok (.iload_n 1, 1) := by decide +kernel
theorem dX3_application_2 : decode cX3_application 2 = .ok (.invokevirtual 156, 3) := by decide +kernel
theorem dX3_application_5 : decode cX3_application 5 = .ok (.astore_n 2, 1) := by decide +kernel
theorem dX3_application_6 : decode cX3_application 6 = .ok (.new 43, 3) := by decide +kernel
theorem dX3_application_9 : decode cX3_application 9 = .ok (.dup, 1) := by decide +kernel
theorem dX3_application_10 : decode cX3_application 10 = .ok (.invokespecial 55, 3) := by decide +kernel
theorem dX3_application_13 : decode cX3_application 13 = .ok (.astore_n 3, 1) := by decide +kernel
theorem dX3_application_14 : decode cX3_application 14 = .ok (.iconst 0, 1) := by decide +kernel
theorem dX3_application_15 : decode cX3_application 15 = .ok (.istore 4, 2) := by decide +kernel
theorem dX3_application_17 : decode cX3_application 17 = .ok (.iload 4, 2) := by decide +kernel
theorem dX3_application_19 : decode cX3_application 19 = .ok (.aload_n 0, 1) := by decide +kernel
theorem dX3_application_20 : decode cX3_application 20 = .ok (.getfield 15, 3) := by decide +kernel
theorem dX3_application_23 : decode cX3_application 23 = .ok (.if_icmp .ge 42, 3) := by decide +kernel
theorem dX3_application_26 : decode cX3_application 26 = .ok (.aload_n 0, 1) := by decide +kernel
theorem dX3_application_27 : decode cX3_application 27 = .ok (.invokevirtual 64, 3) := by decide +kernel
theorem dX3_application_30 : decode cX3_application 30 = .ok (.invokestatic 159, 3) := by decide +kernel
theorem dX3_application_33 : decode cX3_application 33 = .ok (.ifCond .eq 32, 3) := by decide +kernel
theorem dX3_application_36 : decode cX3_application 36 = .ok (.aload_n 0, 1) := by decide +kernel
theorem dX3_application_37 : decode cX3_application 37 = .ok (.iload_n 1, 1) := by decide +kernel
theorem dX3_application_38 : decode cX3_application 38 = .ok (.invokevirtual 156, 3) := by decide +kernel
theorem dX3_application_41 : decode cX3_application 41 = .ok (.astore 5, 2) := by decide +kernel
theorem dX3_application_43 : decode cX3_application 43 = .ok (.aload 5, 2) := by decide +kernel
theorem dX3_application_45 : decode cX3_application 45 = .ok (.iconst 3, 1) := by decide +kernel
theorem dX3_application_46 : decode cX3_application 46 = .ok (.iconst 0, 1) := by decide +kernel
theorem dX3_application_47 : decode cX3_application 47 = .ok (.invokevirtual 42, 3) := by decide +kernel
theorem dX3_application_50 : decode cX3_application 50 = .ok (.aload 5, 2) := by decide +kernel
theorem dX3_application_52 : decode cX3_application 52 = .ok (.aload_n 3, 1) := by decide +kernel
theorem dX3_application_53 : decode cX3_application 53 = .ok (.invokevirtual 74, 3) := by decide +kernel
theorem dX3_application_56 : decode cX3_application 56 = .ok (.aload 5, 2) := by decide +kernel
theorem dX3_application_58 : decode cX3_application 58 = .ok (.astore_n 3, 1) := by decide +kernel
theorem dX3_application_59 : decode cX3_application 59 = .ok (.iinc 4 1, 3) := by decide +kernel
theorem dX3_application_62 : decode cX3_application 62 = .ok (.goto (-45), 3) := by decide +kernel
theorem dX3_application_65 : decode cX3_application 65 = .ok (.aload_n 3, 1) := by decide +kernel
theorem dX3_application_66 : decode cX3_application 66 = .ok (.aload_n 2, 1) := by decide +kernel
theorem dX3_application_67 : decode cX3_application 67 = .ok (.invokevirtual 74, 3) := by decide +kernel
theorem dX3_application_70 : decode cX3_application 70 = .ok (.iconst 0, 1) := by decide +kernel
theorem dX3_application_71 : decode cX3_application 71 = .ok (.istore 5, 2) := by decide +kernel
theorem dX3_application_73 : decode cX3_application 73 = .ok (.iload 5, 2) := by decide +kernel
theorem dX3_application_75 : decode cX3_application 75 = .ok (.iload 4, 2) := by decide +kernel
theorem dX3_application_77 : decode cX3_application 77 = .ok (.if_icmp .ge 16, 3) := by decide +kernel
theorem dX3_application_80 : decode cX3_application 80 = .ok (.aload_n 3, 1) := by decide +kernel
theorem dX3_application_81 : decode cX3_application 81 = .ok (.bipush 13, 2) := by decide +kernel
theorem dX3_application_83 : decode cX3_application 83 = .ok (.iconst 0, 1) := by decide +kernel
theorem dX3_application_84 : decode cX3_application 84 = .ok (.invokevirtual 42, 3) := by decide +kernel
theorem dX3_application_87 : decode cX3_application 87 = .ok (.iinc 5 1, 3) := by decide +kernel
theorem dX3_application_90 : decode cX3_application 90 = .ok (.goto (-17), 3) := by decide +kernel
theorem dX3_application_93 : decode cX3_application 93 = .ok (.aload_n 3, 1) := by decide +kernel
theorem dX3_application_94 : decode cX3_application 94 = .ok (.areturn, 1) := by decide +kernel
theorem dX3_atom_0 : decode cX3_atom 0 = .ok (.aload_n 0, 1) := by decide +kernel
theorem dX3_atom_1 : decode cX3_atom 1 = .ok (.invokevirtual 64, 3) := by decide +kernel
theorem dX3_atom_4 : decode cX3_atom 4 = .ok (.istore_n 2, 1) := by decide +kernel
theorem dX3_atom_5 : decode cX3_atom 5 = .ok (.iload_n 2, 1) := by decide +kernel
theorem dX3_atom_6 : decode cX3_atom 6 = .ok (.invokestatic 162, 3) := by decide +kernel
theorem dX3_atom_9 : decode cX3_atom 9 = .ok (.ifCond .eq 8, 3) := by decide +kernel
theorem dX3_atom_12 : decode cX3_atom 12 = .ok (.aload_n 0, 1) := by decide +kernel
theorem dX3_atom_13 : decode cX3_atom 13 = .ok (.invokevirtual 165, 3) := by decide +kernel
theorem dX3_atom_16 : decode cX3_atom 16 = .ok (.areturn, 1) := by decide +kernel
theorem dX3_atom_17 : decode cX3_atom 17 = .ok (.iload_n 2, 1) := by decide +kernel
theorem dX3_atom_18 : decode cX3_atom 18 = .ok (.invokestatic 78, 3) := by decide +kernel
theorem dX3_atom_21 : decode cX3_atom 21 = .ok (.ifCond .eq 8, 3) := by decide +kernel
theorem dX3_atom_24 : decode cX3_atom 24 = .ok (.aload_n 0, 1) := by decide +kernel
theorem dX3_atom_25 : decode cX3_atom 25 = .ok (.invokevirtual 169, 3) := by decide +kernel
theorem dX3_atom_28 : decode cX3_atom 28 = .ok (.areturn, 1) := by decide +kernel
theorem dX3_atom_29 : decode cX3_atom 29 = .ok (.iload_n 2, 1) := by decide +kernel
theorem dX3_atom_30 : decode cX3_atom 30 = .ok (.invokestatic 172, 3) := by decide +kernel
theorem dX3_atom_33 : decode cX3_atom 33 = .ok (.ifCond .eq 9, 3) := by decide +kernel
theorem dX3_atom_36 : decode cX3_atom 36 = .ok (.aload_n 0, 1) := by decide +kernel
theorem dX3_atom_37 : decode cX3_atom 37 = .ok (.iload_n 1, 1) := by decide +kernel
theorem dX3_atom_38 : decode cX3_atom 38 = .ok (.invokevirtual 175, 3) := by decide +kernel
theorem dX3_atom_41 : decode cX3_atom 41 = .ok (.areturn, 1) := by decide +kernel
theorem dX3_atom_42 : decode cX3_atom 42 = .ok (.aload_n 0, 1) := by decide +kernel
theorem dX3_atom_43 : decode cX3_atom 43 = .ok (.bipush 40, 2) := by decide +kernel
theorem dX3_atom_45 : decode cX3_atom 45 = .ok (.invokevirtual 120, 3) := by decide +kernel
theorem dX3_atom_48 : decode cX3_atom 48 = .ok (.aload_n 0, 1) := by decide +kernel
theorem dX3_atom_49 : decode cX3_atom 49 = .ok (.iload_n 1, 1) := by decide +kernel
theorem dX3_atom_50 : decode cX3_atom 50 = .ok (.iconst 1, 1) := by decide +kernel
theorem dX3_atom_51 : decode cX3_atom 51 = .ok (.iadd, 1) := by decide +kernel
theorem dX3_atom_52 : decode cX3_atom 52 = .ok (.invokevirtual 35, 3) := by decide +kernel
theorem dX3_atom_55 : decode cX3_atom 55 = .ok (.astore_n 3, 1) := by decide +kernel
theorem dX3_atom_56 : decode cX3_atom 56 = .ok (.aload_n 0, 1) := by decide +kernel
theorem dX3_atom_57 : decode cX3_atom 57 = .ok (.bipush 41, 2) := by decide +kernel
theorem dX3_atom_59 : decode cX3_atom 59 = .ok (.invokevirtual 120, 3) := by decide +kernel
theorem dX3_atom_62 : decode cX3_atom 62 = .ok (.aload_n 3, 1) := by decide +kernel
theorem dX3_atom_63 : decode cX3_atom 63 = .ok (.areturn, 1) := by decide +kernel
theorem dX3_numeral_0 : decode cX3_numeral 0 = .ok (.iconst 0, 1) := by decide +kernel
theorem dX3_numeral_1 : decode cX3_numeral 1 = .ok (.istore_n 1, 1) := by decide +kernel
theorem dX3_numeral_2 : decode cX3_numeral 2 = .ok (.iconst 0, 1) := by decide +kernel
theorem dX3_numeral_3 : decode cX3_numeral 3 = .ok (.istore_n 2, 1) := by decide +kernel
theorem dX3_numeral_4 : decode cX3_numeral 4 = .ok (.iload_n 2, 1) := by decide +kernel
theorem dX3_numeral_5 : decode cX3_numeral 5 = .ok (.iconst 4, 1) := by decide +kernel
theorem dX3_numeral_6 : decode cX3_numeral 6 = .ok (.if_icmp .ge 42, 3) := by decide +kernel
theorem dX3_numeral_9 : decode cX3_numeral 9 = .ok (.aload_n 0, 1) := by decide +kernel
theorem dX3_numeral_10 : decode cX3_numeral 10 = .ok (.invokevirtual 64, 3) := by decide +kernel
theorem dX3_numeral_13 : decode cX3_numeral 13 = .ok (.invokestatic 162, 3) := by decide +kernel
theorem dX3_numeral_16 : decode cX3_numeral 16 = .ok (.ifCond .eq 32, 3) := by decide +kernel
theorem dX3_numeral_19 : decode cX3_numeral 19 = .ok (.bipush 10, 2) := by decide +kernel
theorem dX3_numeral_21 : decode cX3_numeral 21 = .ok (.iload_n 1, 1) := by decide +kernel
theorem dX3_numeral_22 : decode cX3_numeral 22 = .ok (.imul, 1) := by decide +kernel
theorem dX3_numeral_23 : decode cX3_numeral 23 = .ok (.aload_n 0, 1) := by decide +kernel
theorem dX3_numeral_24 : decode cX3_numeral 24 = .ok (.invokevirtual 64, 3) := by decide +kernel
theorem dX3_numeral_27 : decode cX3_numeral 27 = .ok (.bipush 48, 2) := by decide +kernel
theorem dX3_numeral_29 : decode cX3_numeral 29 = .ok (.isub, 1) := by decide +kernel
theorem dX3_numeral_30 : decode cX3_numeral 30 = .ok (.iadd, 1) := by decide +kernel
theorem dX3_numeral_31 : decode cX3_numeral 31 = .ok (.istore_n 1, 1) := by decide +kernel
theorem dX3_numeral_32 : decode cX3_numeral 32 = .ok (.aload_n 0, 1) := by decide +kernel
theorem dX3_numeral_33 : decode cX3_numeral 33 = .ok (.dup, 1) := by decide +kernel
theorem dX3_numeral_34 : decode cX3_numeral 34 = .ok (.getfield 19, 3) := by decide +kernel
theorem dX3_numeral_37 : decode cX3_numeral 37 = .ok (.iconst 1, 1) := by decide +kernel
theorem dX3_numeral_38 : decode cX3_numeral 38 = .ok (.iadd, 1) := by decide +kernel
theorem dX3_numeral_39 : decode cX3_numeral 39 = .ok (.putfield 19, 3) := by decide +kernel
theorem dX3_numeral_42 : decode cX3_numeral 42 = .ok (.iinc 2 1, 3) := by decide +kernel
theorem dX3_numeral_45 : decode cX3_numeral 45 = .ok (.goto (-41), 3) := by decide +kernel
theorem dX3_numeral_48 : decode cX3_numeral 48 = .ok (.iconst 1, 1) := by decide +kernel
theorem dX3_numeral_49 : decode cX3_numeral 49 = .ok (.iload_n 1, 1) := by decide +kernel
theorem dX3_numeral_50 : decode cX3_numeral 50 = .ok (.invokestatic 178, 3) := by decide +kernel
theorem dX3_numeral_53 : decode cX3_numeral 53 = .ok (.areturn, 1) := by decide +kernel
theorem dX3_access_0 : decode cX3_access 0 = .ok (.aload_n 0, 1) := by decide +kernel
theorem dX3_access_1 : decode cX3_access 1 = .ok (.aload_n 0, 1) := by decide +kernel
theorem dX3_access_2 : decode cX3_access 2 = .ok (.invokevirtual 64, 3) := by decide +kernel
theorem dX3_access_5 : decode cX3_access 5 = .ok (.invokevirtual 139, 3) := by decide +kernel
theorem dX3_access_8 : decode cX3_access 8 = .ok (.istore_n 1, 1) := by decide +kernel
theorem dX3_access_9 : decode cX3_access 9 = .ok (.iload_n 1, 1) := by decide +kernel
theorem dX3_access_10 : decode cX3_access 10 = .ok (.iconst (-1), 1) := by decide +kernel
theorem dX3_access_11 : decode cX3_access 11 = .ok (.if_icmp .ne 7, 3) := by decide +kernel
theorem dX3_access_14 : decode cX3_access 14 = .ok (.aload_n 0, 1) := by decide +kernel
theorem dX3_access_15 : decode cX3_access 15 = .ok (.invokevirtual 39, 3) := by decide +kernel
theorem dX3_access_18 : decode cX3_access 18 = .ok (.aload_n 0, 1) := by decide +kernel
theorem dX3_access_19 : decode cX3_access 19 = .ok (.dup, 1) := by decide +kernel
theorem dX3_access_20 : decode cX3_access 20 = .ok (.getfield 19, 3) := by decide +kernel
theorem dX3_access_23 : decode cX3_access 23 = .ok (.iconst 1, 1) := by decide +kernel
theorem dX3_access_24 : decode cX3_access 24 = .ok (.iadd, 1) := by decide +kernel
theorem dX3_access_25 : decode cX3_access 25 = .ok (.putfield 19, 3) := by decide +kernel
theorem dX3_access_28 : decode cX3_access 28 = .ok (.iconst 2, 1) := by decide +kernel
theorem dX3_access_29 : decode cX3_access 29 = .ok (.iload_n 1, 1) := by decide +kernel
theorem dX3_access_30 : decode cX3_access 30 = .ok (.invokestatic 178, 3) := by decide +kernel
theorem dX3_access_33 : decode cX3_access 33 = .ok (.areturn, 1) := by decide +kernel
theorem dX3_construction_0 : decode cX3_construction 0 = .ok (.aload_n 0, 1) := by decide +kernel
theorem dX3_construction_1 : decode cX3_construction 1 = .ok (.iconst 0, 1) := by decide +kernel
theorem dX3_construction_2 : decode cX3_construction 2 = .ok (.invokevirtual 125, 3) := by decide +kernel
theorem dX3_construction_5 : decode cX3_construction 5 = .ok (.istore_n 2, 1) := by decide +kernel
theorem dX3_construction_6 : decode cX3_construction 6 = .ok (.iload_n 2, 1) := by decide +kernel
theorem dX3_construction_7 : decode cX3_construction 7 = .ok (.invokestatic 136, 3) := by decide +kernel
theorem dX3_construction_10 : decode cX3_construction 10 = .ok (.istore_n 3, 1) := by decide +kernel
theorem dX3_construction_11 : decode cX3_construction 11 = .ok (.iload_n 3, 1) := by decide +kernel
theorem dX3_construction_12 : decode cX3_construction 12 = .ok (.ifCond .ne 10, 3) := by decide +kernel
theorem dX3_construction_15 : decode cX3_construction 15 = .ok (.bipush 16, 2) := by decide +kernel
theorem dX3_construction_17 : decode cX3_construction 17 = .ok (.iload_n 2, 1) := by decide +kernel
theorem dX3_construction_18 : decode cX3_construction 18 = .ok (.invokestatic 178, 3) := by decide +kernel
theorem dX3_construction_21 : decode cX3_construction 21 = .ok (.areturn, 1) := by decide +kernel
theorem dX3_construction_22 : decode cX3_construction 22 = .ok (.new 43, 3) := by decide +kernel
theorem dX3_construction_25 : decode cX3_construction 25 = .ok (.dup, 1) := by decide +kernel
theorem dX3_construction_26 : decode cX3_construction 26 = .ok (.invokespecial 55, 3) := by decide +kernel
theorem dX3_construction_29 : decode cX3_construction 29 = .ok (.astore 4, 2) := by decide +kernel
theorem dX3_construction_31 : decode cX3_construction 31 = .ok (.iconst 0, 1) := by decide +kernel
theorem dX3_construction_32 : decode cX3_construction 32 = .ok (.istore 5, 2) := by decide +kernel
theorem dX3_construction_34 : decode cX3_construction 34 = .ok (.iload 5, 2) := by decide +kernel
theorem dX3_construction_36 : decode cX3_construction 36 = .ok (.iload_n 3, 1) := by decide +kernel
theorem dX3_construction_37 : decode cX3_construction 37 = .ok (.if_icmp .ge 49, 3) := by decide +kernel
theorem dX3_construction_40 : decode cX3_construction 40 = .ok (.iload 5, 2) := by decide +kernel
theorem dX3_construction_42 : decode cX3_construction 42 = .ok (.ifCond .le 10, 3) := by decide +kernel
theorem dX3_construction_45 : decode cX3_construction 45 = .ok (.aload 4, 2) := by decide +kernel
theorem dX3_construction_47 : decode cX3_construction 47 = .ok (.iconst 3, 1) := by decide +kernel
theorem dX3_construction_48 : decode cX3_construction 48 = .ok (.iconst 0, 1) := by decide +kernel
theorem dX3_construction_49 : decode cX3_construction 49 = .ok (.invokevirtual 42, 3) := by decide +kernel
theorem dX3_construction_52 : decode cX3_construction 52 = .ok (.aload_n 0, 1) := by decide +kernel
theorem dX3_construction_53 : decode cX3_construction 53 = .ok (.iload 5, 2) := by decide +kernel
theorem dX3_construction_55 : decode cX3_construction 55 = .ok (.ifCond .ne 8, 3) := by decide +kernel
theorem dX3_construction_58 : decode cX3_construction 58 = .ok (.bipush 40, 2) := by decide +kernel
theorem dX3_construction_60 : decode cX3_construction 60 = .ok (.goto 5, 3) := by decide +kernel
theorem dX3_construction_63 : decode cX3_construction 63 = .ok (.bipush 44, 2) := by decide +kernel
theorem dX3_construction_65 : decode cX3_construction 65 = .ok (.invokevirtual 120, 3) := by decide +kernel
theorem dX3_construction_68 : decode cX3_construction 68 = .ok (.aload 4, 2) := by decide +kernel
theorem dX3_construction_70 : decode cX3_construction 70 = .ok (.aload_n 0, 1) := by decide +kernel
theorem dX3_construction_71 : decode cX3_construction 71 = .ok (.iload_n 1, 1) := by decide +kernel
theorem dX3_construction_72 : decode cX3_construction 72 = .ok (.iconst 1, 1) := by decide +kernel
theorem dX3_construction_73 : decode cX3_construction 73 = .ok (.iadd, 1) := by decide +kernel
theorem dX3_construction_74 : decode cX3_construction 74 = .ok (.invokevirtual 35, 3) := by decide +kernel
theorem dX3_construction_77 : decode cX3_construction 77 = .ok (.invokevirtual 74, 3) := by decide +kernel
theorem dX3_construction_80 : decode cX3_construction 80 = .ok (.iinc 5 1, 3) := by decide +kernel
theorem dX3_construction_83 : decode cX3_construction 83 = .ok (.goto (-49), 3) := by decide +kernel
theorem dX3_construction_86 : decode cX3_construction 86 = .ok (.aload_n 0, 1) := by decide +kernel
theorem dX3_construction_87 : decode cX3_construction 87 = .ok (.bipush 41, 2) := by decide +kernel
theorem dX3_construction_89 : decode cX3_construction 89 = .ok (.invokevirtual 120, 3) := by decide +kernel
theorem dX3_construction_92 : decode cX3_construction 92 = .ok (.aload 4, 2) := by decide +kernel
theorem dX3_construction_94 : decode cX3_construction 94 = .ok (.bipush 17, 2) := by decide +kernel
theorem dX3_construction_96 : decode cX3_construction 96 = .ok (.iload_n 2, 1) := by decide +kernel
theorem dX3_construction_97 : decode cX3_construction 97 = .ok (.invokevirtual 42, 3) := by decide +kernel
theorem dX3_construction_100 : decode cX3_construction 100 = .ok (.aload 4, 2) := by decide +kernel
theorem dX3_construction_102 : decode cX3_construction 102 = .ok (.areturn, 1) := by decide +kernel
theorem dX3_rowOf_0 : decode cX3_rowOf 0 = .ok (.new 43, 3) := by decide +kernel
theorem dX3_rowOf_3 : decode cX3_rowOf 3 = .ok (.dup, 1) := by decide +kernel
theorem dX3_rowOf_4 : decode cX3_rowOf 4 = .ok (.invokespecial 55, 3) := by decide +kernel
theorem dX3_rowOf_7 : decode cX3_rowOf 7 = .ok (.astore_n 2, 1) := by decide +kernel
theorem dX3_rowOf_8 : decode cX3_rowOf 8 = .ok (.aload_n 2, 1) := by decide +kernel
theorem dX3_rowOf_9 : decode cX3_rowOf 9 = .ok (.iload_n 0, 1) := by decide +kernel
theorem dX3_rowOf_10 : decode cX3_rowOf 10 = .ok (.iload_n 1, 1) := by decide +kernel
theorem dX3_rowOf_11 : decode cX3_rowOf 11 = .ok (.invokevirtual 42, 3) := by decide +kernel
theorem dX3_rowOf_14 : decode cX3_rowOf 14 = .ok (.aload_n 2, 1) := by decide +kernel
theorem dX3_rowOf_15 : decode cX3_rowOf 15 = .ok (.areturn, 1) := by decide +kernel
theorem dX3_label_0 : decode cX3_label 0 = .ok (.new 115, 3) := by decide +kernel
theorem dX3_label_3 : decode cX3_label 3 = .ok (.dup, 1) := by decide +kernel
theorem dX3_label_4 : decode cX3_label 4 = .ok (.bipush 21, 2) := by decide +kernel
theorem dX3_label_6 : decode cX3_label 6 = .ok (.iconst 0, 1) := by decide +kernel
theorem dX3_label_7 : decode cX3_label 7 = .ok (.aconst_null, 1) := by decide +kernel
theorem dX3_label_8 : decode cX3_label 8 = .ok (.invokespecial 117, 3) := by decide +kernel
theorem dX3_label_11 : decode cX3_label 11 = .ok (.areturn, 1) := by decide +kernel
theorem dX3_peek_0 : decode cX3_peek 0 = .ok (.aload_n 0, 1) := by decide +kernel
theorem dX3_peek_1 : decode cX3_peek 1 = .ok (.aload_n 0, 1) := by decide +kernel
theorem dX3_peek_2 : decode cX3_peek 2 = .ok (.getfield 19, 3) := by decide +kernel
theorem dX3_peek_5 : decode cX3_peek 5 = .ok (.invokevirtual 82, 3) := by decide +kernel
theorem dX3_peek_8 : decode cX3_peek 8 = .ok (.ireturn, 1) := by decide +kernel
theorem dX3_characterAt_0 : decode cX3_characterAt 0 = .ok (.iload_n 1, 1) := by decide +kernel
theorem dX3_characterAt_1 : decode cX3_characterAt 1 = .ok (.ifCond .lt 29, 3) := by decide +kernel
theorem dX3_characterAt_4 : decode cX3_characterAt 4 = .ok (.iload_n 1, 1) := by decide +kernel
theorem dX3_characterAt_5 : decode cX3_characterAt 5 = .ok (.aload_n 0, 1) := by decide +kernel
theorem dX3_characterAt_6 : decode cX3_characterAt 6 = .ok (.getfield 15, 3) := by decide +kernel
theorem dX3_characterAt_9 : decode cX3_characterAt 9 = .ok (.if_icmp .ge 21, 3) := by decide +kernel
theorem dX3_characterAt_12 : decode cX3_characterAt 12 = .ok (.iload_n 1, 1) := by decide +kernel
theorem dX3_characterAt_13 : decode cX3_characterAt 13 = .ok (.aload_n 0, 1) := by decide +kernel
theorem dX3_characterAt_14 : decode cX3_characterAt 14 = .ok (.getfield 9, 3) := by decide +kernel
theorem dX3_characterAt_17 : decode cX3_characterAt 17 = .ok (.arraylength, 1) := by decide +kernel
theorem dX3_characterAt_18 : decode cX3_characterAt 18 = .ok (.if_icmp .ge 12, 3) := by decide +kernel
theorem dX3_characterAt_21 : decode cX3_characterAt 21 = .ok (.aload_n 0, 1) := by decide +kernel
theorem dX3_characterAt_22 : decode cX3_characterAt 22 = .ok (.getfield 9, 3) := by decide +kernel
theorem dX3_characterAt_25 : decode cX3_characterAt 25 = .ok (.iload_n 1, 1) := by decide +kernel
theorem dX3_characterAt_26 : decode cX3_characterAt 26 = .ok (.caload, 1) := by decide +kernel
theorem dX3_characterAt_27 : decode cX3_characterAt 27 = .ok (.goto 4, 3) := by decide +kernel
theorem dX3_characterAt_30 : decode cX3_characterAt 30 = .ok (.iconst 0, 1) := by decide +kernel
theorem dX3_characterAt_31 : decode cX3_characterAt 31 = .ok (.ireturn, 1) := by decide +kernel
theorem dX3_expect_0 : decode cX3_expect 0 = .ok (.aload_n 0, 1) := by decide +kernel
theorem dX3_expect_1 : decode cX3_expect 1 = .ok (.invokevirtual 64, 3) := by decide +kernel
theorem dX3_expect_4 : decode cX3_expect 4 = .ok (.iload_n 1, 1) := by decide +kernel
theorem dX3_expect_5 : decode cX3_expect 5 = .ok (.if_icmp .eq 7, 3) := by decide +kernel
theorem dX3_expect_8 : decode cX3_expect 8 = .ok (.aload_n 0, 1) := by decide +kernel
theorem dX3_expect_9 : decode cX3_expect 9 = .ok (.invokevirtual 39, 3) := by decide +kernel
theorem dX3_expect_12 : decode cX3_expect 12 = .ok (.aload_n 0, 1) := by decide +kernel
theorem dX3_expect_13 : decode cX3_expect 13 = .ok (.dup, 1) := by decide +kernel
theorem dX3_expect_14 : decode cX3_expect 14 = .ok (.getfield 19, 3) := by decide +kernel
theorem dX3_expect_17 : decode cX3_expect 17 = .ok (.iconst 1, 1) := by decide +kernel
theorem dX3_expect_18 : decode cX3_expect 18 = .ok (.iadd, 1) := by decide +kernel
theorem dX3_expect_19 : decode cX3_expect 19 = .ok (.putfield 19, 3) := by decide +kernel
theorem dX3_expect_22 : decode cX3_expect 22 = .ok (.return_, 1) := by decide +kernel
theorem dX3_takeName_0 : decode cX3_takeName 0 = .ok (.aload_n 0, 1) := by decide +kernel
theorem dX3_takeName_1 : decode cX3_takeName 1 = .ok (.invokevirtual 64, 3) := by decide +kernel
theorem dX3_takeName_4 : decode cX3_takeName 4 = .ok (.istore_n 1, 1) := by decide +kernel
theorem dX3_takeName_5 : decode cX3_takeName 5 = .ok (.iload_n 1, 1) := by decide +kernel
theorem dX3_takeName_6 : decode cX3_takeName 6 = .ok (.invokestatic 78, 3) := by decide +kernel
theorem dX3_takeName_9 : decode cX3_takeName 9 = .ok (.ifCond .ne 7, 3) := by decide +kernel
theorem dX3_takeName_12 : decode cX3_takeName 12 = .ok (.aload_n 0, 1) := by decide +kernel
theorem dX3_takeName_13 : decode cX3_takeName 13 = .ok (.invokevirtual 39, 3) := by decide +kernel
theorem dX3_takeName_16 : decode cX3_takeName 16 = .ok (.aload_n 0, 1) := by decide +kernel
theorem dX3_takeName_17 : decode cX3_takeName 17 = .ok (.dup, 1) := by decide +kernel
theorem dX3_takeName_18 : decode cX3_takeName 18 = .ok (.getfield 19, 3) := by decide +kernel
theorem dX3_takeName_21 : decode cX3_takeName 21 = .ok (.iconst 1, 1) := by decide +kernel
theorem dX3_takeName_22 : decode cX3_takeName 22 = .ok (.iadd, 1) := by decide +kernel
theorem dX3_takeName_23 : decode cX3_takeName 23 = .ok (.putfield 19, 3) := by decide +kernel
theorem dX3_takeName_26 : decode cX3_takeName 26 = .ok (.iload_n 1, 1) := by decide +kernel
theorem dX3_takeName_27 : decode cX3_takeName 27 = .ok (.ireturn, 1) := by decide +kernel
theorem dX3_takeTagNotIn_0 : decode cX3_takeTagNotIn 0 = .ok (.aload_n 0, 1) := by decide +kernel
theorem dX3_takeTagNotIn_1 : decode cX3_takeTagNotIn 1 = .ok (.invokevirtual 64, 3) := by decide +kernel
theorem dX3_takeTagNotIn_4 : decode cX3_takeTagNotIn 4 = .ok (.istore_n 2, 1) := by decide +kernel
theorem dX3_takeTagNotIn_5 : decode cX3_takeTagNotIn 5 = .ok (.iload_n 2, 1) := by decide +kernel
theorem dX3_takeTagNotIn_6 : decode cX3_takeTagNotIn 6 = .ok (.bipush 65, 2) := by decide +kernel
theorem dX3_takeTagNotIn_8 : decode cX3_takeTagNotIn 8 = .ok (.isub, 1) := by decide +kernel
theorem dX3_takeTagNotIn_9 : decode cX3_takeTagNotIn 9 = .ok (.istore_n 3, 1) := by decide +kernel
theorem dX3_takeTagNotIn_10 : decode cX3_takeTagNotIn 10 = .ok (.iload_n 2, 1) := by decide +kernel
theorem dX3_takeTagNotIn_11 : decode cX3_takeTagNotIn 11 = .ok (.invokestatic 172, 3) := by decide +kernel
theorem dX3_takeTagNotIn_14 : decode cX3_takeTagNotIn 14 = .ok (.ifCond .eq 12, 3) := by decide +kernel
theorem dX3_takeTagNotIn_17 : decode cX3_takeTagNotIn 17 = .ok (.iload_n 1, 1) := by decide +kernel
theorem dX3_takeTagNotIn_18 : decode cX3_takeTagNotIn 18 = .ok (.iload_n 3, 1) := by decide +kernel
theorem dX3_takeTagNotIn_19 : decode cX3_takeTagNotIn 19 = .ok (.ishr, 1) := by decide +kernel
theorem dX3_takeTagNotIn_20 : decode cX3_takeTagNotIn 20 = .ok (.iconst 1, 1) := by decide +kernel
theorem dX3_takeTagNotIn_21 : decode cX3_takeTagNotIn 21 = .ok (.iand, 1) := by decide +kernel
theorem dX3_takeTagNotIn_22 : decode cX3_takeTagNotIn 22 = .ok (.iconst 1, 1) := by decide +kernel
theorem dX3_takeTagNotIn_23 : decode cX3_takeTagNotIn 23 = .ok (.if_icmp .ne 7, 3) := by decide +kernel
theorem dX3_takeTagNotIn_26 : decode cX3_takeTagNotIn 26 = .ok (.aload_n 0, 1) := by decide +kernel
theorem dX3_takeTagNotIn_27 : decode cX3_takeTagNotIn 27 = .ok (.invokevirtual 39, 3) := by decide +kernel
theorem dX3_takeTagNotIn_30 : decode cX3_takeTagNotIn 30 = .ok (.aload_n 0, 1) := by decide +kernel
theorem dX3_takeTagNotIn_31 : decode cX3_takeTagNotIn 31 = .ok (.dup, 1) := by decide +kernel
theorem dX3_takeTagNotIn_32 : decode cX3_takeTagNotIn 32 = .ok (.getfield 19, 3) := by decide +kernel
theorem dX3_takeTagNotIn_35 : decode cX3_takeTagNotIn 35 = .ok (.iconst 1, 1) := by decide +kernel
theorem dX3_takeTagNotIn_36 : decode cX3_takeTagNotIn 36 = .ok (.iadd, 1) := by decide +kernel
theorem dX3_takeTagNotIn_37 : decode cX3_takeTagNotIn 37 = .ok (.putfield 19, 3) := by decide +kernel
theorem dX3_takeTagNotIn_40 : decode cX3_takeTagNotIn 40 = .ok (.iload_n 3, 1) := by decide +kernel
theorem dX3_takeTagNotIn_41 : decode cX3_takeTagNotIn 41 = .ok (.ireturn, 1) := by decide +kernel
theorem dX3_bind_0 : decode cX3_bind 0 = .ok (.aload_n 0, 1) := by decide +kernel
theorem dX3_bind_1 : decode cX3_bind 1 = .ok (.getfield 25, 3) := by decide +kernel
theorem dX3_bind_4 : decode cX3_bind 4 = .ok (.aload_n 0, 1) := by decide +kernel
theorem dX3_bind_5 : decode cX3_bind 5 = .ok (.getfield 22, 3) := by decide +kernel
theorem dX3_bind_8 : decode cX3_bind 8 = .ok (.arraylength, 1) := by decide +kernel
theorem dX3_bind_9 : decode cX3_bind 9 = .ok (.if_icmp .ge 23, 3) := by decide +kernel
theorem dX3_bind_12 : decode cX3_bind 12 = .ok (.aload_n 0, 1) := by decide +kernel
theorem dX3_bind_13 : decode cX3_bind 13 = .ok (.getfield 22, 3) := by decide +kernel
theorem dX3_bind_16 : decode cX3_bind 16 = .ok (.aload_n 0, 1) := by decide +kernel
theorem dX3_bind_17 : decode cX3_bind 17 = .ok (.getfield 25, 3) := by decide +kernel
theorem dX3_bind_20 : decode cX3_bind 20 = .ok (.iload_n 1, 1) := by decide +kernel
theorem dX3_bind_21 : decode cX3_bind 21 = .ok (.castore, 1) := by decide +kernel
theorem dX3_bind_22 : decode cX3_bind 22 = .ok (.aload_n 0, 1) := by decide +kernel
theorem dX3_bind_23 : decode cX3_bind 23 = .ok (.dup, 1) := by decide +kernel
theorem dX3_bind_24 : decode cX3_bind 24 = .ok (.getfield 25, 3) := by decide +kernel
theorem dX3_bind_27 : decode cX3_bind 27 = .ok (.iconst 1, 1) := by decide +kernel
theorem dX3_bind_28 : decode cX3_bind 28 = .ok (.iadd, 1) := by decide +kernel
theorem dX3_bind_29 : decode cX3_bind 29 = .ok (.putfield 25, 3) := by decide +kernel
theorem dX3_bind_32 : decode cX3_bind 32 = .ok (.return_, 1) := by decide +kernel
theorem dX3_furtherOn_0 : decode cX3_furtherOn 0 = .ok (.aload_n 0, 1) := by decide +kernel
theorem dX3_furtherOn_1 : decode cX3_furtherOn 1 = .ok (.getfield 25, 3) := by decide +kernel
theorem dX3_furtherOn_4 : decode cX3_furtherOn 4 = .ok (.iconst 1, 1) := by decide +kernel
theorem dX3_furtherOn_5 : decode cX3_furtherOn 5 = .ok (.isub, 1) := by decide +kernel
theorem dX3_furtherOn_6 : decode cX3_furtherOn 6 = .ok (.istore_n 2, 1) := by decide +kernel
theorem dX3_furtherOn_7 : decode cX3_furtherOn 7 = .ok (.iload_n 2, 1) := by decide +kernel
theorem dX3_furtherOn_8 : decode cX3_furtherOn 8 = .ok (.ifCond .lt 37, 3) := by decide +kernel
theorem dX3_furtherOn_11 : decode cX3_furtherOn 11 = .ok (.iload_n 2, 1) := by decide +kernel
theorem dX3_furtherOn_12 : decode cX3_furtherOn 12 = .ok (.aload_n 0, 1) := by decide +kernel
theorem dX3_furtherOn_13 : decode cX3_furtherOn 13 = .ok (.getfield 22, 3) := by decide +kernel
theorem dX3_furtherOn_16 : decode cX3_furtherOn 16 = .ok (.arraylength, 1) := by decide +kernel
theorem dX3_furtherOn_17 : decode cX3_furtherOn 17 = .ok (.if_icmp .ge 28, 3) := by decide +kernel
theorem dX3_furtherOn_20 : decode cX3_furtherOn 20 = .ok (.aload_n 0, 1) := by decide +kernel
theorem dX3_furtherOn_21 : decode cX3_furtherOn 21 = .ok (.getfield 22, 3) := by decide +kernel
theorem dX3_furtherOn_24 : decode cX3_furtherOn 24 = .ok (.iload_n 2, 1) := by decide +kernel
theorem dX3_furtherOn_25 : decode cX3_furtherOn 25 = .ok (.caload, 1) := by decide +kernel
theorem dX3_furtherOn_26 : decode cX3_furtherOn 26 = .ok (.iload_n 1, 1) := by decide +kernel
theorem dX3_furtherOn_27 : decode cX3_furtherOn 27 = .ok (.if_icmp .ne 12, 3) := by decide +kernel
theorem dX3_furtherOn_30 : decode cX3_furtherOn 30 = .ok (.aload_n 0, 1) := by decide +kernel
theorem dX3_furtherOn_31 : decode cX3_furtherOn 31 = .ok (.getfield 25, 3) := by decide +kernel
theorem dX3_furtherOn_34 : decode cX3_furtherOn 34 = .ok (.iconst 1, 1) := by decide +kernel
theorem dX3_furtherOn_35 : decode cX3_furtherOn 35 = .ok (.isub, 1) := by decide +kernel
theorem dX3_furtherOn_36 : decode cX3_furtherOn 36 = .ok (.iload_n 2, 1) := by decide +kernel
theorem dX3_furtherOn_37 : decode cX3_furtherOn 37 = .ok (.isub, 1) := by decide +kernel
theorem dX3_furtherOn_38 : decode cX3_furtherOn 38 = .ok (.ireturn, 1) := by decide +kernel
theorem dX3_furtherOn_39 : decode cX3_furtherOn 39 = .ok (.iinc 2 (-1), 3) := by decide +kernel
theorem dX3_furtherOn_42 : decode cX3_furtherOn 42 = .ok (.goto (-35), 3) := by decide +kernel
theorem dX3_furtherOn_45 : decode cX3_furtherOn 45 = .ok (.iconst (-1), 1) := by decide +kernel
theorem dX3_furtherOn_46 : decode cX3_furtherOn 46 = .ok (.ireturn, 1) := by decide +kernel
theorem dX3_beginsAtom_0 : decode cX3_beginsAtom 0 = .ok (.iload_n 0, 1) := by decide +kernel
theorem dX3_beginsAtom_1 : decode cX3_beginsAtom 1 = .ok (.invokestatic 162, 3) := by decide +kernel
theorem dX3_beginsAtom_4 : decode cX3_beginsAtom 4 = .ok (.ifCond .ne 23, 3) := by decide +kernel
theorem dX3_beginsAtom_7 : decode cX3_beginsAtom 7 = .ok (.iload_n 0, 1) := by decide +kernel
theorem dX3_beginsAtom_8 : decode cX3_beginsAtom 8 = .ok (.invokestatic 78, 3) := by decide +kernel
theorem dX3_beginsAtom_11 : decode cX3_beginsAtom 11 = .ok (.ifCond .ne 16, 3) := by decide +kernel
theorem dX3_beginsAtom_14 : decode cX3_beginsAtom 14 = .ok (.iload_n 0, 1) := by decide +kernel
theorem dX3_beginsAtom_15 : decode cX3_beginsAtom 15 = .ok (.invokestatic 172, 3) := by decide +kernel
theorem dX3_beginsAtom_18 : decode cX3_beginsAtom 18 = .ok (.ifCond .ne 9, 3) := by decide +kernel
theorem dX3_beginsAtom_21 : decode cX3_beginsAtom 21 = .ok (.iload_n 0, 1) := by decide +kernel
theorem dX3_beginsAtom_22 : decode cX3_beginsAtom 22 = .ok (.bipush 40, 2) := by decide +kernel
theorem dX3_beginsAtom_24 : decode cX3_beginsAtom 24 = .ok (.if_icmp .ne 7, 3) := by decide +kernel
theorem dX3_beginsAtom_27 : decode cX3_beginsAtom 27 = .ok (.iconst 1, 1) := by decide +kernel
theorem dX3_beginsAtom_28 : decode cX3_beginsAtom 28 = .ok (.goto 4, 3) := by decide +kernel
theorem dX3_beginsAtom_31 : decode cX3_beginsAtom 31 = .ok (.iconst 0, 1) := by decide +kernel
theorem dX3_beginsAtom_32 : decode cX3_beginsAtom 32 = .ok (.ireturn, 1) := by decide +kernel
theorem dX3_isDigit_0 : decode cX3_isDigit 0 = .ok (.iload_n 0, 1) := by decide +kernel
theorem dX3_isDigit_1 : decode cX3_isDigit 1 = .ok (.bipush 48, 2) := by decide +kernel
theorem dX3_isDigit_3 : decode cX3_isDigit 3 = .ok (.if_icmp .lt 13, 3) := by decide +kernel
theorem dX3_isDigit_6 : decode cX3_isDigit 6 = .ok (.iload_n 0, 1) := by decide +kernel
theorem dX3_isDigit_7 : decode cX3_isDigit 7 = .ok (.bipush 57, 2) := by decide +kernel
theorem dX3_isDigit_9 : decode cX3_isDigit 9 = .ok (.if_icmp .gt 7, 3) := by decide +kernel
theorem dX3_isDigit_12 : decode cX3_isDigit 12 = .ok (.iconst 1, 1) := by decide +kernel
theorem dX3_isDigit_13 : decode cX3_isDigit 13 = .ok (.goto 4, 3) := by decide +kernel
theorem dX3_isDigit_16 : decode cX3_isDigit 16 = .ok (.iconst 0, 1) := by decide +kernel
theorem dX3_isDigit_17 : decode cX3_isDigit 17 = .ok (.ireturn, 1) := by decide +kernel
theorem dX3_isName_0 : decode cX3_isName 0 = .ok (.iload_n 0, 1) := by decide +kernel
theorem dX3_isName_1 : decode cX3_isName 1 = .ok (.bipush 97, 2) := by decide +kernel
theorem dX3_isName_3 : decode cX3_isName 3 = .ok (.if_icmp .lt 13, 3) := by decide +kernel
theorem dX3_isName_6 : decode cX3_isName 6 = .ok (.iload_n 0, 1) := by decide +kernel
theorem dX3_isName_7 : decode cX3_isName 7 = .ok (.bipush 122, 2) := by decide +kernel
theorem dX3_isName_9 : decode cX3_isName 9 = .ok (.if_icmp .gt 7, 3) := by decide +kernel
theorem dX3_isName_12 : decode cX3_isName 12 = .ok (.iconst 1, 1) := by decide +kernel
theorem dX3_isName_13 : decode cX3_isName 13 = .ok (.goto 4, 3) := by decide +kernel
theorem dX3_isName_16 : decode cX3_isName 16 = .ok (.iconst 0, 1) := by decide +kernel
theorem dX3_isName_17 : decode cX3_isName 17 = .ok (.ireturn, 1) := by decide +kernel
theorem dX3_isConstructor_0 : decode cX3_isConstructor 0 = .ok (.iload_n 0, 1) := by decide +kernel
theorem dX3_isConstructor_1 : decode cX3_isConstructor 1 = .ok (.bipush 65, 2) := by decide +kernel
theorem dX3_isConstructor_3 : decode cX3_isConstructor 3 = .ok (.if_icmp .lt 13, 3) := by decide +kernel
theorem dX3_isConstructor_6 : decode cX3_isConstructor 6 = .ok (.iload_n 0, 1) := by decide +kernel
theorem dX3_isConstructor_7 : decode cX3_isConstructor 7 = .ok (.bipush 73, 2) := by decide +kernel
theorem dX3_isConstructor_9 : decode cX3_isConstructor 9 = .ok (.if_icmp .ge 7, 3) := by decide +kernel
theorem dX3_isConstructor_12 : decode cX3_isConstructor 12 = .ok (.iconst 1, 1) := by decide +kernel
theorem dX3_isConstructor_13 : decode cX3_isConstructor 13 = .ok (.goto 4, 3) := by decide +kernel
theorem dX3_isConstructor_16 : decode cX3_isConstructor 16 = .ok (.iconst 0, 1) := by decide +kernel
theorem dX3_isConstructor_17 : decode cX3_isConstructor 17 = .ok (.ireturn, 1) := by decide +kernel
theorem dX4_init_0 : decode cX4_init 0 = .ok (.aload_n 0, 1) := by decide +kernel
theorem dX4_init_1 : decode cX4_init 1 = .ok (.invokespecial 3, 3) := by decide +kernel
theorem dX4_init_4 : decode cX4_init 4 = .ok (.aload_n 0, 1) := by decide +kernel
theorem dX4_init_5 : decode cX4_init 5 = .ok (.aconst_null, 1) := by decide +kernel
theorem dX4_init_6 : decode cX4_init 6 = .ok (.putfield 9, 3) := by decide +kernel
theorem dX4_init_9 : decode cX4_init 9 = .ok (.aload_n 0, 1) := by decide +kernel
theorem dX4_init_10 : decode cX4_init 10 = .ok (.aconst_null, 1) := by decide +kernel
theorem dX4_init_11 : decode cX4_init 11 = .ok (.putfield 15, 3) := by decide +kernel
theorem dX4_init_14 : decode cX4_init 14 = .ok (.return_, 1) := by decide +kernel
theorem dX4_add_0 : decode cX4_add 0 = .ok (.aload_n 0, 1) := by decide +kernel
theorem dX4_add_1 : decode cX4_add 1 = .ok (.getfield 15, 3) := by decide +kernel
theorem dX4_add_4 : decode cX4_add 4 = .ok (.ifnonnull 11, 3) := by decide +kernel
theorem dX4_add_7 : decode cX4_add 7 = .ok (.aload_n 0, 1) := by decide +kernel
theorem dX4_add_8 : decode cX4_add 8 = .ok (.aload_n 1, 1) := by decide +kernel
theorem dX4_add_9 : decode cX4_add 9 = .ok (.putfield 9, 3) := by decide +kernel
theorem dX4_add_12 : decode cX4_add 12 = .ok (.goto 11, 3) := by decide +kernel
theorem dX4_add_15 : decode cX4_add 15 = .ok (.aload_n 0, 1) := by decide +kernel
theorem dX4_add_16 : decode cX4_add 16 = .ok (.getfield 15, 3) := by decide +kernel
theorem dX4_add_19 : decode cX4_add 19 = .ok (.aload_n 1, 1) := by decide +kernel
theorem dX4_add_20 : decode cX4_add 20 = .ok (.putfield 18, 3) := by decide +kernel
theorem dX4_add_23 : decode cX4_add 23 = .ok (.aload_n 0, 1) := by decide +kernel
theorem dX4_add_24 : decode cX4_add 24 = .ok (.aload_n 1, 1) := by decide +kernel
theorem dX4_add_25 : decode cX4_add 25 = .ok (.putfield 15, 3) := by decide +kernel
theorem dX4_add_28 : decode cX4_add 28 = .ok (.return_, 1) := by decide +kernel
theorem dX4_add__0 : decode cX4_add_ 0 = .ok (.aload_n 0, 1) := by decide +kernel
theorem dX4_add__1 : decode cX4_add_ 1 = .ok (.new 19, 3) := by decide +kernel
theorem dX4_add__4 : decode cX4_add_ 4 = .ok (.dup, 1) := by decide +kernel
theorem dX4_add__5 : decode cX4_add_ 5 = .ok (.iload_n 1, 1) := by decide +kernel
theorem dX4_add__6 : decode cX4_add_ 6 = .ok (.iload_n 2, 1) := by decide +kernel
theorem dX4_add__7 : decode cX4_add_ 7 = .ok (.aconst_null, 1) := by decide +kernel
theorem dX4_add__8 : decode cX4_add_ 8 = .ok (.invokespecial 23, 3) := by decide +kernel
theorem dX4_add__11 : decode cX4_add_ 11 = .ok (.invokevirtual 26, 3) := by decide +kernel
theorem dX4_add__14 : decode cX4_add_ 14 = .ok (.return_, 1) := by decide +kernel
theorem dX4_addFirst_0 : decode cX4_addFirst 0 = .ok (.aload_n 1, 1) := by decide +kernel
theorem dX4_addFirst_1 : decode cX4_addFirst 1 = .ok (.aload_n 0, 1) := by decide +kernel
theorem dX4_addFirst_2 : decode cX4_addFirst 2 = .ok (.getfield 9, 3) := by decide +kernel
theorem dX4_addFirst_5 : decode cX4_addFirst 5 = .ok (.putfield 18, 3) := by decide +kernel
theorem dX4_addFirst_8 : decode cX4_addFirst 8 = .ok (.aload_n 0, 1) := by decide +kernel
theorem dX4_addFirst_9 : decode cX4_addFirst 9 = .ok (.aload_n 1, 1) := by decide +kernel
theorem dX4_addFirst_10 : decode cX4_addFirst 10 = .ok (.putfield 9, 3) := by decide +kernel
theorem dX4_addFirst_13 : decode cX4_addFirst 13 = .ok (.aload_n 0, 1) := by decide +kernel
theorem dX4_addFirst_14 : decode cX4_addFirst 14 = .ok (.getfield 15, 3) := by decide +kernel
theorem dX4_addFirst_17 : decode cX4_addFirst 17 = .ok (.ifnonnull 8, 3) := by decide +kernel
theorem dX4_addFirst_20 : decode cX4_addFirst 20 = .ok (.aload_n 0, 1) := by decide +kernel
theorem dX4_addFirst_21 : decode cX4_addFirst 21 = .ok (.aload_n 1, 1) := by decide +kernel
theorem dX4_addFirst_22 : decode cX4_addFirst 22 = .ok (.putfield 15, 3) := by decide +kernel
theorem dX4_addFirst_25 : decode cX4_addFirst 25 = .ok (.return_, 1) := by decide +kernel
theorem dX4_append_0 : decode cX4_append 0 = .ok (.aload_n 1, 1) := by decide +kernel
theorem dX4_append_1 : decode cX4_append 1 = .ok (.getfield 9, 3) := by decide +kernel
theorem dX4_append_4 : decode cX4_append 4 = .ok (.ifnonnull 4, 3) := by decide +kernel
theorem dX4_append_7 : decode cX4_append 7 = .ok (.return_, 1) := by decide +kernel
theorem dX4_append_8 : decode cX4_append 8 = .ok (.aload_n 0, 1) := by decide +kernel
theorem dX4_append_9 : decode cX4_append 9 = .ok (.getfield 15, 3) := by decide +kernel
theorem dX4_append_12 : decode cX4_append 12 = .ok (.ifnonnull 14, 3) := by decide +kernel
theorem dX4_append_15 : decode cX4_append 15 = .ok (.aload_n 0, 1) := by decide +kernel
theorem dX4_append_16 : decode cX4_append 16 = .ok (.aload_n 1, 1) := by decide +kernel
theorem dX4_append_17 : decode cX4_append 17 = .ok (.getfield 9, 3) := by decide +kernel
theorem dX4_append_20 : decode cX4_append 20 = .ok (.putfield 9, 3) := by decide +kernel
theorem dX4_append_23 : decode cX4_append 23 = .ok (.goto 14, 3) := by decide +kernel
theorem dX4_append_26 : decode cX4_append 26 = .ok (.aload_n 0, 1) := by decide +kernel
theorem dX4_append_27 : decode cX4_append 27 = .ok (.getfield 15, 3) := by decide +kernel
theorem dX4_append_30 : decode cX4_append 30 = .ok (.aload_n 1, 1) := by decide +kernel
theorem dX4_append_31 : decode cX4_append 31 = .ok (.getfield 9, 3) := by decide +kernel
theorem dX4_append_34 : decode cX4_append 34 = .ok (.putfield 18, 3) := by decide +kernel
theorem dX4_append_37 : decode cX4_append 37 = .ok (.aload_n 0, 1) := by decide +kernel
theorem dX4_append_38 : decode cX4_append 38 = .ok (.aload_n 1, 1) := by decide +kernel
theorem dX4_append_39 : decode cX4_append 39 = .ok (.getfield 15, 3) := by decide +kernel
theorem dX4_append_42 : decode cX4_append 42 = .ok (.putfield 15, 3) := by decide +kernel
theorem dX4_append_45 : decode cX4_append 45 = .ok (.return_, 1) := by decide +kernel
theorem dX4_operate_0 : decode cX4_operate 0 = .ok (.aload_n 0, 1) := by decide +kernel
theorem dX4_operate_1 : decode cX4_operate 1 = .ok (.iconst 3, 1) := by decide +kernel
theorem dX4_operate_2 : decode cX4_operate 2 = .ok (.iconst 0, 1) := by decide +kernel
theorem dX4_operate_3 : decode cX4_operate 3 = .ok (.invokevirtual 30, 3) := by decide +kernel
theorem dX4_operate_6 : decode cX4_operate 6 = .ok (.aload_n 0, 1) := by decide +kernel
theorem dX4_operate_7 : decode cX4_operate 7 = .ok (.aload_n 2, 1) := by decide +kernel
theorem dX4_operate_8 : decode cX4_operate 8 = .ok (.invokevirtual 33, 3) := by decide +kernel
theorem dX4_operate_11 : decode cX4_operate 11 = .ok (.aload_n 0, 1) := by decide +kernel
theorem dX4_operate_12 : decode cX4_operate 12 = .ok (.iload_n 1, 1) := by decide +kernel
theorem dX4_operate_13 : decode cX4_operate 13 = .ok (.iconst 0, 1) := by decide +kernel
theorem dX4_operate_14 : decode cX4_operate 14 = .ok (.invokevirtual 30, 3) := by decide +kernel
theorem dX4_operate_17 : decode cX4_operate 17 = .ok (.return_, 1) := by decide +kernel
theorem dX4_countPlaces_0 : decode cX4_countPlaces 0 = .ok (.iconst 0, 1) := by decide +kernel
theorem dX4_countPlaces_1 : decode cX4_countPlaces 1 = .ok (.istore_n 1, 1) := by decide +kernel
theorem dX4_countPlaces_2 : decode cX4_countPlaces 2 = .ok (.aload_n 0, 1) := by decide +kernel
theorem dX4_countPlaces_3 : decode cX4_countPlaces 3 = .ok (.getfield 9, 3) := by decide +kernel
theorem dX4_countPlaces_6 : decode cX4_countPlaces 6 = .ok (.astore_n 2, 1) := by decide +kernel
theorem dX4_countPlaces_7 : decode cX4_countPlaces 7 = .ok (.aload_n 2, 1) := by decide +kernel
theorem dX4_countPlaces_8 : decode cX4_countPlaces 8 = .ok (.ifnull 28, 3) := by decide +kernel
theorem dX4_countPlaces_11 : decode cX4_countPlaces 11 = .ok (.aload_n 2, 1) := by decide +kernel
theorem dX4_countPlaces_12 : decode cX4_countPlaces 12 = .ok (.iload_n 1, 1) := by decide +kernel
theorem dX4_countPlaces_13 : decode cX4_countPlaces 13 = .ok (.putfield 37, 3) := by decide +kernel
theorem dX4_countPlaces_16 : decode cX4_countPlaces 16 = .ok (.aload_n 2, 1) := by decide +kernel
theorem dX4_countPlaces_17 : decode cX4_countPlaces 17 = .ok (.getfield 41, 3) := by decide +kernel
theorem dX4_countPlaces_20 : decode cX4_countPlaces 20 = .ok (.bipush 21, 2) := by decide +kernel
theorem dX4_countPlaces_22 : decode cX4_countPlaces 22 = .ok (.if_icmp .eq 6, 3) := by decide +kernel
theorem dX4_countPlaces_25 : decode cX4_countPlaces 25 = .ok (.iinc 1 1, 3) := by decide +kernel
theorem dX4_countPlaces_28 : decode cX4_countPlaces 28 = .ok (.aload_n 2, 1) := by decide +kernel
theorem dX4_countPlaces_29 : decode cX4_countPlaces 29 = .ok (.getfield 18, 3) := by decide +kernel
theorem dX4_countPlaces_32 : decode cX4_countPlaces 32 = .ok (.astore_n 2, 1) := by decide +kernel
theorem dX4_countPlaces_33 : decode cX4_countPlaces 33 = .ok (.goto (-26), 3) := by decide +kernel
theorem dX4_countPlaces_36 : decode cX4_countPlaces 36 = .ok (.iload_n 1, 1) := by decide +kernel
theorem dX4_countPlaces_37 : decode cX4_countPlaces 37 = .ok (.ireturn, 1) := by decide +kernel
theorem dX5_init_0 : decode cX5_init 0 = .ok (.aload_n 0, 1) := by decide +kernel
theorem dX5_init_1 : decode cX5_init 1 = .ok (.invokespecial 1, 3) := by decide +kernel
theorem dX5_init_4 : decode cX5_init 4 = .ok (.aload_n 0, 1) := by decide +kernel
theorem dX5_init_5 : decode cX5_init 5 = .ok (.iconst 0, 1) := by decide +kernel
theorem dX5_init_6 : decode cX5_init 6 = .ok (.putfield 7, 3) := by decide +kernel
theorem dX5_init_9 : decode cX5_init 9 = .ok (.aload_n 0, 1) := by decide +kernel
theorem dX5_init_10 : decode cX5_init 10 = .ok (.aconst_null, 1) := by decide +kernel
theorem dX5_init_11 : decode cX5_init 11 = .ok (.putfield 13, 3) := by decide +kernel
theorem dX5_init_14 : decode cX5_init 14 = .ok (.aload_n 0, 1) := by decide +kernel
theorem dX5_init_15 : decode cX5_init 15 = .ok (.iload_n 1, 1) := by decide +kernel
theorem dX5_init_16 : decode cX5_init 16 = .ok (.putfield 17, 3) := by decide +kernel
theorem dX5_init_19 : decode cX5_init 19 = .ok (.aload_n 0, 1) := by decide +kernel
theorem dX5_init_20 : decode cX5_init 20 = .ok (.iload_n 2, 1) := by decide +kernel
theorem dX5_init_21 : decode cX5_init 21 = .ok (.putfield 20, 3) := by decide +kernel
theorem dX5_init_24 : decode cX5_init 24 = .ok (.aload_n 0, 1) := by decide +kernel
theorem dX5_init_25 : decode cX5_init 25 = .ok (.aload_n 3, 1) := by decide +kernel
theorem dX5_init_26 : decode cX5_init 26 = .ok (.putfield 23, 3) := by decide +kernel
theorem dX5_init_29 : decode cX5_init 29 = .ok (.return_, 1) := by decide +kernel
theorem dX6_init_0 : decode cX6_init 0 = .ok (.aload_n 0, 1) := by decide +kernel
theorem dX6_init_1 : decode cX6_init 1 = .ok (.invokespecial 1, 3) := by decide +kernel
theorem dX6_init_4 : decode cX6_init 4 = .ok (.aload_n 0, 1) := by decide +kernel
theorem dX6_init_5 : decode cX6_init 5 = .ok (.bipush 90, 2) := by decide +kernel
theorem dX6_init_7 : decode cX6_init 7 = .ok (.newarray .char, 2) := by decide +kernel
theorem dX6_init_9 : decode cX6_init 9 = .ok (.putfield 9, 3) := by decide +kernel
theorem dX6_init_12 : decode cX6_init 12 = .ok (.aload_n 0, 1) := by decide +kernel
theorem dX6_init_13 : decode cX6_init 13 = .ok (.iconst 0, 1) := by decide +kernel
theorem dX6_init_14 : decode cX6_init 14 = .ok (.putfield 13, 3) := by decide +kernel
theorem dX6_init_17 : decode cX6_init 17 = .ok (.aload_n 0, 1) := by decide +kernel
theorem dX6_init_18 : decode cX6_init 18 = .ok (.new 17, 3) := by decide +kernel
theorem dX6_init_21 : decode cX6_init 21 = .ok (.dup, 1) := by decide +kernel
theorem dX6_init_22 : decode cX6_init 22 = .ok (.invokespecial 19, 3) := by decide +kernel
theorem dX6_init_25 : decode cX6_init 25 = .ok (.putfield 20, 3) := by decide +kernel
theorem dX6_init_28 : decode cX6_init 28 = .ok (.aload_n 0, 1) := by decide +kernel
theorem dX6_init_29 : decode cX6_init 29 = .ok (.new 24, 3) := by decide +kernel
theorem dX6_init_32 : decode cX6_init 32 = .ok (.dup, 1) := by decide +kernel
theorem dX6_init_33 : decode cX6_init 33 = .ok (.invokespecial 26, 3) := by decide +kernel
theorem dX6_init_36 : decode cX6_init 36 = .ok (.putfield 27, 3) := by decide +kernel
theorem dX6_init_39 : decode cX6_init 39 = .ok (.bipush 20, 2) := by decide +kernel
theorem dX6_init_41 : decode cX6_init 41 = .ok (.sipush 200, 3) := by decide +kernel
theorem dX6_init_44 : decode cX6_init 44 = .ok (.iload_n 1, 1) := by decide +kernel
theorem dX6_init_45 : decode cX6_init 45 = .ok (.invokestatic 31, 3) := by decide +kernel
theorem dX6_init_48 : decode cX6_init 48 = .ok (.invokestatic 37, 3) := by decide +kernel
theorem dX6_init_51 : decode cX6_init 51 = .ok (.istore_n 2, 1) := by decide +kernel
theorem dX6_init_52 : decode cX6_init 52 = .ok (.aload_n 0, 1) := by decide +kernel
theorem dX6_init_53 : decode cX6_init 53 = .ok (.new 40, 3) := by decide +kernel
theorem dX6_init_56 : decode cX6_init 56 = .ok (.dup, 1) := by decide +kernel
theorem dX6_init_57 : decode cX6_init 57 = .ok (.aload_n 0, 1) := by decide +kernel
theorem dX6_init_58 : decode cX6_init 58 = .ok (.getfield 27, 3) := by decide +kernel
theorem dX6_init_61 : decode cX6_init 61 = .ok (.new 42, 3) := by decide +kernel
theorem dX6_init_64 : decode cX6_init 64 = .ok (.dup, 1) := by decide +kernel
theorem dX6_init_65 : decode cX6_init 65 = .ok (.iload_n 2, 1) := by decide +kernel
theorem dX6_init_66 : decode cX6_init 66 = .ok (.invokespecial 44, 3) := by decide +kernel
theorem dX6_init_69 : decode cX6_init 69 = .ok (.invokespecial 47, 3) := by decide +kernel
theorem dX6_init_72 : decode cX6_init 72 = .ok (.putfield 50, 3) := by decide +kernel
theorem dX6_init_75 : decode cX6_init 75 = .ok (.return_, 1) := by decide +kernel
theorem dX6_write_0 : decode cX6_write 0 = .ok (.iload_n 1, 1) := by decide +kernel
theorem dX6_write_1 : decode cX6_write 1 = .ok (.bipush 32, 2) := by decide +kernel
theorem dX6_write_3 : decode cX6_write 3 = .ok (.if_icmp .lt 18, 3) := by decide +kernel
theorem dX6_write_6 : decode cX6_write 6 = .ok (.iload_n 1, 1) := by decide +kernel
theorem dX6_write_7 : decode cX6_write 7 = .ok (.bipush 126, 2) := by decide +kernel
theorem dX6_write_9 : decode cX6_write 9 = .ok (.if_icmp .gt 12, 3) := by decide +kernel
theorem dX6_write_12 : decode cX6_write 12 = .ok (.aload_n 0, 1) := by decide +kernel
theorem dX6_write_13 : decode cX6_write 13 = .ok (.getfield 13, 3) := by decide +kernel
theorem dX6_write_16 : decode cX6_write 16 = .ok (.bipush 90, 2) := by decide +kernel
theorem dX6_write_18 : decode cX6_write 18 = .ok (.if_icmp .lt 5, 3) := by decide +kernel
theorem dX6_write_21 : decode cX6_write 21 = .ok (.iconst 0, 1) := by decide +kernel
theorem dX6_write_22 : decode cX6_write 22 = .ok (.ireturn, 1) := by decide +kernel
theorem dX6_write_23 : decode cX6_write 23 = .ok (.aload_n 0, 1) := by decide +kernel
theorem dX6_write_24 : decode cX6_write 24 = .ok (.getfield 9, 3) := by decide +kernel
theorem dX6_write_27 : decode cX6_write 27 = .ok (.aload_n 0, 1) := by decide +kernel
theorem dX6_write_28 : decode cX6_write 28 = .ok (.getfield 13, 3) := by decide +kernel
theorem dX6_write_31 : decode cX6_write 31 = .ok (.iload_n 1, 1) := by decide +kernel
theorem dX6_write_32 : decode cX6_write 32 = .ok (.castore, 1) := by decide +kernel
theorem dX6_write_33 : decode cX6_write 33 = .ok (.aload_n 0, 1) := by decide +kernel
theorem dX6_write_34 : decode cX6_write 34 = .ok (.dup, 1) := by decide +kernel
theorem dX6_write_35 : decode cX6_write 35 = .ok (.getfield 13, 3) := by decide +kernel
theorem dX6_write_38 : decode cX6_write 38 = .ok (.iconst 1, 1) := by decide +kernel
theorem dX6_write_39 : decode cX6_write 39 = .ok (.iadd, 1) := by decide +kernel
theorem dX6_write_40 : decode cX6_write 40 = .ok (.putfield 13, 3) := by decide +kernel
theorem dX6_write_43 : decode cX6_write 43 = .ok (.iconst 1, 1) := by decide +kernel
theorem dX6_write_44 : decode cX6_write 44 = .ok (.ireturn, 1) := by decide +kernel
theorem dX6_compile_0 : decode cX6_compile 0 = .ok (.aload_n 0, 1) := by decide +kernel
theorem dX6_compile_1 : decode cX6_compile 1 = .ok (.getfield 13, 3) := by decide +kernel
theorem dX6_compile_4 : decode cX6_compile 4 = .ok (.istore_n 1, 1) := by decide +kernel
theorem dX6_compile_5 : decode cX6_compile 5 = .ok (.aload_n 0, 1) := by decide +kernel
theorem dX6_compile_6 : decode cX6_compile 6 = .ok (.iconst 0, 1) := by decide +kernel
theorem dX6_compile_7 : decode cX6_compile 7 = .ok (.putfield 13, 3) := by decide +kernel
theorem dX6_compile_10 : decode cX6_compile 10 = .ok (.aload_n 0, 1) := by decide +kernel
theorem dX6_compile_11 : decode cX6_compile 11 = .ok (.getfield 20, 3) := by decide +kernel
theorem dX6_compile_14 : decode cX6_compile 14 = .ok (.aload_n 0, 1) := by decide +kernel
theorem dX6_compile_15 : decode cX6_compile 15 = .ok (.getfield 9, 3) := by decide +kernel
theorem dX6_compile_18 : decode cX6_compile 18 = .ok (.iload_n 1, 1) := by decide +kernel
theorem dX6_compile_19 : decode cX6_compile 19 = .ok (.invokevirtual 54, 3) := by decide +kernel
theorem dX6_compile_22 : decode cX6_compile 22 = .ok (.astore_n 2, 1) := by decide +kernel
theorem dX6_compile_23 : decode cX6_compile 23 = .ok (.aload_n 0, 1) := by decide +kernel
theorem dX6_compile_24 : decode cX6_compile 24 = .ok (.getfield 27, 3) := by decide +kernel
theorem dX6_compile_27 : decode cX6_compile 27 = .ok (.aload_n 2, 1) := by decide +kernel
theorem dX6_compile_28 : decode cX6_compile 28 = .ok (.invokevirtual 58, 3) := by decide +kernel
theorem dX6_compile_31 : decode cX6_compile 31 = .ok (.ifCond .ne 10, 3) := by decide +kernel
theorem dX6_compile_34 : decode cX6_compile 34 = .ok (.aload_n 0, 1) := by decide +kernel
theorem dX6_compile_35 : decode cX6_compile 35 = .ok (.getfield 20, 3) := by decide +kernel
theorem dX6_compile_38 : decode cX6_compile 38 = .ok (.invokevirtual 62, 3) := by decide +kernel
theorem dX6_compile_41 : decode cX6_compile 41 = .ok (.aload_n 0, 1) := by decide +kernel
theorem dX6_compile_42 : decode cX6_compile 42 = .ok (.getfield 50, 3) := by decide +kernel
theorem dX6_compile_45 : decode cX6_compile 45 = .ok (.invokevirtual 65, 3) := by decide +kernel
theorem dX6_compile_48 : decode cX6_compile 48 = .ok (.aload_n 0, 1) := by decide +kernel
theorem dX6_compile_49 : decode cX6_compile 49 = .ok (.getfield 27, 3) := by decide +kernel
theorem dX6_compile_52 : decode cX6_compile 52 = .ok (.getfield 68, 3) := by decide +kernel
theorem dX6_compile_55 : decode cX6_compile 55 = .ok (.ireturn, 1) := by decide +kernel
theorem dX6_place_0 : decode cX6_place 0 = .ok (.aload_n 0, 1) := by decide +kernel
theorem dX6_place_1 : decode cX6_place 1 = .ok (.getfield 20, 3) := by decide +kernel
theorem dX6_place_4 : decode cX6_place 4 = .ok (.getfield 69, 3) := by decide +kernel
theorem dX6_place_7 : decode cX6_place 7 = .ok (.ireturn, 1) := by decide +kernel
theorem dX6_code_0 : decode cX6_code 0 = .ok (.aload_n 0, 1) := by decide +kernel
theorem dX6_code_1 : decode cX6_code 1 = .ok (.getfield 27, 3) := by decide +kernel
theorem dX6_code_4 : decode cX6_code 4 = .ok (.iload_n 1, 1) := by decide +kernel
theorem dX6_code_5 : decode cX6_code 5 = .ok (.iload_n 2, 1) := by decide +kernel
theorem dX6_code_6 : decode cX6_code 6 = .ok (.invokevirtual 72, 3) := by decide +kernel
theorem dX6_code_9 : decode cX6_code 9 = .ok (.ireturn, 1) := by decide +kernel
theorem dX6_run_0 : decode cX6_run 0 = .ok (.iload_n 1, 1) := by decide +kernel
theorem dX6_run_1 : decode cX6_run 1 = .ok (.ifCond .lt 10, 3) := by decide +kernel
theorem dX6_run_4 : decode cX6_run 4 = .ok (.iload_n 1, 1) := by decide +kernel
theorem dX6_run_5 : decode cX6_run 5 = .ok (.sipush 500, 3) := by decide +kernel
theorem dX6_run_8 : decode cX6_run 8 = .ok (.if_icmp .le 13, 3) := by decide +kernel
theorem dX6_run_11 : decode cX6_run 11 = .ok (.new 75, 3) := by decide +kernel
theorem dX6_run_14 : decode cX6_run 14 = .ok (.dup, 1) := by decide +kernel
theorem dX6_run_15 : decode cX6_run 15 = .ok (.ldc 77, 2) := by decide +kernel
theorem dX6_run_17 : decode cX6_run 17 = .ok (.invokespecial 79, 3) := by decide +kernel
theorem dX6_run_20 : decode cX6_run 20 = .ok (.athrow, 1) := by decide +kernel
theorem dX6_run_21 : decode cX6_run 21 = .ok (.aload_n 0, 1) := by decide +kernel
theorem dX6_run_22 : decode cX6_run 22 = .ok (.getfield 50, 3) := by decide +kernel
theorem dX6_run_25 : decode cX6_run 25 = .ok (.invokevirtual 82, 3) := by decide +kernel
theorem dX6_run_28 : decode cX6_run 28 = .ok (.iconst 1, 1) := by decide +kernel
theorem dX6_run_29 : decode cX6_run 29 = .ok (.if_icmp .eq 13, 3) := by decide +kernel
theorem dX6_run_32 : decode cX6_run 32 = .ok (.new 86, 3) := by decide +kernel
theorem dX6_run_35 : decode cX6_run 35 = .ok (.dup, 1) := by decide +kernel
theorem dX6_run_36 : decode cX6_run 36 = .ok (.ldc 88, 2) := by decide +kernel
theorem dX6_run_38 : decode cX6_run 38 = .ok (.invokespecial 90, 3) := by decide +kernel
theorem dX6_run_41 : decode cX6_run 41 = .ok (.athrow, 1) := by decide +kernel
theorem dX6_run_42 : decode cX6_run 42 = .ok (.aload_n 0, 1) := by decide +kernel
theorem dX6_run_43 : decode cX6_run 43 = .ok (.getfield 50, 3) := by decide +kernel
theorem dX6_run_46 : decode cX6_run 46 = .ok (.iload_n 1, 1) := by decide +kernel
theorem dX6_run_47 : decode cX6_run 47 = .ok (.invokevirtual 91, 3) := by decide +kernel
theorem dX6_run_50 : decode cX6_run 50 = .ok (.istore_n 2, 1) := by decide +kernel
theorem dX6_run_51 : decode cX6_run 51 = .ok (.aload_n 0, 1) := by decide +kernel
theorem dX6_run_52 : decode cX6_run 52 = .ok (.getfield 50, 3) := by decide +kernel
theorem dX6_run_55 : decode cX6_run 55 = .ok (.invokevirtual 82, 3) := by decide +kernel
theorem dX6_run_58 : decode cX6_run 58 = .ok (.iconst 3, 1) := by decide +kernel
theorem dX6_run_59 : decode cX6_run 59 = .ok (.if_icmp .ne 13, 3) := by decide +kernel
theorem dX6_run_62 : decode cX6_run 62 = .ok (.new 95, 3) := by decide +kernel
theorem dX6_run_65 : decode cX6_run 65 = .ok (.dup, 1) := by decide +kernel
theorem dX6_run_66 : decode cX6_run 66 = .ok (.ldc 97, 2) := by decide +kernel
theorem dX6_run_68 : decode cX6_run 68 = .ok (.invokespecial 99, 3) := by decide +kernel
theorem dX6_run_71 : decode cX6_run 71 = .ok (.athrow, 1) := by decide +kernel
theorem dX6_run_72 : decode cX6_run 72 = .ok (.iload_n 2, 1) := by decide +kernel
theorem dX6_run_73 : decode cX6_run 73 = .ok (.ireturn, 1) := by decide +kernel
theorem dX6_state_0 : decode cX6_state 0 = .ok (.aload_n 0, 1) := by decide +kernel
theorem dX6_state_1 : decode cX6_state 1 = .ok (.getfield 50, 3) := by decide +kernel
theorem dX6_state_4 : decode cX6_state 4 = .ok (.invokevirtual 82, 3) := by decide +kernel
theorem dX6_state_7 : decode cX6_state 7 = .ok (.ireturn, 1) := by decide +kernel
theorem dX6_why_0 : decode cX6_why 0 = .ok (.aload_n 0, 1) := by decide +kernel
theorem dX6_why_1 : decode cX6_why 1 = .ok (.getfield 50, 3) := by decide +kernel
theorem dX6_why_4 : decode cX6_why 4 = .ok (.getfield 100, 3) := by decide +kernel
theorem dX6_why_7 : decode cX6_why 7 = .ok (.ireturn, 1) := by decide +kernel
theorem dX6_next_0 : decode cX6_next 0 = .ok (.aload_n 0, 1) := by decide +kernel
theorem dX6_next_1 : decode cX6_next 1 = .ok (.getfield 50, 3) := by decide +kernel
theorem dX6_next_4 : decode cX6_next 4 = .ok (.getfield 103, 3) := by decide +kernel
theorem dX6_next_7 : decode cX6_next 7 = .ok (.ireturn, 1) := by decide +kernel
theorem dX6_depth_0 : decode cX6_depth 0 = .ok (.aload_n 0, 1) := by decide +kernel
theorem dX6_depth_1 : decode cX6_depth 1 = .ok (.getfield 50, 3) := by decide +kernel
theorem dX6_depth_4 : decode cX6_depth 4 = .ok (.getfield 106, 3) := by decide +kernel
theorem dX6_depth_7 : decode cX6_depth 7 = .ok (.ireturn, 1) := by decide +kernel
theorem dX6_used_0 : decode cX6_used 0 = .ok (.aload_n 0, 1) := by decide +kernel
theorem dX6_used_1 : decode cX6_used 1 = .ok (.getfield 50, 3) := by decide +kernel
theorem dX6_used_4 : decode cX6_used 4 = .ok (.getfield 109, 3) := by decide +kernel
theorem dX6_used_7 : decode cX6_used 7 = .ok (.getfield 113, 3) := by decide +kernel
theorem dX6_used_10 : decode cX6_used 10 = .ok (.ireturn, 1) := by decide +kernel
theorem dX6_live_0 : decode cX6_live 0 = .ok (.aload_n 0, 1) := by decide +kernel
theorem dX6_live_1 : decode cX6_live 1 = .ok (.getfield 50, 3) := by decide +kernel
theorem dX6_live_4 : decode cX6_live 4 = .ok (.invokevirtual 116, 3) := by decide +kernel
theorem dX6_live_7 : decode cX6_live 7 = .ok (.ireturn, 1) := by decide +kernel
theorem dX6_collections_0 : decode cX6_collections 0 = .ok (.aload_n 0, 1) := by decide +kernel
theorem dX6_collections_1 : decode cX6_collections 1 = .ok (.getfield 50, 3) := by decide +kernel
theorem dX6_collections_4 : decode cX6_collections 4 = .ok (.getfield 109, 3) := by decide +kernel
theorem dX6_collections_7 : decode cX6_collections 7 = .ok (.getfield 119, 3) := by decide +kernel
theorem dX6_collections_10 : decode cX6_collections 10 = .ok (.ireturn, 1) := by decide +kernel
theorem dX6_kind_0 : decode cX6_kind 0 = .ok (.aload_n 0, 1) := by decide +kernel
theorem dX6_kind_1 : decode cX6_kind 1 = .ok (.getfield 50, 3) := by decide +kernel
theorem dX6_kind_4 : decode cX6_kind 4 = .ok (.getfield 109, 3) := by decide +kernel
theorem dX6_kind_7 : decode cX6_kind 7 = .ok (.aload_n 0, 1) := by decide +kernel
theorem dX6_kind_8 : decode cX6_kind 8 = .ok (.getfield 50, 3) := by decide +kernel
theorem dX6_kind_11 : decode cX6_kind 11 = .ok (.iload_n 1, 1) := by decide +kernel
theorem dX6_kind_12 : decode cX6_kind 12 = .ok (.invokevirtual 122, 3) := by decide +kernel
theorem dX6_kind_15 : decode cX6_kind 15 = .ok (.invokevirtual 125, 3) := by decide +kernel
theorem dX6_kind_18 : decode cX6_kind 18 = .ok (.ireturn, 1) := by decide +kernel
theorem dX6_value_0 : decode cX6_value 0 = .ok (.aload_n 0, 1) := by decide +kernel
theorem dX6_value_1 : decode cX6_value 1 = .ok (.getfield 50, 3) := by decide +kernel
theorem dX6_value_4 : decode cX6_value 4 = .ok (.getfield 109, 3) := by decide +kernel
theorem dX6_value_7 : decode cX6_value 7 = .ok (.aload_n 0, 1) := by decide +kernel
theorem dX6_value_8 : decode cX6_value 8 = .ok (.getfield 50, 3) := by decide +kernel
theorem dX6_value_11 : decode cX6_value 11 = .ok (.iload_n 1, 1) := by decide +kernel
theorem dX6_value_12 : decode cX6_value 12 = .ok (.invokevirtual 122, 3) := by decide +kernel
theorem dX6_value_15 : decode cX6_value 15 = .ok (.invokevirtual 128, 3) := by decide +kernel
theorem dX6_value_18 : decode cX6_value 18 = .ok (.ireturn, 1) := by decide +kernel
theorem dX6_fieldsOf_0 : decode cX6_fieldsOf 0 = .ok (.iload_n 0, 1) := by decide +kernel
theorem dX6_fieldsOf_1 : decode cX6_fieldsOf 1 = .ok (.iconst 3, 1) := by decide +kernel
theorem dX6_fieldsOf_2 : decode cX6_fieldsOf 2 = .ok (.iand, 1) := by decide +kernel
theorem dX6_fieldsOf_3 : decode cX6_fieldsOf 3 = .ok (.ireturn, 1) := by decide +kernel
theorem dX6_wordOfInt_0 : decode cX6_wordOfInt 0 = .ok (.iconst 2, 1) := by decide +kernel
theorem dX6_wordOfInt_1 : decode cX6_wordOfInt 1 = .ok (.iload_n 0, 1) := by decide +kernel
theorem dX6_wordOfInt_2 : decode cX6_wordOfInt 2 = .ok (.imul, 1) := by decide +kernel
theorem dX6_wordOfInt_3 : decode cX6_wordOfInt 3 = .ok (.iconst 1, 1) := by decide +kernel
theorem dX6_wordOfInt_4 : decode cX6_wordOfInt 4 = .ok (.iadd, 1) := by decide +kernel
theorem dX6_wordOfInt_5 : decode cX6_wordOfInt 5 = .ok (.ireturn, 1) := by decide +kernel
theorem dX6_wordOfTag_0 : decode cX6_wordOfTag 0 = .ok (.iconst 4, 1) := by decide +kernel
theorem dX6_wordOfTag_1 : decode cX6_wordOfTag 1 = .ok (.iload_n 0, 1) := by decide +kernel
theorem dX6_wordOfTag_2 : decode cX6_wordOfTag 2 = .ok (.imul, 1) := by decide +kernel
theorem dX6_wordOfTag_3 : decode cX6_wordOfTag 3 = .ok (.iconst 2, 1) := by decide +kernel
theorem dX6_wordOfTag_4 : decode cX6_wordOfTag 4 = .ok (.iadd, 1) := by decide +kernel
theorem dX6_wordOfTag_5 : decode cX6_wordOfTag 5 = .ok (.ireturn, 1) := by decide +kernel
theorem dX6_isInt_0 : decode cX6_isInt 0 = .ok (.iload_n 0, 1) := by decide +kernel
theorem dX6_isInt_1 : decode cX6_isInt 1 = .ok (.iconst 1, 1) := by decide +kernel
theorem dX6_isInt_2 : decode cX6_isInt 2 = .ok (.iand, 1) := by decide +kernel
theorem dX6_isInt_3 : decode cX6_isInt 3 = .ok (.iconst 1, 1) := by decide +kernel
theorem dX6_isInt_4 : decode cX6_isInt 4 = .ok (.if_icmp .ne 7, 3) := by decide +kernel
theorem dX6_isInt_7 : decode cX6_isInt 7 = .ok (.iconst 1, 1) := by decide +kernel
theorem dX6_isInt_8 : decode cX6_isInt 8 = .ok (.goto 4, 3) := by decide +kernel
theorem dX6_isInt_11 : decode cX6_isInt 11 = .ok (.iconst 0, 1) := by decide +kernel
theorem dX6_isInt_12 : decode cX6_isInt 12 = .ok (.ireturn, 1) := by decide +kernel
theorem dX6_isTag_0 : decode cX6_isTag 0 = .ok (.iload_n 0, 1) := by decide +kernel
theorem dX6_isTag_1 : decode cX6_isTag 1 = .ok (.iconst 3, 1) := by decide +kernel
theorem dX6_isTag_2 : decode cX6_isTag 2 = .ok (.iand, 1) := by decide +kernel
theorem dX6_isTag_3 : decode cX6_isTag 3 = .ok (.iconst 2, 1) := by decide +kernel
theorem dX6_isTag_4 : decode cX6_isTag 4 = .ok (.if_icmp .ne 7, 3) := by decide +kernel
theorem dX6_isTag_7 : decode cX6_isTag 7 = .ok (.iconst 1, 1) := by decide +kernel
theorem dX6_isTag_8 : decode cX6_isTag 8 = .ok (.goto 4, 3) := by decide +kernel
theorem dX6_isTag_11 : decode cX6_isTag 11 = .ok (.iconst 0, 1) := by decide +kernel
theorem dX6_isTag_12 : decode cX6_isTag 12 = .ok (.ireturn, 1) := by decide +kernel
theorem dX6_intOf_0 : decode cX6_intOf 0 = .ok (.iload_n 0, 1) := by decide +kernel
theorem dX6_intOf_1 : decode cX6_intOf 1 = .ok (.iconst 1, 1) := by decide +kernel
theorem dX6_intOf_2 : decode cX6_intOf 2 = .ok (.ishr, 1) := by decide +kernel
theorem dX6_intOf_3 : decode cX6_intOf 3 = .ok (.ireturn, 1) := by decide +kernel
theorem dX6_tagOf_0 : decode cX6_tagOf 0 = .ok (.iload_n 0, 1) := by decide +kernel
theorem dX6_tagOf_1 : decode cX6_tagOf 1 = .ok (.iconst 2, 1) := by decide +kernel
theorem dX6_tagOf_2 : decode cX6_tagOf 2 = .ok (.ishr, 1) := by decide +kernel
theorem dX6_tagOf_3 : decode cX6_tagOf 3 = .ok (.ireturn, 1) := by decide +kernel
theorem dJ9_max_7cf53_0 : decode cJ9_max_7cf53 0 = .ok (.iload_n 0, 1) := by decide +kernel
theorem dJ9_max_7cf53_1 : decode cJ9_max_7cf53 1 = .ok (.iload_n 1, 1) := by decide +kernel
theorem dJ9_max_7cf53_2 : decode cJ9_max_7cf53 2 = .ok (.if_icmp .lt 7, 3) := by decide +kernel
theorem dJ9_max_7cf53_5 : decode cJ9_max_7cf53 5 = .ok (.iload_n 0, 1) := by decide +kernel
theorem dJ9_max_7cf53_6 : decode cJ9_max_7cf53 6 = .ok (.goto 4, 3) := by decide +kernel
theorem dJ9_max_7cf53_9 : decode cJ9_max_7cf53 9 = .ok (.iload_n 1, 1) := by decide +kernel
theorem dJ9_max_7cf53_10 : decode cJ9_max_7cf53 10 = .ok (.ireturn, 1) := by decide +kernel
theorem dJ9_min_7cf53_0 : decode cJ9_min_7cf53 0 = .ok (.iload_n 0, 1) := by decide +kernel
theorem dJ9_min_7cf53_1 : decode cJ9_min_7cf53 1 = .ok (.iload_n 1, 1) := by decide +kernel
theorem dJ9_min_7cf53_2 : decode cJ9_min_7cf53 2 = .ok (.if_icmp .gt 7, 3) := by decide +kernel
theorem dJ9_min_7cf53_5 : decode cJ9_min_7cf53 5 = .ok (.iload_n 0, 1) := by decide +kernel
theorem dJ9_min_7cf53_6 : decode cJ9_min_7cf53 6 = .ok (.goto 4, 3) := by decide +kernel
theorem dJ9_min_7cf53_9 : decode cJ9_min_7cf53 9 = .ok (.iload_n 1, 1) := by decide +kernel
theorem dJ9_min_7cf53_10 : decode cJ9_min_7cf53 10 = .ok (.ireturn, 1) := by decide +kernel
theorem dJ7_fill_53178_0 : decode cJ7_fill_53178 0 = .ok (.iconst 0, 1) := by decide +kernel
theorem dJ7_fill_53178_1 : decode cJ7_fill_53178 1 = .ok (.istore_n 2, 1) := by decide +kernel
theorem dJ7_fill_53178_2 : decode cJ7_fill_53178 2 = .ok (.aload_n 0, 1) := by decide +kernel
theorem dJ7_fill_53178_3 : decode cJ7_fill_53178 3 = .ok (.arraylength, 1) := by decide +kernel
theorem dJ7_fill_53178_4 : decode cJ7_fill_53178 4 = .ok (.istore_n 3, 1) := by decide +kernel
theorem dJ7_fill_53178_5 : decode cJ7_fill_53178 5 = .ok (.iload_n 2, 1) := by decide +kernel
theorem dJ7_fill_53178_6 : decode cJ7_fill_53178 6 = .ok (.iload_n 3, 1) := by decide +kernel
theorem dJ7_fill_53178_7 : decode cJ7_fill_53178 7 = .ok (.if_icmp .ge 13, 3) := by decide +kernel
theorem dJ7_fill_53178_10 : decode cJ7_fill_53178 10 = .ok (.aload_n 0, 1) := by decide +kernel
theorem dJ7_fill_53178_11 : decode cJ7_fill_53178 11 = .ok (.iload_n 2, 1) := by decide +kernel
theorem dJ7_fill_53178_12 : decode cJ7_fill_53178 12 = .ok (.iload_n 1, 1) := by decide +kernel
theorem dJ7_fill_53178_13 : decode cJ7_fill_53178 13 = .ok (.iastore, 1) := by decide +kernel
theorem dJ7_fill_53178_14 : decode cJ7_fill_53178 14 = .ok (.iinc 2 1, 3) := by decide +kernel
theorem dJ7_fill_53178_17 : decode cJ7_fill_53178 17 = .ok (.goto (-12), 3) := by decide +kernel
theorem dJ7_fill_53178_20 : decode cJ7_fill_53178 20 = .ok (.return_, 1) := by decide +kernel
theorem dL_cell_0 : decode cL_cell 0 = .ok (.iload_n 1, 1) := by decide +kernel
theorem dL_cell_1 : decode cL_cell 1 = .ok (.aload_n 0, 1) := by decide +kernel
theorem dL_cell_2 : decode cL_cell 2 = .ok (.arraylength, 1) := by decide +kernel
theorem dL_cell_3 : decode cL_cell 3 = .ok (.if_icmp .ge 9, 3) := by decide +kernel
theorem dL_cell_6 : decode cL_cell 6 = .ok (.aload_n 0, 1) := by decide +kernel
theorem dL_cell_7 : decode cL_cell 7 = .ok (.iload_n 1, 1) := by decide +kernel
theorem dL_cell_8 : decode cL_cell 8 = .ok (.iaload, 1) := by decide +kernel
theorem dL_cell_9 : decode cL_cell 9 = .ok (.goto 4, 3) := by decide +kernel
theorem dL_cell_12 : decode cL_cell 12 = .ok (.iconst 0, 1) := by decide +kernel
theorem dL_cell_13 : decode cL_cell 13 = .ok (.ireturn, 1) := by decide +kernel
theorem dL_compile_0 : decode cL_compile 0 = .ok (.aload_n 1, 1) := by decide +kernel
theorem dL_compile_1 : decode cL_compile 1 = .ok (.iconst 0, 1) := by decide +kernel
theorem dL_compile_2 : decode cL_compile 2 = .ok (.aload_n 0, 1) := by decide +kernel
theorem dL_compile_3 : decode cL_compile 3 = .ok (.invokevirtual 7, 3) := by decide +kernel
theorem dL_compile_6 : decode cL_compile 6 = .ok (.i2l, 1) := by decide +kernel
theorem dL_compile_7 : decode cL_compile 7 = .ok (.lastore, 1) := by decide +kernel
theorem dL_compile_8 : decode cL_compile 8 = .ok (.goto 6, 3) := by decide +kernel
theorem dL_compile_11 : decode cL_compile 11 = .ok (.astore_n 2, 1) := by decide +kernel
theorem dL_compile_12 : decode cL_compile 12 = .ok (.iconst 1, 1) := by decide +kernel
theorem dL_compile_13 : decode cL_compile 13 = .ok (.ireturn, 1) := by decide +kernel
theorem dL_compile_14 : decode cL_compile 14 = .ok (.iconst 0, 1) := by decide +kernel
theorem dL_compile_15 : decode cL_compile 15 = .ok (.ireturn, 1) := by decide +kernel
theorem dL_run_0 : decode cL_run 0 = .ok (.aload_n 2, 1) := by decide +kernel
theorem dL_run_1 : decode cL_run 1 = .ok (.iconst 0, 1) := by decide +kernel
theorem dL_run_2 : decode cL_run 2 = .ok (.aload_n 0, 1) := by decide +kernel
theorem dL_run_3 : decode cL_run 3 = .ok (.iload_n 1, 1) := by decide +kernel
theorem dL_run_4 : decode cL_run 4 = .ok (.invokevirtual 15, 3) := by decide +kernel
theorem dL_run_7 : decode cL_run 7 = .ok (.i2l, 1) := by decide +kernel
theorem dL_run_8 : decode cL_run 8 = .ok (.lastore, 1) := by decide +kernel
theorem dL_run_9 : decode cL_run 9 = .ok (.goto 12, 3) := by decide +kernel
theorem dL_run_12 : decode cL_run 12 = .ok (.astore_n 3, 1) := by decide +kernel
theorem dL_run_13 : decode cL_run 13 = .ok (.iconst 1, 1) := by decide +kernel
theorem dL_run_14 : decode cL_run 14 = .ok (.ireturn, 1) := by decide +kernel
theorem dL_run_15 : decode cL_run 15 = .ok (.astore_n 3, 1) := by decide +kernel
theorem dL_run_16 : decode cL_run 16 = .ok (.iconst 2, 1) := by decide +kernel
theorem dL_run_17 : decode cL_run 17 = .ok (.ireturn, 1) := by decide +kernel
theorem dL_run_18 : decode cL_run 18 = .ok (.astore_n 3, 1) := by decide +kernel
theorem dL_run_19 : decode cL_run 19 = .ok (.iconst 3, 1) := by decide +kernel
theorem dL_run_20 : decode cL_run 20 = .ok (.ireturn, 1) := by decide +kernel
theorem dL_run_21 : decode cL_run 21 = .ok (.iconst 0, 1) := by decide +kernel
theorem dL_run_22 : decode cL_run 22 = .ok (.ireturn, 1) := by decide +kernel
theorem dL_law_0 : decode cL_law 0 = .ok (.new 8, 3) := by decide +kernel
theorem dL_law_3 : decode cL_law 3 = .ok (.dup, 1) := by decide +kernel
theorem dL_law_4 : decode cL_law 4 = .ok (.aload_n 0, 1) := by decide +kernel
theorem dL_law_5 : decode cL_law 5 = .ok (.iconst 0, 1) := by decide +kernel
theorem dL_law_6 : decode cL_law 6 = .ok (.invokestatic 23, 3) := by decide +kernel
theorem dL_law_9 : decode cL_law 9 = .ok (.invokespecial 29, 3) := by decide +kernel
theorem dL_law_12 : decode cL_law 12 = .ok (.astore_n 1, 1) := by decide +kernel
theorem dL_law_13 : decode cL_law 13 = .ok (.new 32, 3) := by decide +kernel
theorem dL_law_16 : decode cL_law 16 = .ok (.dup, 1) := by decide +kernel
theorem dL_law_17 : decode cL_law 17 = .ok (.aload_n 0, 1) := by decide +kernel
theorem dL_law_18 : decode cL_law 18 = .ok (.iconst 0, 1) := by decide +kernel
theorem dL_law_19 : decode cL_law 19 = .ok (.invokestatic 23, 3) := by decide +kernel
theorem dL_law_22 : decode cL_law 22 = .ok (.invokespecial 34, 3) := by decide +kernel
theorem dL_law_25 : decode cL_law 25 = .ok (.astore_n 2, 1) := by decide +kernel
theorem dL_law_26 : decode cL_law 26 = .ok (.iconst 1, 1) := by decide +kernel
theorem dL_law_27 : decode cL_law 27 = .ok (.newarray .long, 2) := by decide +kernel
theorem dL_law_29 : decode cL_law 29 = .ok (.astore_n 3, 1) := by decide +kernel
theorem dL_law_30 : decode cL_law 30 = .ok (.iconst 1, 1) := by decide +kernel
theorem dL_law_31 : decode cL_law 31 = .ok (.istore 4, 2) := by decide +kernel
theorem dL_law_33 : decode cL_law 33 = .ok (.iload 4, 2) := by decide +kernel
theorem dL_law_35 : decode cL_law 35 = .ok (.aload_n 0, 1) := by decide +kernel
theorem dL_law_36 : decode cL_law 36 = .ok (.arraylength, 1) := by decide +kernel
theorem dL_law_37 : decode cL_law 37 = .ok (.iconst 3, 1) := by decide +kernel
theorem dL_law_38 : decode cL_law 38 = .ok (.isub, 1) := by decide +kernel
theorem dL_law_39 : decode cL_law 39 = .ok (.if_icmp .gt 405, 3) := by decide +kernel
theorem dL_law_42 : decode cL_law 42 = .ok (.aload_n 0, 1) := by decide +kernel
theorem dL_law_43 : decode cL_law 43 = .ok (.iload 4, 2) := by decide +kernel
theorem dL_law_45 : decode cL_law 45 = .ok (.iaload, 1) := by decide +kernel
theorem dL_law_46 : decode cL_law 46 = .ok (.bipush 15, 2) := by decide +kernel
theorem dL_law_48 : decode cL_law 48 = .ok (.iand, 1) := by decide +kernel
theorem dL_law_49 : decode cL_law 49 = .ok (.tableswitch 389 0 13 #[71, 98, 142, 155, 192, 248, 261, 274, 287, 300, 313, 326, 339, 364], 71) := by decide +kernel
theorem dL_law_120 : decode cL_law 120 = .ok (.aload_n 1, 1) := by decide +kernel
theorem dL_law_121 : decode cL_law 121 = .ok (.aload_n 0, 1) := by decide +kernel
theorem dL_law_122 : decode cL_law 122 = .ok (.iload 4, 2) := by decide +kernel
theorem dL_law_124 : decode cL_law 124 = .ok (.iconst 1, 1) := by decide +kernel
theorem dL_law_125 : decode cL_law 125 = .ok (.iadd, 1) := by decide +kernel
theorem dL_law_126 : decode cL_law 126 = .ok (.iaload, 1) := by decide +kernel
theorem dL_law_127 : decode cL_law 127 = .ok (.i2c, 1) := by decide +kernel
theorem dL_law_128 : decode cL_law 128 = .ok (.invokevirtual 35, 3) := by decide +kernel
theorem dL_law_131 : decode cL_law 131 = .ok (.aload_n 2, 1) := by decide +kernel
theorem dL_law_132 : decode cL_law 132 = .ok (.aload_n 0, 1) := by decide +kernel
theorem dL_law_133 : decode cL_law 133 = .ok (.iload 4, 2) := by decide +kernel
theorem dL_law_135 : decode cL_law 135 = .ok (.iconst 1, 1) := by decide +kernel
theorem dL_law_136 : decode cL_law 136 = .ok (.iadd, 1) := by decide +kernel
theorem dL_law_137 : decode cL_law 137 = .ok (.iaload, 1) := by decide +kernel
theorem dL_law_138 : decode cL_law 138 = .ok (.i2c, 1) := by decide +kernel
theorem dL_law_139 : decode cL_law 139 = .ok (.invokevirtual 39, 3) := by decide +kernel
theorem dL_law_142 : decode cL_law 142 = .ok (.if_icmp .eq 296, 3) := by decide +kernel
theorem dL_law_145 : decode cL_law 145 = .ok (.iconst 0, 1) := by decide +kernel
theorem dL_law_146 : decode cL_law 146 = .ok (.ireturn, 1) := by decide +kernel
theorem dL_law_147 : decode cL_law 147 = .ok (.aload_n 1, 1) := by decide +kernel
theorem dL_law_148 : decode cL_law 148 = .ok (.aload_n 3, 1) := by decide +kernel
theorem dL_law_149 : decode cL_law 149 = .ok (.invokestatic 40, 3) := by decide +kernel
theorem dL_law_152 : decode cL_law 152 = .ok (.istore 5, 2) := by decide +kernel
theorem dL_law_154 : decode cL_law 154 = .ok (.aload_n 2, 1) := by decide +kernel
theorem dL_law_155 : decode cL_law 155 = .ok (.invokevirtual 43, 3) := by decide +kernel
theorem dL_law_158 : decode cL_law 158 = .ok (.istore 6, 2) := by decide +kernel
theorem dL_law_160 : decode cL_law 160 = .ok (.aload_n 2, 1) := by decide +kernel
theorem dL_law_161 : decode cL_law 161 = .ok (.invokevirtual 44, 3) := by decide +kernel
theorem dL_law_164 : decode cL_law 164 = .ok (.iload 5, 2) := by decide +kernel
theorem dL_law_166 : decode cL_law 166 = .ok (.if_icmp .eq 5, 3) := by decide +kernel
theorem dL_law_169 : decode cL_law 169 = .ok (.iconst 0, 1) := by decide +kernel
theorem dL_law_170 : decode cL_law 170 = .ok (.ireturn, 1) := by decide +kernel
theorem dL_law_171 : decode cL_law 171 = .ok (.iload 5, 2) := by decide +kernel
theorem dL_law_173 : decode cL_law 173 = .ok (.ifCond .ne 15, 3) := by decide +kernel
theorem dL_law_176 : decode cL_law 176 = .ok (.aload_n 3, 1) := by decide +kernel
theorem dL_law_177 : decode cL_law 177 = .ok (.iconst 0, 1) := by decide +kernel
theorem dL_law_178 : decode cL_law 178 = .ok (.laload, 1) := by decide +kernel
theorem dL_law_179 : decode cL_law 179 = .ok (.iload 6, 2) := by decide +kernel
theorem dL_law_181 : decode cL_law 181 = .ok (.i2l, 1) := by decide +kernel
theorem dL_law_182 : decode cL_law 182 = .ok (.lcmp, 1) := by decide +kernel
theorem dL_law_183 : decode cL_law 183 = .ok (.ifCond .eq 5, 3) := by decide +kernel
theorem dL_law_186 : decode cL_law 186 = .ok (.iconst 0, 1) := by decide +kernel
theorem dL_law_187 : decode cL_law 187 = .ok (.ireturn, 1) := by decide +kernel
theorem dL_law_188 : decode cL_law 188 = .ok (.goto 250, 3) := by decide +kernel
theorem dL_law_191 : decode cL_law 191 = .ok (.aload_n 1, 1) := by decide +kernel
theorem dL_law_192 : decode cL_law 192 = .ok (.invokevirtual 47, 3) := by decide +kernel
theorem dL_law_195 : decode cL_law 195 = .ok (.aload_n 2, 1) := by decide +kernel
theorem dL_law_196 : decode cL_law 196 = .ok (.invokevirtual 50, 3) := by decide +kernel
theorem dL_law_199 : decode cL_law 199 = .ok (.if_icmp .eq 239, 3) := by decide +kernel
theorem dL_law_202 : decode cL_law 202 = .ok (.iconst 0, 1) := by decide +kernel
theorem dL_law_203 : decode cL_law 203 = .ok (.ireturn, 1) := by decide +kernel
theorem dL_law_204 : decode cL_law 204 = .ok (.aload_n 1, 1) := by decide +kernel
theorem dL_law_205 : decode cL_law 205 = .ok (.aload_n 0, 1) := by decide +kernel
theorem dL_law_206 : decode cL_law 206 = .ok (.iload 4, 2) := by decide +kernel
theorem dL_law_208 : decode cL_law 208 = .ok (.iconst 1, 1) := by decide +kernel
theorem dL_law_209 : decode cL_law 209 = .ok (.iadd, 1) := by decide +kernel
theorem dL_law_210 : decode cL_law 210 = .ok (.iaload, 1) := by decide +kernel
theorem dL_law_211 : decode cL_law 211 = .ok (.aload_n 0, 1) := by decide +kernel
theorem dL_law_212 : decode cL_law 212 = .ok (.iload 4, 2) := by decide +kernel
theorem dL_law_214 : decode cL_law 214 = .ok (.iconst 2, 1) := by decide +kernel
theorem dL_law_215 : decode cL_law 215 = .ok (.iadd, 1) := by decide +kernel
theorem dL_law_216 : decode cL_law 216 = .ok (.iaload, 1) := by decide +kernel
theorem dL_law_217 : decode cL_law 217 = .ok (.invokevirtual 51, 3) := by decide +kernel
theorem dL_law_220 : decode cL_law 220 = .ok (.aload_n 2, 1) := by decide +kernel
theorem dL_law_221 : decode cL_law 221 = .ok (.aload_n 0, 1) := by decide +kernel
theorem dL_law_222 : decode cL_law 222 = .ok (.iload 4, 2) := by decide +kernel
theorem dL_law_224 : decode cL_law 224 = .ok (.iconst 1, 1) := by decide +kernel
theorem dL_law_225 : decode cL_law 225 = .ok (.iadd, 1) := by decide +kernel
theorem dL_law_226 : decode cL_law 226 = .ok (.iaload, 1) := by decide +kernel
theorem dL_law_227 : decode cL_law 227 = .ok (.aload_n 0, 1) := by decide +kernel
theorem dL_law_228 : decode cL_law 228 = .ok (.iload 4, 2) := by decide +kernel
theorem dL_law_230 : decode cL_law 230 = .ok (.iconst 2, 1) := by decide +kernel
theorem dL_law_231 : decode cL_law 231 = .ok (.iadd, 1) := by decide +kernel
theorem dL_law_232 : decode cL_law 232 = .ok (.iaload, 1) := by decide +kernel
theorem dL_law_233 : decode cL_law 233 = .ok (.invokevirtual 55, 3) := by decide +kernel
theorem dL_law_236 : decode cL_law 236 = .ok (.if_icmp .eq 202, 3) := by decide +kernel
theorem dL_law_239 : decode cL_law 239 = .ok (.iconst 0, 1) := by decide +kernel
theorem dL_law_240 : decode cL_law 240 = .ok (.ireturn, 1) := by decide +kernel
theorem dL_law_241 : decode cL_law 241 = .ok (.aload_n 1, 1) := by decide +kernel
theorem dL_law_242 : decode cL_law 242 = .ok (.aload_n 0, 1) := by decide +kernel
theorem dL_law_243 : decode cL_law 243 = .ok (.iload 4, 2) := by decide +kernel
theorem dL_law_245 : decode cL_law 245 = .ok (.iconst 1, 1) := by decide +kernel
theorem dL_law_246 : decode cL_law 246 = .ok (.iadd, 1) := by decide +kernel
theorem dL_law_247 : decode cL_law 247 = .ok (.iaload, 1) := by decide +kernel
theorem dL_law_248 : decode cL_law 248 = .ok (.aload_n 3, 1) := by decide +kernel
theorem dL_law_249 : decode cL_law 249 = .ok (.invokestatic 56, 3) := by decide +kernel
theorem dL_law_252 : decode cL_law 252 = .ok (.istore 5, 2) := by decide +kernel
theorem dL_law_254 : decode cL_law 254 = .ok (.aload_n 2, 1) := by decide +kernel
theorem dL_law_255 : decode cL_law 255 = .ok (.aload_n 0, 1) := by decide +kernel
theorem dL_law_256 : decode cL_law 256 = .ok (.iload 4, 2) := by decide +kernel
theorem dL_law_258 : decode cL_law 258 = .ok (.iconst 1, 1) := by decide +kernel
theorem dL_law_259 : decode cL_law 259 = .ok (.iadd, 1) := by decide +kernel
theorem dL_law_260 : decode cL_law 260 = .ok (.iaload, 1) := by decide +kernel
theorem dL_law_261 : decode cL_law 261 = .ok (.invokevirtual 59, 3) := by decide +kernel
theorem dL_law_264 : decode cL_law 264 = .ok (.istore 6, 2) := by decide +kernel
theorem dL_law_266 : decode cL_law 266 = .ok (.aload_n 2, 1) := by decide +kernel
theorem dL_law_267 : decode cL_law 267 = .ok (.invokevirtual 44, 3) := by decide +kernel
theorem dL_law_270 : decode cL_law 270 = .ok (.iload 5, 2) := by decide +kernel
theorem dL_law_272 : decode cL_law 272 = .ok (.if_icmp .eq 5, 3) := by decide +kernel
theorem dL_law_275 : decode cL_law 275 = .ok (.iconst 0, 1) := by decide +kernel
theorem dL_law_276 : decode cL_law 276 = .ok (.ireturn, 1) := by decide +kernel
theorem dL_law_277 : decode cL_law 277 = .ok (.iload 5, 2) := by decide +kernel
theorem dL_law_279 : decode cL_law 279 = .ok (.ifCond .ne 15, 3) := by decide +kernel
theorem dL_law_282 : decode cL_law 282 = .ok (.aload_n 3, 1) := by decide +kernel
theorem dL_law_283 : decode cL_law 283 = .ok (.iconst 0, 1) := by decide +kernel
theorem dL_law_284 : decode cL_law 284 = .ok (.laload, 1) := by decide +kernel
theorem dL_law_285 : decode cL_law 285 = .ok (.iload 6, 2) := by decide +kernel
theorem dL_law_287 : decode cL_law 287 = .ok (.i2l, 1) := by decide +kernel
theorem dL_law_288 : decode cL_law 288 = .ok (.lcmp, 1) := by decide +kernel
theorem dL_law_289 : decode cL_law 289 = .ok (.ifCond .eq 5, 3) := by decide +kernel
theorem dL_law_292 : decode cL_law 292 = .ok (.iconst 0, 1) := by decide +kernel
theorem dL_law_293 : decode cL_law 293 = .ok (.ireturn, 1) := by decide +kernel
theorem dL_law_294 : decode cL_law 294 = .ok (.goto 144, 3) := by decide +kernel
theorem dL_law_297 : decode cL_law 297 = .ok (.aload_n 1, 1) := by decide +kernel
theorem dL_law_298 : decode cL_law 298 = .ok (.invokevirtual 60, 3) := by decide +kernel
theorem dL_law_301 : decode cL_law 301 = .ok (.aload_n 2, 1) := by decide +kernel
theorem dL_law_302 : decode cL_law 302 = .ok (.invokevirtual 63, 3) := by decide +kernel
theorem dL_law_305 : decode cL_law 305 = .ok (.if_icmp .eq 133, 3) := by decide +kernel
theorem dL_law_308 : decode cL_law 308 = .ok (.iconst 0, 1) := by decide +kernel
theorem dL_law_309 : decode cL_law 309 = .ok (.ireturn, 1) := by decide +kernel
theorem dL_law_310 : decode cL_law 310 = .ok (.aload_n 1, 1) := by decide +kernel
theorem dL_law_311 : decode cL_law 311 = .ok (.invokevirtual 64, 3) := by decide +kernel
theorem dL_law_314 : decode cL_law 314 = .ok (.aload_n 2, 1) := by decide +kernel
theorem dL_law_315 : decode cL_law 315 = .ok (.invokevirtual 67, 3) := by decide +kernel
theorem dL_law_318 : decode cL_law 318 = .ok (.if_icmp .eq 120, 3) := by decide +kernel
theorem dL_law_321 : decode cL_law 321 = .ok (.iconst 0, 1) := by decide +kernel
theorem dL_law_322 : decode cL_law 322 = .ok (.ireturn, 1) := by decide +kernel
theorem dL_law_323 : decode cL_law 323 = .ok (.aload_n 1, 1) := by decide +kernel
theorem dL_law_324 : decode cL_law 324 = .ok (.invokevirtual 68, 3) := by decide +kernel
theorem dL_law_327 : decode cL_law 327 = .ok (.aload_n 2, 1) := by decide +kernel
theorem dL_law_328 : decode cL_law 328 = .ok (.invokevirtual 71, 3) := by decide +kernel
theorem dL_law_331 : decode cL_law 331 = .ok (.if_icmp .eq 107, 3) := by decide +kernel
theorem dL_law_334 : decode cL_law 334 = .ok (.iconst 0, 1) := by decide +kernel
theorem dL_law_335 : decode cL_law 335 = .ok (.ireturn, 1) := by decide +kernel
theorem dL_law_336 : decode cL_law 336 = .ok (.aload_n 1, 1) := by decide +kernel
theorem dL_law_337 : decode cL_law 337 = .ok (.invokevirtual 72, 3) := by decide +kernel
theorem dL_law_340 : decode cL_law 340 = .ok (.aload_n 2, 1) := by decide +kernel
theorem dL_law_341 : decode cL_law 341 = .ok (.invokevirtual 75, 3) := by decide +kernel
theorem dL_law_344 : decode cL_law 344 = .ok (.if_icmp .eq 94, 3) := by decide +kernel
theorem dL_law_347 : decode cL_law 347 = .ok (.iconst 0, 1) := by decide +kernel
theorem dL_law_348 : decode cL_law 348 = .ok (.ireturn, 1) := by decide +kernel
theorem dL_law_349 : decode cL_law 349 = .ok (.aload_n 1, 1) := by decide +kernel
theorem dL_law_350 : decode cL_law 350 = .ok (.invokevirtual 76, 3) := by decide +kernel
theorem dL_law_353 : decode cL_law 353 = .ok (.aload_n 2, 1) := by decide +kernel
theorem dL_law_354 : decode cL_law 354 = .ok (.invokevirtual 79, 3) := by decide +kernel
theorem dL_law_357 : decode cL_law 357 = .ok (.if_icmp .eq 81, 3) := by decide +kernel
theorem dL_law_360 : decode cL_law 360 = .ok (.iconst 0, 1) := by decide +kernel
theorem dL_law_361 : decode cL_law 361 = .ok (.ireturn, 1) := by decide +kernel
theorem dL_law_362 : decode cL_law 362 = .ok (.aload_n 1, 1) := by decide +kernel
theorem dL_law_363 : decode cL_law 363 = .ok (.invokevirtual 80, 3) := by decide +kernel
theorem dL_law_366 : decode cL_law 366 = .ok (.aload_n 2, 1) := by decide +kernel
theorem dL_law_367 : decode cL_law 367 = .ok (.invokevirtual 83, 3) := by decide +kernel
theorem dL_law_370 : decode cL_law 370 = .ok (.if_icmp .eq 68, 3) := by decide +kernel
theorem dL_law_373 : decode cL_law 373 = .ok (.iconst 0, 1) := by decide +kernel
theorem dL_law_374 : decode cL_law 374 = .ok (.ireturn, 1) := by decide +kernel
theorem dL_law_375 : decode cL_law 375 = .ok (.aload_n 1, 1) := by decide +kernel
theorem dL_law_376 : decode cL_law 376 = .ok (.invokevirtual 84, 3) := by decide +kernel
theorem dL_law_379 : decode cL_law 379 = .ok (.aload_n 2, 1) := by decide +kernel
theorem dL_law_380 : decode cL_law 380 = .ok (.invokevirtual 87, 3) := by decide +kernel
theorem dL_law_383 : decode cL_law 383 = .ok (.if_icmp .eq 55, 3) := by decide +kernel
theorem dL_law_386 : decode cL_law 386 = .ok (.iconst 0, 1) := by decide +kernel
theorem dL_law_387 : decode cL_law 387 = .ok (.ireturn, 1) := by decide +kernel
theorem dL_law_388 : decode cL_law 388 = .ok (.aload_n 1, 1) := by decide +kernel
theorem dL_law_389 : decode cL_law 389 = .ok (.aload_n 0, 1) := by decide +kernel
theorem dL_law_390 : decode cL_law 390 = .ok (.iload 4, 2) := by decide +kernel
theorem dL_law_392 : decode cL_law 392 = .ok (.iconst 1, 1) := by decide +kernel
theorem dL_law_393 : decode cL_law 393 = .ok (.iadd, 1) := by decide +kernel
theorem dL_law_394 : decode cL_law 394 = .ok (.iaload, 1) := by decide +kernel
theorem dL_law_395 : decode cL_law 395 = .ok (.invokevirtual 88, 3) := by decide +kernel
theorem dL_law_398 : decode cL_law 398 = .ok (.aload_n 2, 1) := by decide +kernel
theorem dL_law_399 : decode cL_law 399 = .ok (.aload_n 0, 1) := by decide +kernel
theorem dL_law_400 : decode cL_law 400 = .ok (.iload 4, 2) := by decide +kernel
theorem dL_law_402 : decode cL_law 402 = .ok (.iconst 1, 1) := by decide +kernel
theorem dL_law_403 : decode cL_law 403 = .ok (.iadd, 1) := by decide +kernel
theorem dL_law_404 : decode cL_law 404 = .ok (.iaload, 1) := by decide +kernel
theorem dL_law_405 : decode cL_law 405 = .ok (.invokevirtual 91, 3) := by decide +kernel
theorem dL_law_408 : decode cL_law 408 = .ok (.if_icmp .eq 30, 3) := by decide +kernel
theorem dL_law_411 : decode cL_law 411 = .ok (.iconst 0, 1) := by decide +kernel
theorem dL_law_412 : decode cL_law 412 = .ok (.ireturn, 1) := by decide +kernel
theorem dL_law_413 : decode cL_law 413 = .ok (.aload_n 1, 1) := by decide +kernel
theorem dL_law_414 : decode cL_law 414 = .ok (.aload_n 0, 1) := by decide +kernel
theorem dL_law_415 : decode cL_law 415 = .ok (.iload 4, 2) := by decide +kernel
theorem dL_law_417 : decode cL_law 417 = .ok (.iconst 1, 1) := by decide +kernel
theorem dL_law_418 : decode cL_law 418 = .ok (.iadd, 1) := by decide +kernel
theorem dL_law_419 : decode cL_law 419 = .ok (.iaload, 1) := by decide +kernel
theorem dL_law_420 : decode cL_law 420 = .ok (.invokevirtual 92, 3) := by decide +kernel
theorem dL_law_423 : decode cL_law 423 = .ok (.aload_n 2, 1) := by decide +kernel
theorem dL_law_424 : decode cL_law 424 = .ok (.aload_n 0, 1) := by decide +kernel
theorem dL_law_425 : decode cL_law 425 = .ok (.iload 4, 2) := by decide +kernel
theorem dL_law_427 : decode cL_law 427 = .ok (.iconst 1, 1) := by decide +kernel
theorem dL_law_428 : decode cL_law 428 = .ok (.iadd, 1) := by decide +kernel
theorem dL_law_429 : decode cL_law 429 = .ok (.iaload, 1) := by decide +kernel
theorem dL_law_430 : decode cL_law 430 = .ok (.invokevirtual 95, 3) := by decide +kernel
theorem dL_law_433 : decode cL_law 433 = .ok (.if_icmp .eq 5, 3) := by decide +kernel
theorem dL_law_436 : decode cL_law 436 = .ok (.iconst 0, 1) := by decide +kernel
theorem dL_law_437 : decode cL_law 437 = .ok (.ireturn, 1) := by decide +kernel
theorem dL_law_438 : decode cL_law 438 = .ok (.iinc 4 3, 3) := by decide +kernel
theorem dL_law_441 : decode cL_law 441 = .ok (.goto (-408), 3) := by decide +kernel
theorem dL_law_444 : decode cL_law 444 = .ok (.iconst 1, 1) := by decide +kernel
theorem dL_law_445 : decode cL_law 445 = .ok (.ireturn, 1) := by decide +kernel
