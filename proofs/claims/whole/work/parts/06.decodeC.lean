theorem dX7_generate_317 : decode cX7_generate 317 = .ok (.iconst 2, 1) := by decide +kernel
theorem dX7_generate_318 : decode cX7_generate 318 = .ok (.iload_n 3, 1) := by decide +kernel
theorem dX7_generate_319 : decode cX7_generate 319 = .ok (.iconst 0, 1) := by decide +kernel
theorem dX7_generate_320 : decode cX7_generate 320 = .ok (.invokevirtual 253, 3) := by decide +kernel
theorem dX7_generate_323 : decode cX7_generate 323 = .ok (.aload_n 0, 1) := by decide +kernel
theorem dX7_generate_324 : decode cX7_generate 324 = .ok (.bipush 12, 2) := by decide +kernel
theorem dX7_generate_326 : decode cX7_generate 326 = .ok (.iconst 0, 1) := by decide +kernel
theorem dX7_generate_327 : decode cX7_generate 327 = .ok (.invokevirtual 260, 3) := by decide +kernel
theorem dX7_generate_330 : decode cX7_generate 330 = .ok (.aload_n 0, 1) := by decide +kernel
theorem dX7_generate_331 : decode cX7_generate 331 = .ok (.iload_n 2, 1) := by decide +kernel
theorem dX7_generate_332 : decode cX7_generate 332 = .ok (.invokevirtual 263, 3) := by decide +kernel
theorem dX7_generate_335 : decode cX7_generate 335 = .ok (.return_, 1) := by decide +kernel
theorem dX7_generate_336 : decode cX7_generate 336 = .ok (.aload_n 0, 1) := by decide +kernel
theorem dX7_generate_337 : decode cX7_generate 337 = .ok (.iconst 3, 1) := by decide +kernel
theorem dX7_generate_338 : decode cX7_generate 338 = .ok (.iload_n 1, 1) := by decide +kernel
theorem dX7_generate_339 : decode cX7_generate 339 = .ok (.iconst 0, 1) := by decide +kernel
theorem dX7_generate_340 : decode cX7_generate 340 = .ok (.invokevirtual 253, 3) := by decide +kernel
theorem dX7_generate_343 : decode cX7_generate 343 = .ok (.aload_n 0, 1) := by decide +kernel
theorem dX7_generate_344 : decode cX7_generate 344 = .ok (.iload_n 2, 1) := by decide +kernel
theorem dX7_generate_345 : decode cX7_generate 345 = .ok (.invokevirtual 263, 3) := by decide +kernel
theorem dX7_generate_348 : decode cX7_generate 348 = .ok (.return_, 1) := by decide +kernel
theorem dX7_generateBuilt_0 : decode cX7_generateBuilt 0 = .ok (.aload_n 0, 1) := by decide +kernel
theorem dX7_generateBuilt_1 : decode cX7_generateBuilt 1 = .ok (.getfield 33, 3) := by decide +kernel
theorem dX7_generateBuilt_4 : decode cX7_generateBuilt 4 = .ok (.iload_n 1, 1) := by decide +kernel
theorem dX7_generateBuilt_5 : decode cX7_generateBuilt 5 = .ok (.iaload, 1) := by decide +kernel
theorem dX7_generateBuilt_6 : decode cX7_generateBuilt 6 = .ok (.ifCond .ne 17, 3) := by decide +kernel
theorem dX7_generateBuilt_9 : decode cX7_generateBuilt 9 = .ok (.aload_n 0, 1) := by decide +kernel
theorem dX7_generateBuilt_10 : decode cX7_generateBuilt 10 = .ok (.bipush 16, 2) := by decide +kernel
theorem dX7_generateBuilt_12 : decode cX7_generateBuilt 12 = .ok (.aload_n 0, 1) := by decide +kernel
theorem dX7_generateBuilt_13 : decode cX7_generateBuilt 13 = .ok (.getfield 24, 3) := by decide +kernel
theorem dX7_generateBuilt_16 : decode cX7_generateBuilt 16 = .ok (.iload_n 1, 1) := by decide +kernel
theorem dX7_generateBuilt_17 : decode cX7_generateBuilt 17 = .ok (.iaload, 1) := by decide +kernel
theorem dX7_generateBuilt_18 : decode cX7_generateBuilt 18 = .ok (.iconst 0, 1) := by decide +kernel
theorem dX7_generateBuilt_19 : decode cX7_generateBuilt 19 = .ok (.invokevirtual 257, 3) := by decide +kernel
theorem dX7_generateBuilt_22 : decode cX7_generateBuilt 22 = .ok (.return_, 1) := by decide +kernel
theorem dX7_generateBuilt_23 : decode cX7_generateBuilt 23 = .ok (.aload_n 0, 1) := by decide +kernel
theorem dX7_generateBuilt_24 : decode cX7_generateBuilt 24 = .ok (.bipush 17, 2) := by decide +kernel
theorem dX7_generateBuilt_26 : decode cX7_generateBuilt 26 = .ok (.aload_n 0, 1) := by decide +kernel
theorem dX7_generateBuilt_27 : decode cX7_generateBuilt 27 = .ok (.getfield 24, 3) := by decide +kernel
theorem dX7_generateBuilt_30 : decode cX7_generateBuilt 30 = .ok (.iload_n 1, 1) := by decide +kernel
theorem dX7_generateBuilt_31 : decode cX7_generateBuilt 31 = .ok (.iaload, 1) := by decide +kernel
theorem dX7_generateBuilt_32 : decode cX7_generateBuilt 32 = .ok (.invokevirtual 260, 3) := by decide +kernel
theorem dX7_generateBuilt_35 : decode cX7_generateBuilt 35 = .ok (.aload_n 0, 1) := by decide +kernel
theorem dX7_generateBuilt_36 : decode cX7_generateBuilt 36 = .ok (.getfield 33, 3) := by decide +kernel
theorem dX7_generateBuilt_39 : decode cX7_generateBuilt 39 = .ok (.iload_n 1, 1) := by decide +kernel
theorem dX7_generateBuilt_40 : decode cX7_generateBuilt 40 = .ok (.iaload, 1) := by decide +kernel
theorem dX7_generateBuilt_41 : decode cX7_generateBuilt 41 = .ok (.iconst 1, 1) := by decide +kernel
theorem dX7_generateBuilt_42 : decode cX7_generateBuilt 42 = .ok (.isub, 1) := by decide +kernel
theorem dX7_generateBuilt_43 : decode cX7_generateBuilt 43 = .ok (.istore_n 2, 1) := by decide +kernel
theorem dX7_generateBuilt_44 : decode cX7_generateBuilt 44 = .ok (.iload_n 2, 1) := by decide +kernel
theorem dX7_generateBuilt_45 : decode cX7_generateBuilt 45 = .ok (.ifCond .lt 37, 3) := by decide +kernel
theorem dX7_generateBuilt_48 : decode cX7_generateBuilt 48 = .ok (.iload_n 2, 1) := by decide +kernel
theorem dX7_generateBuilt_49 : decode cX7_generateBuilt 49 = .ok (.aload_n 0, 1) := by decide +kernel
theorem dX7_generateBuilt_50 : decode cX7_generateBuilt 50 = .ok (.getfield 33, 3) := by decide +kernel
theorem dX7_generateBuilt_53 : decode cX7_generateBuilt 53 = .ok (.iload_n 1, 1) := by decide +kernel
theorem dX7_generateBuilt_54 : decode cX7_generateBuilt 54 = .ok (.iaload, 1) := by decide +kernel
theorem dX7_generateBuilt_55 : decode cX7_generateBuilt 55 = .ok (.iconst 1, 1) := by decide +kernel
theorem dX7_generateBuilt_56 : decode cX7_generateBuilt 56 = .ok (.isub, 1) := by decide +kernel
theorem dX7_generateBuilt_57 : decode cX7_generateBuilt 57 = .ok (.if_icmp .ge 9, 3) := by decide +kernel
theorem dX7_generateBuilt_60 : decode cX7_generateBuilt 60 = .ok (.aload_n 0, 1) := by decide +kernel
theorem dX7_generateBuilt_61 : decode cX7_generateBuilt 61 = .ok (.iconst 3, 1) := by decide +kernel
theorem dX7_generateBuilt_62 : decode cX7_generateBuilt 62 = .ok (.iconst 0, 1) := by decide +kernel
theorem dX7_generateBuilt_63 : decode cX7_generateBuilt 63 = .ok (.invokevirtual 260, 3) := by decide +kernel
theorem dX7_generateBuilt_66 : decode cX7_generateBuilt 66 = .ok (.aload_n 0, 1) := by decide +kernel
theorem dX7_generateBuilt_67 : decode cX7_generateBuilt 67 = .ok (.aload_n 0, 1) := by decide +kernel
theorem dX7_generateBuilt_68 : decode cX7_generateBuilt 68 = .ok (.iload_n 1, 1) := by decide +kernel
theorem dX7_generateBuilt_69 : decode cX7_generateBuilt 69 = .ok (.iload_n 2, 1) := by decide +kernel
theorem dX7_generateBuilt_70 : decode cX7_generateBuilt 70 = .ok (.invokevirtual 220, 3) := by decide +kernel
theorem dX7_generateBuilt_73 : decode cX7_generateBuilt 73 = .ok (.invokevirtual 263, 3) := by decide +kernel
theorem dX7_generateBuilt_76 : decode cX7_generateBuilt 76 = .ok (.iinc 2 (-1), 3) := by decide +kernel
theorem dX7_generateBuilt_79 : decode cX7_generateBuilt 79 = .ok (.goto (-35), 3) := by decide +kernel
theorem dX7_generateBuilt_82 : decode cX7_generateBuilt 82 = .ok (.return_, 1) := by decide +kernel
theorem dX7_generateSwitch_0 : decode cX7_generateSwitch 0 = .ok (.aload_n 0, 1) := by decide +kernel
theorem dX7_generateSwitch_1 : decode cX7_generateSwitch 1 = .ok (.getfield 33, 3) := by decide +kernel
theorem dX7_generateSwitch_4 : decode cX7_generateSwitch 4 = .ok (.iload_n 1, 1) := by decide +kernel
theorem dX7_generateSwitch_5 : decode cX7_generateSwitch 5 = .ok (.iaload, 1) := by decide +kernel
theorem dX7_generateSwitch_6 : decode cX7_generateSwitch 6 = .ok (.iconst 1, 1) := by decide +kernel
theorem dX7_generateSwitch_7 : decode cX7_generateSwitch 7 = .ok (.isub, 1) := by decide +kernel
theorem dX7_generateSwitch_8 : decode cX7_generateSwitch 8 = .ok (.istore_n 2, 1) := by decide +kernel
theorem dX7_generateSwitch_9 : decode cX7_generateSwitch 9 = .ok (.aload_n 0, 1) := by decide +kernel
theorem dX7_generateSwitch_10 : decode cX7_generateSwitch 10 = .ok (.bipush 18, 2) := by decide +kernel
theorem dX7_generateSwitch_12 : decode cX7_generateSwitch 12 = .ok (.iload_n 2, 1) := by decide +kernel
theorem dX7_generateSwitch_13 : decode cX7_generateSwitch 13 = .ok (.iconst 0, 1) := by decide +kernel
theorem dX7_generateSwitch_14 : decode cX7_generateSwitch 14 = .ok (.invokevirtual 257, 3) := by decide +kernel
theorem dX7_generateSwitch_17 : decode cX7_generateSwitch 17 = .ok (.aload_n 0, 1) := by decide +kernel
theorem dX7_generateSwitch_18 : decode cX7_generateSwitch 18 = .ok (.getfield 247, 3) := by decide +kernel
theorem dX7_generateSwitch_21 : decode cX7_generateSwitch 21 = .ok (.istore_n 3, 1) := by decide +kernel
theorem dX7_generateSwitch_22 : decode cX7_generateSwitch 22 = .ok (.iconst 1, 1) := by decide +kernel
theorem dX7_generateSwitch_23 : decode cX7_generateSwitch 23 = .ok (.istore 4, 2) := by decide +kernel
theorem dX7_generateSwitch_25 : decode cX7_generateSwitch 25 = .ok (.iload 4, 2) := by decide +kernel
theorem dX7_generateSwitch_27 : decode cX7_generateSwitch 27 = .ok (.iload_n 2, 1) := by decide +kernel
theorem dX7_generateSwitch_28 : decode cX7_generateSwitch 28 = .ok (.if_icmp .gt 28, 3) := by decide +kernel
theorem dX7_generateSwitch_31 : decode cX7_generateSwitch 31 = .ok (.aload_n 0, 1) := by decide +kernel
theorem dX7_generateSwitch_32 : decode cX7_generateSwitch 32 = .ok (.bipush 19, 2) := by decide +kernel
theorem dX7_generateSwitch_34 : decode cX7_generateSwitch 34 = .ok (.aload_n 0, 1) := by decide +kernel
theorem dX7_generateSwitch_35 : decode cX7_generateSwitch 35 = .ok (.getfield 24, 3) := by decide +kernel
theorem dX7_generateSwitch_38 : decode cX7_generateSwitch 38 = .ok (.aload_n 0, 1) := by decide +kernel
theorem dX7_generateSwitch_39 : decode cX7_generateSwitch 39 = .ok (.iload_n 1, 1) := by decide +kernel
theorem dX7_generateSwitch_40 : decode cX7_generateSwitch 40 = .ok (.iload 4, 2) := by decide +kernel
theorem dX7_generateSwitch_42 : decode cX7_generateSwitch 42 = .ok (.invokevirtual 220, 3) := by decide +kernel
theorem dX7_generateSwitch_45 : decode cX7_generateSwitch 45 = .ok (.iaload, 1) := by decide +kernel
theorem dX7_generateSwitch_46 : decode cX7_generateSwitch 46 = .ok (.iconst 0, 1) := by decide +kernel
theorem dX7_generateSwitch_47 : decode cX7_generateSwitch 47 = .ok (.invokevirtual 257, 3) := by decide +kernel
theorem dX7_generateSwitch_50 : decode cX7_generateSwitch 50 = .ok (.iinc 4 1, 3) := by decide +kernel
theorem dX7_generateSwitch_53 : decode cX7_generateSwitch 53 = .ok (.goto (-28), 3) := by decide +kernel
theorem dX7_generateSwitch_56 : decode cX7_generateSwitch 56 = .ok (.aload_n 0, 1) := by decide +kernel
theorem dX7_generateSwitch_57 : decode cX7_generateSwitch 57 = .ok (.getfield 36, 3) := by decide +kernel
theorem dX7_generateSwitch_60 : decode cX7_generateSwitch 60 = .ok (.iload_n 1, 1) := by decide +kernel
theorem dX7_generateSwitch_61 : decode cX7_generateSwitch 61 = .ok (.iconst 0, 1) := by decide +kernel
theorem dX7_generateSwitch_62 : decode cX7_generateSwitch 62 = .ok (.bastore, 1) := by decide +kernel
theorem dX7_generateSwitch_63 : decode cX7_generateSwitch 63 = .ok (.aload_n 0, 1) := by decide +kernel
theorem dX7_generateSwitch_64 : decode cX7_generateSwitch 64 = .ok (.getfield 24, 3) := by decide +kernel
theorem dX7_generateSwitch_67 : decode cX7_generateSwitch 67 = .ok (.iload_n 1, 1) := by decide +kernel
theorem dX7_generateSwitch_68 : decode cX7_generateSwitch 68 = .ok (.iconst (-1), 1) := by decide +kernel
theorem dX7_generateSwitch_69 : decode cX7_generateSwitch 69 = .ok (.iastore, 1) := by decide +kernel
theorem dX7_generateSwitch_70 : decode cX7_generateSwitch 70 = .ok (.aload_n 0, 1) := by decide +kernel
theorem dX7_generateSwitch_71 : decode cX7_generateSwitch 71 = .ok (.bipush 6, 2) := by decide +kernel
theorem dX7_generateSwitch_73 : decode cX7_generateSwitch 73 = .ok (.iload_n 1, 1) := by decide +kernel
theorem dX7_generateSwitch_74 : decode cX7_generateSwitch 74 = .ok (.iconst 0, 1) := by decide +kernel
theorem dX7_generateSwitch_75 : decode cX7_generateSwitch 75 = .ok (.invokevirtual 253, 3) := by decide +kernel
theorem dX7_generateSwitch_78 : decode cX7_generateSwitch 78 = .ok (.iload_n 2, 1) := by decide +kernel
theorem dX7_generateSwitch_79 : decode cX7_generateSwitch 79 = .ok (.istore 4, 2) := by decide +kernel
theorem dX7_generateSwitch_81 : decode cX7_generateSwitch 81 = .ok (.iload 4, 2) := by decide +kernel
theorem dX7_generateSwitch_83 : decode cX7_generateSwitch 83 = .ok (.iconst 1, 1) := by decide +kernel
theorem dX7_generateSwitch_84 : decode cX7_generateSwitch 84 = .ok (.if_icmp .lt 56, 3) := by decide +kernel
theorem dX7_generateSwitch_87 : decode cX7_generateSwitch 87 = .ok (.aload_n 0, 1) := by decide +kernel
theorem dX7_generateSwitch_88 : decode cX7_generateSwitch 88 = .ok (.iconst 5, 1) := by decide +kernel
theorem dX7_generateSwitch_89 : decode cX7_generateSwitch 89 = .ok (.aload_n 0, 1) := by decide +kernel
theorem dX7_generateSwitch_90 : decode cX7_generateSwitch 90 = .ok (.iload_n 1, 1) := by decide +kernel
theorem dX7_generateSwitch_91 : decode cX7_generateSwitch 91 = .ok (.iload 4, 2) := by decide +kernel
theorem dX7_generateSwitch_93 : decode cX7_generateSwitch 93 = .ok (.invokevirtual 220, 3) := by decide +kernel
theorem dX7_generateSwitch_96 : decode cX7_generateSwitch 96 = .ok (.iload_n 1, 1) := by decide +kernel
theorem dX7_generateSwitch_97 : decode cX7_generateSwitch 97 = .ok (.invokevirtual 253, 3) := by decide +kernel
theorem dX7_generateSwitch_100 : decode cX7_generateSwitch 100 = .ok (.aload_n 0, 1) := by decide +kernel
theorem dX7_generateSwitch_101 : decode cX7_generateSwitch 101 = .ok (.aload_n 0, 1) := by decide +kernel
theorem dX7_generateSwitch_102 : decode cX7_generateSwitch 102 = .ok (.getfield 27, 3) := by decide +kernel
theorem dX7_generateSwitch_105 : decode cX7_generateSwitch 105 = .ok (.aload_n 0, 1) := by decide +kernel
theorem dX7_generateSwitch_106 : decode cX7_generateSwitch 106 = .ok (.iload_n 1, 1) := by decide +kernel
theorem dX7_generateSwitch_107 : decode cX7_generateSwitch 107 = .ok (.iload 4, 2) := by decide +kernel
theorem dX7_generateSwitch_109 : decode cX7_generateSwitch 109 = .ok (.invokevirtual 220, 3) := by decide +kernel
theorem dX7_generateSwitch_112 : decode cX7_generateSwitch 112 = .ok (.iaload, 1) := by decide +kernel
theorem dX7_generateSwitch_113 : decode cX7_generateSwitch 113 = .ok (.invokevirtual 263, 3) := by decide +kernel
theorem dX7_generateSwitch_116 : decode cX7_generateSwitch 116 = .ok (.aload_n 0, 1) := by decide +kernel
theorem dX7_generateSwitch_117 : decode cX7_generateSwitch 117 = .ok (.iconst 4, 1) := by decide +kernel
theorem dX7_generateSwitch_118 : decode cX7_generateSwitch 118 = .ok (.aload_n 0, 1) := by decide +kernel
theorem dX7_generateSwitch_119 : decode cX7_generateSwitch 119 = .ok (.iload_n 1, 1) := by decide +kernel
theorem dX7_generateSwitch_120 : decode cX7_generateSwitch 120 = .ok (.iload 4, 2) := by decide +kernel
theorem dX7_generateSwitch_122 : decode cX7_generateSwitch 122 = .ok (.invokevirtual 220, 3) := by decide +kernel
theorem dX7_generateSwitch_125 : decode cX7_generateSwitch 125 = .ok (.iload_n 3, 1) := by decide +kernel
theorem dX7_generateSwitch_126 : decode cX7_generateSwitch 126 = .ok (.iload 4, 2) := by decide +kernel
theorem dX7_generateSwitch_128 : decode cX7_generateSwitch 128 = .ok (.iadd, 1) := by decide +kernel
theorem dX7_generateSwitch_129 : decode cX7_generateSwitch 129 = .ok (.iconst 1, 1) := by decide +kernel
theorem dX7_generateSwitch_130 : decode cX7_generateSwitch 130 = .ok (.isub, 1) := by decide +kernel
theorem dX7_generateSwitch_131 : decode cX7_generateSwitch 131 = .ok (.invokevirtual 253, 3) := by decide +kernel
theorem dX7_generateSwitch_134 : decode cX7_generateSwitch 134 = .ok (.iinc 4 (-1), 3) := by decide +kernel
theorem dX7_generateSwitch_137 : decode cX7_generateSwitch 137 = .ok (.goto (-56), 3) := by decide +kernel
theorem dX7_generateSwitch_140 : decode cX7_generateSwitch 140 = .ok (.return_, 1) := by decide +kernel
theorem dX7_doWork_0 : decode cX7_doWork 0 = .ok (.aload_n 0, 1) := by decide +kernel
theorem dX7_doWork_1 : decode cX7_doWork 1 = .ok (.dup, 1) := by decide +kernel
theorem dX7_doWork_2 : decode cX7_doWork 2 = .ok (.getfield 250, 3) := by decide +kernel
theorem dX7_doWork_5 : decode cX7_doWork 5 = .ok (.iconst 1, 1) := by decide +kernel
theorem dX7_doWork_6 : decode cX7_doWork 6 = .ok (.isub, 1) := by decide +kernel
theorem dX7_doWork_7 : decode cX7_doWork 7 = .ok (.putfield 250, 3) := by decide +kernel
theorem dX7_doWork_10 : decode cX7_doWork 10 = .ok (.aload_n 0, 1) := by decide +kernel
theorem dX7_doWork_11 : decode cX7_doWork 11 = .ok (.getfield 85, 3) := by decide +kernel
theorem dX7_doWork_14 : decode cX7_doWork 14 = .ok (.aload_n 0, 1) := by decide +kernel
theorem dX7_doWork_15 : decode cX7_doWork 15 = .ok (.getfield 250, 3) := by decide +kernel
theorem dX7_doWork_18 : decode cX7_doWork 18 = .ok (.iaload, 1) := by decide +kernel
theorem dX7_doWork_19 : decode cX7_doWork 19 = .ok (.istore_n 1, 1) := by decide +kernel
theorem dX7_doWork_20 : decode cX7_doWork 20 = .ok (.aload_n 0, 1) := by decide +kernel
theorem dX7_doWork_21 : decode cX7_doWork 21 = .ok (.getfield 88, 3) := by decide +kernel
theorem dX7_doWork_24 : decode cX7_doWork 24 = .ok (.aload_n 0, 1) := by decide +kernel
theorem dX7_doWork_25 : decode cX7_doWork 25 = .ok (.getfield 250, 3) := by decide +kernel
theorem dX7_doWork_28 : decode cX7_doWork 28 = .ok (.iaload, 1) := by decide +kernel
theorem dX7_doWork_29 : decode cX7_doWork 29 = .ok (.istore_n 2, 1) := by decide +kernel
theorem dX7_doWork_30 : decode cX7_doWork 30 = .ok (.aload_n 0, 1) := by decide +kernel
theorem dX7_doWork_31 : decode cX7_doWork 31 = .ok (.getfield 91, 3) := by decide +kernel
theorem dX7_doWork_34 : decode cX7_doWork 34 = .ok (.aload_n 0, 1) := by decide +kernel
theorem dX7_doWork_35 : decode cX7_doWork 35 = .ok (.getfield 250, 3) := by decide +kernel
theorem dX7_doWork_38 : decode cX7_doWork 38 = .ok (.iaload, 1) := by decide +kernel
theorem dX7_doWork_39 : decode cX7_doWork 39 = .ok (.istore_n 3, 1) := by decide +kernel
theorem dX7_doWork_40 : decode cX7_doWork 40 = .ok (.iload_n 1, 1) := by decide +kernel
theorem dX7_doWork_41 : decode cX7_doWork 41 = .ok (.iconst 4, 1) := by decide +kernel
theorem dX7_doWork_42 : decode cX7_doWork 42 = .ok (.if_icmp .eq 8, 3) := by decide +kernel
theorem dX7_doWork_45 : decode cX7_doWork 45 = .ok (.iload_n 1, 1) := by decide +kernel
theorem dX7_doWork_46 : decode cX7_doWork 46 = .ok (.iconst 5, 1) := by decide +kernel
theorem dX7_doWork_47 : decode cX7_doWork 47 = .ok (.if_icmp .ne 14, 3) := by decide +kernel
theorem dX7_doWork_50 : decode cX7_doWork 50 = .ok (.aload_n 0, 1) := by decide +kernel
theorem dX7_doWork_51 : decode cX7_doWork 51 = .ok (.getfield 24, 3) := by decide +kernel
theorem dX7_doWork_54 : decode cX7_doWork 54 = .ok (.iload_n 2, 1) := by decide +kernel
theorem dX7_doWork_55 : decode cX7_doWork 55 = .ok (.iaload, 1) := by decide +kernel
theorem dX7_doWork_56 : decode cX7_doWork 56 = .ok (.iconst 4, 1) := by decide +kernel
theorem dX7_doWork_57 : decode cX7_doWork 57 = .ok (.irem, 1) := by decide +kernel
theorem dX7_doWork_58 : decode cX7_doWork 58 = .ok (.goto 4, 3) := by decide +kernel
theorem dX7_doWork_61 : decode cX7_doWork 61 = .ok (.iconst 0, 1) := by decide +kernel
theorem dX7_doWork_62 : decode cX7_doWork 62 = .ok (.istore 4, 2) := by decide +kernel
theorem dX7_doWork_64 : decode cX7_doWork 64 = .ok (.iload_n 1, 1) := by decide +kernel
theorem dX7_doWork_65 : decode cX7_doWork 65 = .ok (.ifCond .ne 11, 3) := by decide +kernel
theorem dX7_doWork_68 : decode cX7_doWork 68 = .ok (.aload_n 0, 1) := by decide +kernel
theorem dX7_doWork_69 : decode cX7_doWork 69 = .ok (.iload_n 2, 1) := by decide +kernel
theorem dX7_doWork_70 : decode cX7_doWork 70 = .ok (.invokevirtual 269, 3) := by decide +kernel
theorem dX7_doWork_73 : decode cX7_doWork 73 = .ok (.goto 133, 3) := by decide +kernel
theorem dX7_doWork_76 : decode cX7_doWork 76 = .ok (.iload_n 1, 1) := by decide +kernel
theorem dX7_doWork_77 : decode cX7_doWork 77 = .ok (.iconst 1, 1) := by decide +kernel
theorem dX7_doWork_78 : decode cX7_doWork 78 = .ok (.if_icmp .ne 13, 3) := by decide +kernel
theorem dX7_doWork_81 : decode cX7_doWork 81 = .ok (.aload_n 0, 1) := by decide +kernel
theorem dX7_doWork_82 : decode cX7_doWork 82 = .ok (.iload_n 2, 1) := by decide +kernel
theorem dX7_doWork_83 : decode cX7_doWork 83 = .ok (.iload_n 3, 1) := by decide +kernel
theorem dX7_doWork_84 : decode cX7_doWork 84 = .ok (.iconst 0, 1) := by decide +kernel
theorem dX7_doWork_85 : decode cX7_doWork 85 = .ok (.invokevirtual 257, 3) := by decide +kernel
theorem dX7_doWork_88 : decode cX7_doWork 88 = .ok (.goto 118, 3) := by decide +kernel
theorem dX7_doWork_91 : decode cX7_doWork 91 = .ok (.iload_n 1, 1) := by decide +kernel
theorem dX7_doWork_92 : decode cX7_doWork 92 = .ok (.iconst 2, 1) := by decide +kernel
theorem dX7_doWork_93 : decode cX7_doWork 93 = .ok (.if_icmp .ne 16, 3) := by decide +kernel
theorem dX7_doWork_96 : decode cX7_doWork 96 = .ok (.aload_n 0, 1) := by decide +kernel
theorem dX7_doWork_97 : decode cX7_doWork 97 = .ok (.iload_n 2, 1) := by decide +kernel
theorem dX7_doWork_98 : decode cX7_doWork 98 = .ok (.iconst 1, 1) := by decide +kernel
theorem dX7_doWork_99 : decode cX7_doWork 99 = .ok (.aload_n 0, 1) := by decide +kernel
theorem dX7_doWork_100 : decode cX7_doWork 100 = .ok (.getfield 247, 3) := by decide +kernel
theorem dX7_doWork_103 : decode cX7_doWork 103 = .ok (.invokevirtual 272, 3) := by decide +kernel
theorem dX7_doWork_106 : decode cX7_doWork 106 = .ok (.goto 100, 3) := by decide +kernel
theorem dX7_doWork_109 : decode cX7_doWork 109 = .ok (.iload_n 1, 1) := by decide +kernel
theorem dX7_doWork_110 : decode cX7_doWork 110 = .ok (.iconst 3, 1) := by decide +kernel
theorem dX7_doWork_111 : decode cX7_doWork 111 = .ok (.if_icmp .ne 11, 3) := by decide +kernel
theorem dX7_doWork_114 : decode cX7_doWork 114 = .ok (.aload_n 0, 1) := by decide +kernel
theorem dX7_doWork_115 : decode cX7_doWork 115 = .ok (.iload_n 2, 1) := by decide +kernel
theorem dX7_doWork_116 : decode cX7_doWork 116 = .ok (.invokevirtual 275, 3) := by decide +kernel
theorem dX7_doWork_119 : decode cX7_doWork 119 = .ok (.goto 87, 3) := by decide +kernel
theorem dX7_doWork_122 : decode cX7_doWork 122 = .ok (.iload_n 1, 1) := by decide +kernel
theorem dX7_doWork_123 : decode cX7_doWork 123 = .ok (.iconst 4, 1) := by decide +kernel
theorem dX7_doWork_124 : decode cX7_doWork 124 = .ok (.if_icmp .ne 30, 3) := by decide +kernel
theorem dX7_doWork_127 : decode cX7_doWork 127 = .ok (.aload_n 0, 1) := by decide +kernel
theorem dX7_doWork_128 : decode cX7_doWork 128 = .ok (.iload_n 3, 1) := by decide +kernel
theorem dX7_doWork_129 : decode cX7_doWork 129 = .ok (.iconst 2, 1) := by decide +kernel
theorem dX7_doWork_130 : decode cX7_doWork 130 = .ok (.aload_n 0, 1) := by decide +kernel
theorem dX7_doWork_131 : decode cX7_doWork 131 = .ok (.getfield 247, 3) := by decide +kernel
theorem dX7_doWork_134 : decode cX7_doWork 134 = .ok (.invokevirtual 272, 3) := by decide +kernel
theorem dX7_doWork_137 : decode cX7_doWork 137 = .ok (.iload 4, 2) := by decide +kernel
theorem dX7_doWork_139 : decode cX7_doWork 139 = .ok (.ifCond .le 67, 3) := by decide +kernel
theorem dX7_doWork_142 : decode cX7_doWork 142 = .ok (.aload_n 0, 1) := by decide +kernel
theorem dX7_doWork_143 : decode cX7_doWork 143 = .ok (.bipush 20, 2) := by decide +kernel
theorem dX7_doWork_145 : decode cX7_doWork 145 = .ok (.iload 4, 2) := by decide +kernel
theorem dX7_doWork_147 : decode cX7_doWork 147 = .ok (.iconst 0, 1) := by decide +kernel
theorem dX7_doWork_148 : decode cX7_doWork 148 = .ok (.invokevirtual 257, 3) := by decide +kernel
theorem dX7_doWork_151 : decode cX7_doWork 151 = .ok (.goto 55, 3) := by decide +kernel
theorem dX7_doWork_154 : decode cX7_doWork 154 = .ok (.iload_n 1, 1) := by decide +kernel
theorem dX7_doWork_155 : decode cX7_doWork 155 = .ok (.iconst 5, 1) := by decide +kernel
theorem dX7_doWork_156 : decode cX7_doWork 156 = .ok (.if_icmp .ne 45, 3) := by decide +kernel
theorem dX7_doWork_159 : decode cX7_doWork 159 = .ok (.iload 4, 2) := by decide +kernel
theorem dX7_doWork_161 : decode cX7_doWork 161 = .ok (.ifCond .le 12, 3) := by decide +kernel
theorem dX7_doWork_164 : decode cX7_doWork 164 = .ok (.aload_n 0, 1) := by decide +kernel
theorem dX7_doWork_165 : decode cX7_doWork 165 = .ok (.bipush 15, 2) := by decide +kernel
theorem dX7_doWork_167 : decode cX7_doWork 167 = .ok (.iload 4, 2) := by decide +kernel
theorem dX7_doWork_169 : decode cX7_doWork 169 = .ok (.iconst 0, 1) := by decide +kernel
theorem dX7_doWork_170 : decode cX7_doWork 170 = .ok (.invokevirtual 257, 3) := by decide +kernel
theorem dX7_doWork_173 : decode cX7_doWork 173 = .ok (.aload_n 0, 1) := by decide +kernel
theorem dX7_doWork_174 : decode cX7_doWork 174 = .ok (.bipush 11, 2) := by decide +kernel
theorem dX7_doWork_176 : decode cX7_doWork 176 = .ok (.aload_n 0, 1) := by decide +kernel
theorem dX7_doWork_177 : decode cX7_doWork 177 = .ok (.getfield 24, 3) := by decide +kernel
theorem dX7_doWork_180 : decode cX7_doWork 180 = .ok (.iload_n 3, 1) := by decide +kernel
theorem dX7_doWork_181 : decode cX7_doWork 181 = .ok (.iaload, 1) := by decide +kernel
theorem dX7_doWork_182 : decode cX7_doWork 182 = .ok (.iconst 0, 1) := by decide +kernel
theorem dX7_doWork_183 : decode cX7_doWork 183 = .ok (.invokevirtual 257, 3) := by decide +kernel
theorem dX7_doWork_186 : decode cX7_doWork 186 = .ok (.aload_n 0, 1) := by decide +kernel
theorem dX7_doWork_187 : decode cX7_doWork 187 = .ok (.getfield 24, 3) := by decide +kernel
theorem dX7_doWork_190 : decode cX7_doWork 190 = .ok (.iload_n 3, 1) := by decide +kernel
theorem dX7_doWork_191 : decode cX7_doWork 191 = .ok (.aload_n 0, 1) := by decide +kernel
theorem dX7_doWork_192 : decode cX7_doWork 192 = .ok (.getfield 247, 3) := by decide +kernel
theorem dX7_doWork_195 : decode cX7_doWork 195 = .ok (.iconst 1, 1) := by decide +kernel
theorem dX7_doWork_196 : decode cX7_doWork 196 = .ok (.isub, 1) := by decide +kernel
theorem dX7_doWork_197 : decode cX7_doWork 197 = .ok (.iastore, 1) := by decide +kernel
theorem dX7_doWork_198 : decode cX7_doWork 198 = .ok (.goto 8, 3) := by decide +kernel
theorem dX7_doWork_201 : decode cX7_doWork 201 = .ok (.aload_n 0, 1) := by decide +kernel
theorem dX7_doWork_202 : decode cX7_doWork 202 = .ok (.iload_n 2, 1) := by decide +kernel
theorem dX7_doWork_203 : decode cX7_doWork 203 = .ok (.invokevirtual 278, 3) := by decide +kernel
theorem dX7_doWork_206 : decode cX7_doWork 206 = .ok (.return_, 1) := by decide +kernel
theorem dX7_endMatch_0 : decode cX7_endMatch 0 = .ok (.aload_n 0, 1) := by decide +kernel
theorem dX7_endMatch_1 : decode cX7_endMatch 1 = .ok (.getfield 24, 3) := by decide +kernel
theorem dX7_endMatch_4 : decode cX7_endMatch 4 = .ok (.iload_n 1, 1) := by decide +kernel
theorem dX7_endMatch_5 : decode cX7_endMatch 5 = .ok (.iaload, 1) := by decide +kernel
theorem dX7_endMatch_6 : decode cX7_endMatch 6 = .ok (.istore_n 2, 1) := by decide +kernel
theorem dX7_endMatch_7 : decode cX7_endMatch 7 = .ok (.iload_n 2, 1) := by decide +kernel
theorem dX7_endMatch_8 : decode cX7_endMatch 8 = .ok (.ifCond .lt 35, 3) := by decide +kernel
theorem dX7_endMatch_11 : decode cX7_endMatch 11 = .ok (.iload_n 2, 1) := by decide +kernel
theorem dX7_endMatch_12 : decode cX7_endMatch 12 = .ok (.bipush 121, 2) := by decide +kernel
theorem dX7_endMatch_14 : decode cX7_endMatch 14 = .ok (.if_icmp .ge 29, 3) := by decide +kernel
theorem dX7_endMatch_17 : decode cX7_endMatch 17 = .ok (.aload_n 0, 1) := by decide +kernel
theorem dX7_endMatch_18 : decode cX7_endMatch 18 = .ok (.getfield 79, 3) := by decide +kernel
theorem dX7_endMatch_21 : decode cX7_endMatch 21 = .ok (.iconst 3, 1) := by decide +kernel
theorem dX7_endMatch_22 : decode cX7_endMatch 22 = .ok (.iload_n 2, 1) := by decide +kernel
theorem dX7_endMatch_23 : decode cX7_endMatch 23 = .ok (.imul, 1) := by decide +kernel
theorem dX7_endMatch_24 : decode cX7_endMatch 24 = .ok (.iconst 1, 1) := by decide +kernel
theorem dX7_endMatch_25 : decode cX7_endMatch 25 = .ok (.iadd, 1) := by decide +kernel
theorem dX7_endMatch_26 : decode cX7_endMatch 26 = .ok (.iaload, 1) := by decide +kernel
theorem dX7_endMatch_27 : decode cX7_endMatch 27 = .ok (.istore_n 3, 1) := by decide +kernel
theorem dX7_endMatch_28 : decode cX7_endMatch 28 = .ok (.aload_n 0, 1) := by decide +kernel
theorem dX7_endMatch_29 : decode cX7_endMatch 29 = .ok (.iload_n 2, 1) := by decide +kernel
theorem dX7_endMatch_30 : decode cX7_endMatch 30 = .ok (.iconst 1, 1) := by decide +kernel
theorem dX7_endMatch_31 : decode cX7_endMatch 31 = .ok (.aload_n 0, 1) := by decide +kernel
theorem dX7_endMatch_32 : decode cX7_endMatch 32 = .ok (.getfield 247, 3) := by decide +kernel
theorem dX7_endMatch_35 : decode cX7_endMatch 35 = .ok (.invokevirtual 272, 3) := by decide +kernel
theorem dX7_endMatch_38 : decode cX7_endMatch 38 = .ok (.iload_n 3, 1) := by decide +kernel
theorem dX7_endMatch_39 : decode cX7_endMatch 39 = .ok (.istore_n 2, 1) := by decide +kernel
theorem dX7_endMatch_40 : decode cX7_endMatch 40 = .ok (.goto (-33), 3) := by decide +kernel
theorem dX7_endMatch_43 : decode cX7_endMatch 43 = .ok (.return_, 1) := by decide +kernel
theorem dX7_makeCode_0 : decode cX7_makeCode 0 = .ok (.aload_n 0, 1) := by decide +kernel
theorem dX7_makeCode_1 : decode cX7_makeCode 1 = .ok (.iconst 0, 1) := by decide +kernel
theorem dX7_makeCode_2 : decode cX7_makeCode 2 = .ok (.putfield 247, 3) := by decide +kernel
theorem dX7_makeCode_5 : decode cX7_makeCode 5 = .ok (.aload_n 0, 1) := by decide +kernel
theorem dX7_makeCode_6 : decode cX7_makeCode 6 = .ok (.iconst 0, 1) := by decide +kernel
theorem dX7_makeCode_7 : decode cX7_makeCode 7 = .ok (.putfield 250, 3) := by decide +kernel
theorem dX7_makeCode_10 : decode cX7_makeCode 10 = .ok (.aload_n 0, 1) := by decide +kernel
theorem dX7_makeCode_11 : decode cX7_makeCode 11 = .ok (.iconst 0, 1) := by decide +kernel
theorem dX7_makeCode_12 : decode cX7_makeCode 12 = .ok (.iconst 0, 1) := by decide +kernel
theorem dX7_makeCode_13 : decode cX7_makeCode 13 = .ok (.invokevirtual 260, 3) := by decide +kernel
theorem dX7_makeCode_16 : decode cX7_makeCode 16 = .ok (.aload_n 0, 1) := by decide +kernel
theorem dX7_makeCode_17 : decode cX7_makeCode 17 = .ok (.aload_n 0, 1) := by decide +kernel
theorem dX7_makeCode_18 : decode cX7_makeCode 18 = .ok (.getfield 223, 3) := by decide +kernel
theorem dX7_makeCode_21 : decode cX7_makeCode 21 = .ok (.invokevirtual 263, 3) := by decide +kernel
theorem dX7_makeCode_24 : decode cX7_makeCode 24 = .ok (.aload_n 0, 1) := by decide +kernel
theorem dX7_makeCode_25 : decode cX7_makeCode 25 = .ok (.getfield 250, 3) := by decide +kernel
theorem dX7_makeCode_28 : decode cX7_makeCode 28 = .ok (.ifCond .le 19, 3) := by decide +kernel
theorem dX7_makeCode_31 : decode cX7_makeCode 31 = .ok (.aload_n 0, 1) := by decide +kernel
theorem dX7_makeCode_32 : decode cX7_makeCode 32 = .ok (.getfield 247, 3) := by decide +kernel
theorem dX7_makeCode_35 : decode cX7_makeCode 35 = .ok (.bipush 120, 2) := by decide +kernel
theorem dX7_makeCode_37 : decode cX7_makeCode 37 = .ok (.if_icmp .gt 10, 3) := by decide +kernel
theorem dX7_makeCode_40 : decode cX7_makeCode 40 = .ok (.aload_n 0, 1) := by decide +kernel
theorem dX7_makeCode_41 : decode cX7_makeCode 41 = .ok (.invokevirtual 281, 3) := by decide +kernel
theorem dX7_makeCode_44 : decode cX7_makeCode 44 = .ok (.goto (-20), 3) := by decide +kernel
theorem dX7_makeCode_47 : decode cX7_makeCode 47 = .ok (.return_, 1) := by decide +kernel
theorem dX7_compile_0 : decode cX7_compile 0 = .ok (.aload_n 0, 1) := by decide +kernel
theorem dX7_compile_1 : decode cX7_compile 1 = .ok (.iconst 0, 1) := by decide +kernel
theorem dX7_compile_2 : decode cX7_compile 2 = .ok (.putfield 112, 3) := by decide +kernel
theorem dX7_compile_5 : decode cX7_compile 5 = .ok (.aload_n 0, 1) := by decide +kernel
theorem dX7_compile_6 : decode cX7_compile 6 = .ok (.iconst 0, 1) := by decide +kernel
theorem dX7_compile_7 : decode cX7_compile 7 = .ok (.putfield 121, 3) := by decide +kernel
theorem dX7_compile_10 : decode cX7_compile 10 = .ok (.iconst 0, 1) := by decide +kernel
theorem dX7_compile_11 : decode cX7_compile 11 = .ok (.istore_n 1, 1) := by decide +kernel
theorem dX7_compile_12 : decode cX7_compile 12 = .ok (.iload_n 1, 1) := by decide +kernel
theorem dX7_compile_13 : decode cX7_compile 13 = .ok (.aload_n 0, 1) := by decide +kernel
theorem dX7_compile_14 : decode cX7_compile 14 = .ok (.getfield 115, 3) := by decide +kernel
theorem dX7_compile_17 : decode cX7_compile 17 = .ok (.if_icmp .ge 45, 3) := by decide +kernel
theorem dX7_compile_20 : decode cX7_compile 20 = .ok (.aload_n 0, 1) := by decide +kernel
theorem dX7_compile_21 : decode cX7_compile 21 = .ok (.getfield 7, 3) := by decide +kernel
theorem dX7_compile_24 : decode cX7_compile 24 = .ok (.iload_n 1, 1) := by decide +kernel
theorem dX7_compile_25 : decode cX7_compile 25 = .ok (.caload, 1) := by decide +kernel
theorem dX7_compile_26 : decode cX7_compile 26 = .ok (.bipush 32, 2) := by decide +kernel
theorem dX7_compile_28 : decode cX7_compile 28 = .ok (.if_icmp .eq 28, 3) := by decide +kernel
theorem dX7_compile_31 : decode cX7_compile 31 = .ok (.aload_n 0, 1) := by decide +kernel
theorem dX7_compile_32 : decode cX7_compile 32 = .ok (.getfield 13, 3) := by decide +kernel
theorem dX7_compile_35 : decode cX7_compile 35 = .ok (.aload_n 0, 1) := by decide +kernel
theorem dX7_compile_36 : decode cX7_compile 36 = .ok (.getfield 121, 3) := by decide +kernel
theorem dX7_compile_39 : decode cX7_compile 39 = .ok (.aload_n 0, 1) := by decide +kernel
theorem dX7_compile_40 : decode cX7_compile 40 = .ok (.getfield 7, 3) := by decide +kernel
theorem dX7_compile_43 : decode cX7_compile 43 = .ok (.iload_n 1, 1) := by decide +kernel
theorem dX7_compile_44 : decode cX7_compile 44 = .ok (.caload, 1) := by decide +kernel
theorem dX7_compile_45 : decode cX7_compile 45 = .ok (.castore, 1) := by decide +kernel
theorem dX7_compile_46 : decode cX7_compile 46 = .ok (.aload_n 0, 1) := by decide +kernel
theorem dX7_compile_47 : decode cX7_compile 47 = .ok (.dup, 1) := by decide +kernel
theorem dX7_compile_48 : decode cX7_compile 48 = .ok (.getfield 121, 3) := by decide +kernel
theorem dX7_compile_51 : decode cX7_compile 51 = .ok (.iconst 1, 1) := by decide +kernel
theorem dX7_compile_52 : decode cX7_compile 52 = .ok (.iadd, 1) := by decide +kernel
theorem dX7_compile_53 : decode cX7_compile 53 = .ok (.putfield 121, 3) := by decide +kernel
theorem dX7_compile_56 : decode cX7_compile 56 = .ok (.iinc 1 1, 3) := by decide +kernel
theorem dX7_compile_59 : decode cX7_compile 59 = .ok (.goto (-47), 3) := by decide +kernel
theorem dX7_compile_62 : decode cX7_compile 62 = .ok (.aload_n 0, 1) := by decide +kernel
theorem dX7_compile_63 : decode cX7_compile 63 = .ok (.iconst 0, 1) := by decide +kernel
theorem dX7_compile_64 : decode cX7_compile 64 = .ok (.putfield 115, 3) := by decide +kernel
theorem dX7_compile_67 : decode cX7_compile 67 = .ok (.aload_n 0, 1) := by decide +kernel
theorem dX7_compile_68 : decode cX7_compile 68 = .ok (.iconst 0, 1) := by decide +kernel
theorem dX7_compile_69 : decode cX7_compile 69 = .ok (.putfield 118, 3) := by decide +kernel
theorem dX7_compile_72 : decode cX7_compile 72 = .ok (.aload_n 0, 1) := by decide +kernel
theorem dX7_compile_73 : decode cX7_compile 73 = .ok (.iconst 0, 1) := by decide +kernel
theorem dX7_compile_74 : decode cX7_compile 74 = .ok (.putfield 138, 3) := by decide +kernel
theorem dX7_compile_77 : decode cX7_compile 77 = .ok (.aload_n 0, 1) := by decide +kernel
theorem dX7_compile_78 : decode cX7_compile 78 = .ok (.invokevirtual 284, 3) := by decide +kernel
theorem dX7_compile_81 : decode cX7_compile 81 = .ok (.aload_n 0, 1) := by decide +kernel
theorem dX7_compile_82 : decode cX7_compile 82 = .ok (.getfield 138, 3) := by decide +kernel
theorem dX7_compile_85 : decode cX7_compile 85 = .ok (.ifCond .ne 7, 3) := by decide +kernel
theorem dX7_compile_88 : decode cX7_compile 88 = .ok (.aload_n 0, 1) := by decide +kernel
theorem dX7_compile_89 : decode cX7_compile 89 = .ok (.invokevirtual 287, 3) := by decide +kernel
theorem dX7_compile_92 : decode cX7_compile 92 = .ok (.aload_n 0, 1) := by decide +kernel
theorem dX7_compile_93 : decode cX7_compile 93 = .ok (.getfield 138, 3) := by decide +kernel
theorem dX7_compile_96 : decode cX7_compile 96 = .ok (.ifCond .ne 25, 3) := by decide +kernel
theorem dX7_compile_99 : decode cX7_compile 99 = .ok (.aload_n 0, 1) := by decide +kernel
theorem dX7_compile_100 : decode cX7_compile 100 = .ok (.getfield 247, 3) := by decide +kernel
theorem dX7_compile_103 : decode cX7_compile 103 = .ok (.bipush 120, 2) := by decide +kernel
theorem dX7_compile_105 : decode cX7_compile 105 = .ok (.if_icmp .le 16, 3) := by decide +kernel
theorem dX7_compile_108 : decode cX7_compile 108 = .ok (.aload_n 0, 1) := by decide +kernel
theorem dX7_compile_109 : decode cX7_compile 109 = .ok (.iconst 1, 1) := by decide +kernel
theorem dX7_compile_110 : decode cX7_compile 110 = .ok (.putfield 138, 3) := by decide +kernel
theorem dX7_compile_113 : decode cX7_compile 113 = .ok (.aload_n 0, 1) := by decide +kernel
theorem dX7_compile_114 : decode cX7_compile 114 = .ok (.aload_n 0, 1) := by decide +kernel
theorem dX7_compile_115 : decode cX7_compile 115 = .ok (.getfield 121, 3) := by decide +kernel
theorem dX7_compile_118 : decode cX7_compile 118 = .ok (.putfield 118, 3) := by decide +kernel
theorem dX7_compile_121 : decode cX7_compile 121 = .ok (.aload_n 0, 1) := by decide +kernel
theorem dX7_compile_122 : decode cX7_compile 122 = .ok (.aload_n 0, 1) := by decide +kernel
theorem dX7_compile_123 : decode cX7_compile 123 = .ok (.getfield 138, 3) := by decide +kernel
theorem dX7_compile_126 : decode cX7_compile 126 = .ok (.ifCond .eq 10, 3) := by decide +kernel
theorem dX7_compile_129 : decode cX7_compile 129 = .ok (.aload_n 0, 1) := by decide +kernel
theorem dX7_compile_130 : decode cX7_compile 130 = .ok (.getfield 118, 3) := by decide +kernel
theorem dX7_compile_133 : decode cX7_compile 133 = .ok (.goto 4, 3) := by decide +kernel
theorem dX7_compile_136 : decode cX7_compile 136 = .ok (.iconst (-1), 1) := by decide +kernel
theorem dX7_compile_137 : decode cX7_compile 137 = .ok (.putfield 16, 3) := by decide +kernel
theorem dX7_compile_140 : decode cX7_compile 140 = .ok (.aload_n 0, 1) := by decide +kernel
theorem dX7_compile_141 : decode cX7_compile 141 = .ok (.getfield 138, 3) := by decide +kernel
theorem dX7_compile_144 : decode cX7_compile 144 = .ok (.ifCond .eq 9, 3) := by decide +kernel
theorem dX7_compile_147 : decode cX7_compile 147 = .ok (.aload_n 0, 1) := by decide +kernel
theorem dX7_compile_148 : decode cX7_compile 148 = .ok (.iconst 1, 1) := by decide +kernel
theorem dX7_compile_149 : decode cX7_compile 149 = .ok (.invokevirtual 290, 3) := by decide +kernel
theorem dX7_compile_152 : decode cX7_compile 152 = .ok (.ireturn, 1) := by decide +kernel
theorem dX7_compile_153 : decode cX7_compile 153 = .ok (.aload_n 0, 1) := by decide +kernel
theorem dX7_compile_154 : decode cX7_compile 154 = .ok (.aload_n 0, 1) := by decide +kernel
theorem dX7_compile_155 : decode cX7_compile 155 = .ok (.getfield 247, 3) := by decide +kernel
theorem dX7_compile_158 : decode cX7_compile 158 = .ok (.putfield 294, 3) := by decide +kernel
theorem dX7_compile_161 : decode cX7_compile 161 = .ok (.iconst 0, 1) := by decide +kernel
theorem dX7_compile_162 : decode cX7_compile 162 = .ok (.istore_n 1, 1) := by decide +kernel
theorem dX7_compile_163 : decode cX7_compile 163 = .ok (.iload_n 1, 1) := by decide +kernel
theorem dX7_compile_164 : decode cX7_compile 164 = .ok (.iconst 3, 1) := by decide +kernel
theorem dX7_compile_165 : decode cX7_compile 165 = .ok (.aload_n 0, 1) := by decide +kernel
theorem dX7_compile_166 : decode cX7_compile 166 = .ok (.getfield 247, 3) := by decide +kernel
theorem dX7_compile_169 : decode cX7_compile 169 = .ok (.imul, 1) := by decide +kernel
theorem dX7_compile_170 : decode cX7_compile 170 = .ok (.if_icmp .ge 21, 3) := by decide +kernel
theorem dX7_compile_173 : decode cX7_compile 173 = .ok (.aload_n 0, 1) := by decide +kernel
theorem dX7_compile_174 : decode cX7_compile 174 = .ok (.getfield 82, 3) := by decide +kernel
theorem dX7_compile_177 : decode cX7_compile 177 = .ok (.iload_n 1, 1) := by decide +kernel
theorem dX7_compile_178 : decode cX7_compile 178 = .ok (.aload_n 0, 1) := by decide +kernel
theorem dX7_compile_179 : decode cX7_compile 179 = .ok (.getfield 79, 3) := by decide +kernel
theorem dX7_compile_182 : decode cX7_compile 182 = .ok (.iload_n 1, 1) := by decide +kernel
theorem dX7_compile_183 : decode cX7_compile 183 = .ok (.iaload, 1) := by decide +kernel
theorem dX7_compile_184 : decode cX7_compile 184 = .ok (.iastore, 1) := by decide +kernel
theorem dX7_compile_185 : decode cX7_compile 185 = .ok (.iinc 1 1, 3) := by decide +kernel
theorem dX7_compile_188 : decode cX7_compile 188 = .ok (.goto (-25), 3) := by decide +kernel
theorem dX7_compile_191 : decode cX7_compile 191 = .ok (.aload_n 0, 1) := by decide +kernel
theorem dX7_compile_192 : decode cX7_compile 192 = .ok (.iconst 0, 1) := by decide +kernel
theorem dX7_compile_193 : decode cX7_compile 193 = .ok (.putfield 297, 3) := by decide +kernel
theorem dX7_compile_196 : decode cX7_compile 196 = .ok (.aload_n 0, 1) := by decide +kernel
theorem dX7_compile_197 : decode cX7_compile 197 = .ok (.iconst 0, 1) := by decide +kernel
theorem dX7_compile_198 : decode cX7_compile 198 = .ok (.putfield 300, 3) := by decide +kernel
theorem dX7_compile_201 : decode cX7_compile 201 = .ok (.aload_n 0, 1) := by decide +kernel
theorem dX7_compile_202 : decode cX7_compile 202 = .ok (.iconst 0, 1) := by decide +kernel
theorem dX7_compile_203 : decode cX7_compile 203 = .ok (.putfield 303, 3) := by decide +kernel
theorem dX7_compile_206 : decode cX7_compile 206 = .ok (.aload_n 0, 1) := by decide +kernel
theorem dX7_compile_207 : decode cX7_compile 207 = .ok (.iconst 1, 1) := by decide +kernel
theorem dX7_compile_208 : decode cX7_compile 208 = .ok (.putfield 100, 3) := by decide +kernel
theorem dX7_compile_211 : decode cX7_compile 211 = .ok (.aload_n 0, 1) := by decide +kernel
theorem dX7_compile_212 : decode cX7_compile 212 = .ok (.iconst 1, 1) := by decide +kernel
theorem dX7_compile_213 : decode cX7_compile 213 = .ok (.putfield 103, 3) := by decide +kernel
theorem dX7_compile_216 : decode cX7_compile 216 = .ok (.aload_n 0, 1) := by decide +kernel
theorem dX7_compile_217 : decode cX7_compile 217 = .ok (.iconst 0, 1) := by decide +kernel
theorem dX7_compile_218 : decode cX7_compile 218 = .ok (.putfield 306, 3) := by decide +kernel
theorem dX7_compile_221 : decode cX7_compile 221 = .ok (.aload_n 0, 1) := by decide +kernel
theorem dX7_compile_222 : decode cX7_compile 222 = .ok (.iconst 0, 1) := by decide +kernel
theorem dX7_compile_223 : decode cX7_compile 223 = .ok (.putfield 309, 3) := by decide +kernel
theorem dX7_compile_226 : decode cX7_compile 226 = .ok (.aload_n 0, 1) := by decide +kernel
theorem dX7_compile_227 : decode cX7_compile 227 = .ok (.iconst 1, 1) := by decide +kernel
theorem dX7_compile_228 : decode cX7_compile 228 = .ok (.putfield 312, 3) := by decide +kernel
theorem dX7_compile_231 : decode cX7_compile 231 = .ok (.aload_n 0, 1) := by decide +kernel
theorem dX7_compile_232 : decode cX7_compile 232 = .ok (.iconst 0, 1) := by decide +kernel
theorem dX7_compile_233 : decode cX7_compile 233 = .ok (.putfield 315, 3) := by decide +kernel
theorem dX7_compile_236 : decode cX7_compile 236 = .ok (.aload_n 0, 1) := by decide +kernel
theorem dX7_compile_237 : decode cX7_compile 237 = .ok (.getfield 294, 3) := by decide +kernel
theorem dX7_compile_240 : decode cX7_compile 240 = .ok (.ireturn, 1) := by decide +kernel
theorem dX7_place_0 : decode cX7_place 0 = .ok (.aload_n 0, 1) := by decide +kernel
theorem dX7_place_1 : decode cX7_place 1 = .ok (.iconst 0, 1) := by decide +kernel
theorem dX7_place_2 : decode cX7_place 2 = .ok (.putfield 112, 3) := by decide +kernel
theorem dX7_place_5 : decode cX7_place 5 = .ok (.aload_n 0, 1) := by decide +kernel
theorem dX7_place_6 : decode cX7_place 6 = .ok (.getfield 16, 3) := by decide +kernel
theorem dX7_place_9 : decode cX7_place 9 = .ok (.ireturn, 1) := by decide +kernel
theorem dX7_code_0 : decode cX7_code 0 = .ok (.aload_n 0, 1) := by decide +kernel
theorem dX7_code_1 : decode cX7_code 1 = .ok (.iconst 0, 1) := by decide +kernel
theorem dX7_code_2 : decode cX7_code 2 = .ok (.putfield 112, 3) := by decide +kernel
theorem dX7_code_5 : decode cX7_code 5 = .ok (.iload_n 1, 1) := by decide +kernel
theorem dX7_code_6 : decode cX7_code 6 = .ok (.ifCond .lt 20, 3) := by decide +kernel
theorem dX7_code_9 : decode cX7_code 9 = .ok (.iload_n 1, 1) := by decide +kernel
theorem dX7_code_10 : decode cX7_code 10 = .ok (.aload_n 0, 1) := by decide +kernel
theorem dX7_code_11 : decode cX7_code 11 = .ok (.getfield 294, 3) := by decide +kernel
theorem dX7_code_14 : decode cX7_code 14 = .ok (.if_icmp .ge 12, 3) := by decide +kernel
theorem dX7_code_17 : decode cX7_code 17 = .ok (.iload_n 2, 1) := by decide +kernel
theorem dX7_code_18 : decode cX7_code 18 = .ok (.ifCond .lt 8, 3) := by decide +kernel
theorem dX7_code_21 : decode cX7_code 21 = .ok (.iload_n 2, 1) := by decide +kernel
theorem dX7_code_22 : decode cX7_code 22 = .ok (.iconst 2, 1) := by decide +kernel
theorem dX7_code_23 : decode cX7_code 23 = .ok (.if_icmp .le 7, 3) := by decide +kernel
theorem dX7_code_26 : decode cX7_code 26 = .ok (.iconst (-1), 1) := by decide +kernel
theorem dX7_code_27 : decode cX7_code 27 = .ok (.goto 13, 3) := by decide +kernel
theorem dX7_code_30 : decode cX7_code 30 = .ok (.aload_n 0, 1) := by decide +kernel
theorem dX7_code_31 : decode cX7_code 31 = .ok (.getfield 82, 3) := by decide +kernel
theorem dX7_code_34 : decode cX7_code 34 = .ok (.iconst 3, 1) := by decide +kernel
theorem dX7_code_35 : decode cX7_code 35 = .ok (.iload_n 1, 1) := by decide +kernel
theorem dX7_code_36 : decode cX7_code 36 = .ok (.imul, 1) := by decide +kernel
theorem dX7_code_37 : decode cX7_code 37 = .ok (.iload_n 2, 1) := by decide +kernel
theorem dX7_code_38 : decode cX7_code 38 = .ok (.iadd, 1) := by decide +kernel
theorem dX7_code_39 : decode cX7_code 39 = .ok (.iaload, 1) := by decide +kernel
theorem dX7_code_40 : decode cX7_code 40 = .ok (.ireturn, 1) := by decide +kernel
theorem dX7_isInt_0 : decode cX7_isInt 0 = .ok (.iload_n 0, 1) := by decide +kernel
theorem dX7_isInt_1 : decode cX7_isInt 1 = .ok (.iconst 1, 1) := by decide +kernel
theorem dX7_isInt_2 : decode cX7_isInt 2 = .ok (.iand, 1) := by decide +kernel
theorem dX7_isInt_3 : decode cX7_isInt 3 = .ok (.iconst 1, 1) := by decide +kernel
theorem dX7_isInt_4 : decode cX7_isInt 4 = .ok (.if_icmp .ne 7, 3) := by decide +kernel
theorem dX7_isInt_7 : decode cX7_isInt 7 = .ok (.iconst 1, 1) := by decide +kernel
theorem dX7_isInt_8 : decode cX7_isInt 8 = .ok (.goto 4, 3) := by decide +kernel
theorem dX7_isInt_11 : decode cX7_isInt 11 = .ok (.iconst 0, 1) := by decide +kernel
theorem dX7_isInt_12 : decode cX7_isInt 12 = .ok (.ireturn, 1) := by decide +kernel
theorem dX7_isPointer_0 : decode cX7_isPointer 0 = .ok (.iload_n 0, 1) := by decide +kernel
theorem dX7_isPointer_1 : decode cX7_isPointer 1 = .ok (.iconst 3, 1) := by decide +kernel
theorem dX7_isPointer_2 : decode cX7_isPointer 2 = .ok (.iand, 1) := by decide +kernel
theorem dX7_isPointer_3 : decode cX7_isPointer 3 = .ok (.ifCond .ne 7, 3) := by decide +kernel
theorem dX7_isPointer_6 : decode cX7_isPointer 6 = .ok (.iconst 1, 1) := by decide +kernel
theorem dX7_isPointer_7 : decode cX7_isPointer 7 = .ok (.goto 4, 3) := by decide +kernel
theorem dX7_isPointer_10 : decode cX7_isPointer 10 = .ok (.iconst 0, 1) := by decide +kernel
theorem dX7_isPointer_11 : decode cX7_isPointer 11 = .ok (.ireturn, 1) := by decide +kernel
theorem dX7_isTag_0 : decode cX7_isTag 0 = .ok (.iload_n 0, 1) := by decide +kernel
theorem dX7_isTag_1 : decode cX7_isTag 1 = .ok (.iconst 3, 1) := by decide +kernel
theorem dX7_isTag_2 : decode cX7_isTag 2 = .ok (.iand, 1) := by decide +kernel
theorem dX7_isTag_3 : decode cX7_isTag 3 = .ok (.iconst 2, 1) := by decide +kernel
theorem dX7_isTag_4 : decode cX7_isTag 4 = .ok (.if_icmp .ne 7, 3) := by decide +kernel
theorem dX7_isTag_7 : decode cX7_isTag 7 = .ok (.iconst 1, 1) := by decide +kernel
theorem dX7_isTag_8 : decode cX7_isTag 8 = .ok (.goto 4, 3) := by decide +kernel
theorem dX7_isTag_11 : decode cX7_isTag 11 = .ok (.iconst 0, 1) := by decide +kernel
theorem dX7_isTag_12 : decode cX7_isTag 12 = .ok (.ireturn, 1) := by decide +kernel
theorem dX7_blockKind_0 : decode cX7_blockKind 0 = .ok (.aload_n 0, 1) := by decide +kernel
theorem dX7_blockKind_1 : decode cX7_blockKind 1 = .ok (.getfield 94, 3) := by decide +kernel
theorem dX7_blockKind_4 : decode cX7_blockKind 4 = .ok (.iload_n 1, 1) := by decide +kernel
theorem dX7_blockKind_5 : decode cX7_blockKind 5 = .ok (.iconst 4, 1) := by decide +kernel
theorem dX7_blockKind_6 : decode cX7_blockKind 6 = .ok (.idiv, 1) := by decide +kernel
theorem dX7_blockKind_7 : decode cX7_blockKind 7 = .ok (.iaload, 1) := by decide +kernel
theorem dX7_blockKind_8 : decode cX7_blockKind 8 = .ok (.bipush 15, 2) := by decide +kernel
theorem dX7_blockKind_10 : decode cX7_blockKind 10 = .ok (.iand, 1) := by decide +kernel
theorem dX7_blockKind_11 : decode cX7_blockKind 11 = .ok (.ireturn, 1) := by decide +kernel
theorem dX7_blockSize_0 : decode cX7_blockSize 0 = .ok (.aload_n 0, 1) := by decide +kernel
theorem dX7_blockSize_1 : decode cX7_blockSize 1 = .ok (.getfield 94, 3) := by decide +kernel
theorem dX7_blockSize_4 : decode cX7_blockSize 4 = .ok (.iload_n 1, 1) := by decide +kernel
theorem dX7_blockSize_5 : decode cX7_blockSize 5 = .ok (.iconst 4, 1) := by decide +kernel
theorem dX7_blockSize_6 : decode cX7_blockSize 6 = .ok (.idiv, 1) := by decide +kernel
theorem dX7_blockSize_7 : decode cX7_blockSize 7 = .ok (.iaload, 1) := by decide +kernel
theorem dX7_blockSize_8 : decode cX7_blockSize 8 = .ok (.iconst 4, 1) := by decide +kernel
theorem dX7_blockSize_9 : decode cX7_blockSize 9 = .ok (.ishr, 1) := by decide +kernel
theorem dX7_blockSize_10 : decode cX7_blockSize 10 = .ok (.ireturn, 1) := by decide +kernel
theorem dX7_field_0 : decode cX7_field 0 = .ok (.aload_n 0, 1) := by decide +kernel
theorem dX7_field_1 : decode cX7_field 1 = .ok (.getfield 94, 3) := by decide +kernel
theorem dX7_field_4 : decode cX7_field 4 = .ok (.iload_n 1, 1) := by decide +kernel
theorem dX7_field_5 : decode cX7_field 5 = .ok (.iconst 4, 1) := by decide +kernel
theorem dX7_field_6 : decode cX7_field 6 = .ok (.idiv, 1) := by decide +kernel
theorem dX7_field_7 : decode cX7_field 7 = .ok (.iconst 1, 1) := by decide +kernel
theorem dX7_field_8 : decode cX7_field 8 = .ok (.iadd, 1) := by decide +kernel
theorem dX7_field_9 : decode cX7_field 9 = .ok (.iload_n 2, 1) := by decide +kernel
theorem dX7_field_10 : decode cX7_field 10 = .ok (.iadd, 1) := by decide +kernel
theorem dX7_field_11 : decode cX7_field 11 = .ok (.iaload, 1) := by decide +kernel
theorem dX7_field_12 : decode cX7_field 12 = .ok (.ireturn, 1) := by decide +kernel
theorem dX7_block_0 : decode cX7_block 0 = .ok (.aload_n 0, 1) := by decide +kernel
theorem dX7_block_1 : decode cX7_block 1 = .ok (.getfield 300, 3) := by decide +kernel
theorem dX7_block_4 : decode cX7_block 4 = .ok (.aload_n 0, 1) := by decide +kernel
theorem dX7_block_5 : decode cX7_block 5 = .ok (.getfield 297, 3) := by decide +kernel
theorem dX7_block_8 : decode cX7_block 8 = .ok (.iadd, 1) := by decide +kernel
theorem dX7_block_9 : decode cX7_block 9 = .ok (.istore 4, 2) := by decide +kernel
theorem dX7_block_11 : decode cX7_block 11 = .ok (.aload_n 0, 1) := by decide +kernel
theorem dX7_block_12 : decode cX7_block 12 = .ok (.getfield 94, 3) := by decide +kernel
theorem dX7_block_15 : decode cX7_block 15 = .ok (.iload 4, 2) := by decide +kernel
theorem dX7_block_17 : decode cX7_block 17 = .ok (.bipush 32, 2) := by decide +kernel
theorem dX7_block_19 : decode cX7_block 19 = .ok (.iload_n 1, 1) := by decide +kernel
theorem dX7_block_20 : decode cX7_block 20 = .ok (.iadd, 1) := by decide +kernel
theorem dX7_block_21 : decode cX7_block 21 = .ok (.iastore, 1) := by decide +kernel
theorem dX7_block_22 : decode cX7_block 22 = .ok (.aload_n 0, 1) := by decide +kernel
theorem dX7_block_23 : decode cX7_block 23 = .ok (.getfield 94, 3) := by decide +kernel
theorem dX7_block_26 : decode cX7_block 26 = .ok (.iload 4, 2) := by decide +kernel
theorem dX7_block_28 : decode cX7_block 28 = .ok (.iconst 1, 1) := by decide +kernel
theorem dX7_block_29 : decode cX7_block 29 = .ok (.iadd, 1) := by decide +kernel
theorem dX7_block_30 : decode cX7_block 30 = .ok (.iload_n 2, 1) := by decide +kernel
theorem dX7_block_31 : decode cX7_block 31 = .ok (.iastore, 1) := by decide +kernel
theorem dX7_block_32 : decode cX7_block 32 = .ok (.aload_n 0, 1) := by decide +kernel
theorem dX7_block_33 : decode cX7_block 33 = .ok (.getfield 94, 3) := by decide +kernel
theorem dX7_block_36 : decode cX7_block 36 = .ok (.iload 4, 2) := by decide +kernel
theorem dX7_block_38 : decode cX7_block 38 = .ok (.iconst 2, 1) := by decide +kernel
theorem dX7_block_39 : decode cX7_block 39 = .ok (.iadd, 1) := by decide +kernel
theorem dX7_block_40 : decode cX7_block 40 = .ok (.iload_n 3, 1) := by decide +kernel
theorem dX7_block_41 : decode cX7_block 41 = .ok (.iastore, 1) := by decide +kernel
theorem dX7_block_42 : decode cX7_block 42 = .ok (.aload_n 0, 1) := by decide +kernel
theorem dX7_block_43 : decode cX7_block 43 = .ok (.dup, 1) := by decide +kernel
theorem dX7_block_44 : decode cX7_block 44 = .ok (.getfield 297, 3) := by decide +kernel
theorem dX7_block_47 : decode cX7_block 47 = .ok (.iconst 3, 1) := by decide +kernel
theorem dX7_block_48 : decode cX7_block 48 = .ok (.iadd, 1) := by decide +kernel
theorem dX7_block_49 : decode cX7_block 49 = .ok (.putfield 297, 3) := by decide +kernel
theorem dX7_block_52 : decode cX7_block 52 = .ok (.iconst 4, 1) := by decide +kernel
theorem dX7_block_53 : decode cX7_block 53 = .ok (.iload 4, 2) := by decide +kernel
theorem dX7_block_55 : decode cX7_block 55 = .ok (.imul, 1) := by decide +kernel
theorem dX7_block_56 : decode cX7_block 56 = .ok (.ireturn, 1) := by decide +kernel
theorem dX7_move_0 : decode cX7_move 0 = .ok (.iload_n 1, 1) := by decide +kernel
theorem dX7_move_1 : decode cX7_move 1 = .ok (.invokestatic 318, 3) := by decide +kernel
theorem dX7_move_4 : decode cX7_move 4 = .ok (.ifCond .ne 5, 3) := by decide +kernel
theorem dX7_move_7 : decode cX7_move 7 = .ok (.iload_n 1, 1) := by decide +kernel
theorem dX7_move_8 : decode cX7_move 8 = .ok (.ireturn, 1) := by decide +kernel
theorem dX7_move_9 : decode cX7_move 9 = .ok (.iload_n 1, 1) := by decide +kernel
theorem dX7_move_10 : decode cX7_move 10 = .ok (.iconst 4, 1) := by decide +kernel
theorem dX7_move_11 : decode cX7_move 11 = .ok (.idiv, 1) := by decide +kernel
theorem dX7_move_12 : decode cX7_move 12 = .ok (.istore_n 3, 1) := by decide +kernel
theorem dX7_move_13 : decode cX7_move 13 = .ok (.aload_n 0, 1) := by decide +kernel
theorem dX7_move_14 : decode cX7_move 14 = .ok (.getfield 97, 3) := by decide +kernel
theorem dX7_move_17 : decode cX7_move 17 = .ok (.iload_n 3, 1) := by decide +kernel
theorem dX7_move_18 : decode cX7_move 18 = .ok (.iaload, 1) := by decide +kernel
theorem dX7_move_19 : decode cX7_move 19 = .ok (.ifCond .lt 12, 3) := by decide +kernel
theorem dX7_move_22 : decode cX7_move 22 = .ok (.iconst 4, 1) := by decide +kernel
theorem dX7_move_23 : decode cX7_move 23 = .ok (.aload_n 0, 1) := by decide +kernel
theorem dX7_move_24 : decode cX7_move 24 = .ok (.getfield 97, 3) := by decide +kernel
theorem dX7_move_27 : decode cX7_move 27 = .ok (.iload_n 3, 1) := by decide +kernel
theorem dX7_move_28 : decode cX7_move 28 = .ok (.iaload, 1) := by decide +kernel
theorem dX7_move_29 : decode cX7_move 29 = .ok (.imul, 1) := by decide +kernel
theorem dX7_move_30 : decode cX7_move 30 = .ok (.ireturn, 1) := by decide +kernel
theorem dX7_move_31 : decode cX7_move 31 = .ok (.iconst 1, 1) := by decide +kernel
theorem dX7_move_32 : decode cX7_move 32 = .ok (.aload_n 0, 1) := by decide +kernel
theorem dX7_move_33 : decode cX7_move 33 = .ok (.iload_n 1, 1) := by decide +kernel
theorem dX7_move_34 : decode cX7_move 34 = .ok (.invokevirtual 322, 3) := by decide +kernel
theorem dX7_move_37 : decode cX7_move 37 = .ok (.iadd, 1) := by decide +kernel
theorem dX7_move_38 : decode cX7_move 38 = .ok (.istore 4, 2) := by decide +kernel
theorem dX7_move_40 : decode cX7_move 40 = .ok (.aload_n 0, 1) := by decide +kernel
theorem dX7_move_41 : decode cX7_move 41 = .ok (.getfield 97, 3) := by decide +kernel
theorem dX7_move_44 : decode cX7_move 44 = .ok (.iload_n 3, 1) := by decide +kernel
theorem dX7_move_45 : decode cX7_move 45 = .ok (.iload_n 2, 1) := by decide +kernel
theorem dX7_move_46 : decode cX7_move 46 = .ok (.aload_n 0, 1) := by decide +kernel
theorem dX7_move_47 : decode cX7_move 47 = .ok (.getfield 297, 3) := by decide +kernel
theorem dX7_move_50 : decode cX7_move 50 = .ok (.iadd, 1) := by decide +kernel
theorem dX7_move_51 : decode cX7_move 51 = .ok (.iastore, 1) := by decide +kernel
theorem dX7_move_52 : decode cX7_move 52 = .ok (.iconst 0, 1) := by decide +kernel
theorem dX7_move_53 : decode cX7_move 53 = .ok (.istore 5, 2) := by decide +kernel
theorem dX7_move_55 : decode cX7_move 55 = .ok (.iload 5, 2) := by decide +kernel
theorem dX7_move_57 : decode cX7_move 57 = .ok (.iload 4, 2) := by decide +kernel
theorem dX7_move_59 : decode cX7_move 59 = .ok (.if_icmp .ge 32, 3) := by decide +kernel
theorem dX7_move_62 : decode cX7_move 62 = .ok (.aload_n 0, 1) := by decide +kernel
theorem dX7_move_63 : decode cX7_move 63 = .ok (.getfield 94, 3) := by decide +kernel
theorem dX7_move_66 : decode cX7_move 66 = .ok (.iload_n 2, 1) := by decide +kernel
theorem dX7_move_67 : decode cX7_move 67 = .ok (.aload_n 0, 1) := by decide +kernel
theorem dX7_move_68 : decode cX7_move 68 = .ok (.getfield 297, 3) := by decide +kernel
theorem dX7_move_71 : decode cX7_move 71 = .ok (.iadd, 1) := by decide +kernel
theorem dX7_move_72 : decode cX7_move 72 = .ok (.iload 5, 2) := by decide +kernel
theorem dX7_move_74 : decode cX7_move 74 = .ok (.iadd, 1) := by decide +kernel
theorem dX7_move_75 : decode cX7_move 75 = .ok (.aload_n 0, 1) := by decide +kernel
theorem dX7_move_76 : decode cX7_move 76 = .ok (.getfield 94, 3) := by decide +kernel
theorem dX7_move_79 : decode cX7_move 79 = .ok (.iload_n 3, 1) := by decide +kernel
theorem dX7_move_80 : decode cX7_move 80 = .ok (.iload 5, 2) := by decide +kernel
theorem dX7_move_82 : decode cX7_move 82 = .ok (.iadd, 1) := by decide +kernel
theorem dX7_move_83 : decode cX7_move 83 = .ok (.iaload, 1) := by decide +kernel
theorem dX7_move_84 : decode cX7_move 84 = .ok (.iastore, 1) := by decide +kernel
theorem dX7_move_85 : decode cX7_move 85 = .ok (.iinc 5 1, 3) := by decide +kernel
theorem dX7_move_88 : decode cX7_move 88 = .ok (.goto (-33), 3) := by decide +kernel
theorem dX7_move_91 : decode cX7_move 91 = .ok (.aload_n 0, 1) := by decide +kernel
theorem dX7_move_92 : decode cX7_move 92 = .ok (.dup, 1) := by decide +kernel
theorem dX7_move_93 : decode cX7_move 93 = .ok (.getfield 297, 3) := by decide +kernel
theorem dX7_move_96 : decode cX7_move 96 = .ok (.iload 4, 2) := by decide +kernel
theorem dX7_move_98 : decode cX7_move 98 = .ok (.iadd, 1) := by decide +kernel
theorem dX7_move_99 : decode cX7_move 99 = .ok (.putfield 297, 3) := by decide +kernel
theorem dX7_move_102 : decode cX7_move 102 = .ok (.iconst 4, 1) := by decide +kernel
theorem dX7_move_103 : decode cX7_move 103 = .ok (.aload_n 0, 1) := by decide +kernel
theorem dX7_move_104 : decode cX7_move 104 = .ok (.getfield 97, 3) := by decide +kernel
theorem dX7_move_107 : decode cX7_move 107 = .ok (.iload_n 3, 1) := by decide +kernel
theorem dX7_move_108 : decode cX7_move 108 = .ok (.iaload, 1) := by decide +kernel
theorem dX7_move_109 : decode cX7_move 109 = .ok (.imul, 1) := by decide +kernel
theorem dX7_move_110 : decode cX7_move 110 = .ok (.ireturn, 1) := by decide +kernel
theorem dX7_collect_0 : decode cX7_collect 0 = .ok (.aload_n 0, 1) := by decide +kernel
theorem dX7_collect_1 : decode cX7_collect 1 = .ok (.getfield 300, 3) := by decide +kernel
theorem dX7_collect_4 : decode cX7_collect 4 = .ok (.ifCond .ne 10, 3) := by decide +kernel
theorem dX7_collect_7 : decode cX7_collect 7 = .ok (.aload_n 0, 1) := by decide +kernel
theorem dX7_collect_8 : decode cX7_collect 8 = .ok (.getfield 109, 3) := by decide +kernel
theorem dX7_collect_11 : decode cX7_collect 11 = .ok (.goto 4, 3) := by decide +kernel
theorem dX7_collect_14 : decode cX7_collect 14 = .ok (.iconst 0, 1) := by decide +kernel
theorem dX7_collect_15 : decode cX7_collect 15 = .ok (.istore_n 1, 1) := by decide +kernel
theorem dX7_collect_16 : decode cX7_collect 16 = .ok (.iconst 0, 1) := by decide +kernel
theorem dX7_collect_17 : decode cX7_collect 17 = .ok (.istore_n 2, 1) := by decide +kernel
theorem dX7_collect_18 : decode cX7_collect 18 = .ok (.iload_n 2, 1) := by decide +kernel
theorem dX7_collect_19 : decode cX7_collect 19 = .ok (.sipush 400, 3) := by decide +kernel
theorem dX7_collect_22 : decode cX7_collect 22 = .ok (.if_icmp .ge 16, 3) := by decide +kernel
theorem dX7_collect_25 : decode cX7_collect 25 = .ok (.aload_n 0, 1) := by decide +kernel
theorem dX7_collect_26 : decode cX7_collect 26 = .ok (.getfield 97, 3) := by decide +kernel
theorem dX7_collect_29 : decode cX7_collect 29 = .ok (.iload_n 2, 1) := by decide +kernel
theorem dX7_collect_30 : decode cX7_collect 30 = .ok (.iconst (-1), 1) := by decide +kernel
theorem dX7_collect_31 : decode cX7_collect 31 = .ok (.iastore, 1) := by decide +kernel
theorem dX7_collect_32 : decode cX7_collect 32 = .ok (.iinc 2 1, 3) := by decide +kernel
theorem dX7_collect_35 : decode cX7_collect 35 = .ok (.goto (-17), 3) := by decide +kernel
theorem dX7_collect_38 : decode cX7_collect 38 = .ok (.aload_n 0, 1) := by decide +kernel
theorem dX7_collect_39 : decode cX7_collect 39 = .ok (.iconst 0, 1) := by decide +kernel
theorem dX7_collect_40 : decode cX7_collect 40 = .ok (.putfield 297, 3) := by decide +kernel
theorem dX7_collect_43 : decode cX7_collect 43 = .ok (.aload_n 0, 1) := by decide +kernel
theorem dX7_collect_44 : decode cX7_collect 44 = .ok (.aload_n 0, 1) := by decide +kernel
theorem dX7_collect_45 : decode cX7_collect 45 = .ok (.aload_n 0, 1) := by decide +kernel
theorem dX7_collect_46 : decode cX7_collect 46 = .ok (.getfield 100, 3) := by decide +kernel
theorem dX7_collect_49 : decode cX7_collect 49 = .ok (.iload_n 1, 1) := by decide +kernel
theorem dX7_collect_50 : decode cX7_collect 50 = .ok (.invokevirtual 325, 3) := by decide +kernel
theorem dX7_collect_53 : decode cX7_collect 53 = .ok (.putfield 100, 3) := by decide +kernel
theorem dX7_collect_56 : decode cX7_collect 56 = .ok (.aload_n 0, 1) := by decide +kernel
theorem dX7_collect_57 : decode cX7_collect 57 = .ok (.aload_n 0, 1) := by decide +kernel
theorem dX7_collect_58 : decode cX7_collect 58 = .ok (.aload_n 0, 1) := by decide +kernel
theorem dX7_collect_59 : decode cX7_collect 59 = .ok (.getfield 103, 3) := by decide +kernel
theorem dX7_collect_62 : decode cX7_collect 62 = .ok (.iload_n 1, 1) := by decide +kernel
theorem dX7_collect_63 : decode cX7_collect 63 = .ok (.invokevirtual 325, 3) := by decide +kernel
theorem dX7_collect_66 : decode cX7_collect 66 = .ok (.putfield 103, 3) := by decide +kernel
theorem dX7_collect_69 : decode cX7_collect 69 = .ok (.iconst 0, 1) := by decide +kernel
theorem dX7_collect_70 : decode cX7_collect 70 = .ok (.istore_n 2, 1) := by decide +kernel
theorem dX7_collect_71 : decode cX7_collect 71 = .ok (.iload_n 2, 1) := by decide +kernel
theorem dX7_collect_72 : decode cX7_collect 72 = .ok (.aload_n 0, 1) := by decide +kernel
theorem dX7_collect_73 : decode cX7_collect 73 = .ok (.getfield 306, 3) := by decide +kernel
theorem dX7_collect_76 : decode cX7_collect 76 = .ok (.if_icmp .ge 26, 3) := by decide +kernel
theorem dX7_collect_79 : decode cX7_collect 79 = .ok (.aload_n 0, 1) := by decide +kernel
theorem dX7_collect_80 : decode cX7_collect 80 = .ok (.getfield 106, 3) := by decide +kernel
theorem dX7_collect_83 : decode cX7_collect 83 = .ok (.iload_n 2, 1) := by decide +kernel
theorem dX7_collect_84 : decode cX7_collect 84 = .ok (.aload_n 0, 1) := by decide +kernel
theorem dX7_collect_85 : decode cX7_collect 85 = .ok (.aload_n 0, 1) := by decide +kernel
theorem dX7_collect_86 : decode cX7_collect 86 = .ok (.getfield 106, 3) := by decide +kernel
theorem dX7_collect_89 : decode cX7_collect 89 = .ok (.iload_n 2, 1) := by decide +kernel
theorem dX7_collect_90 : decode cX7_collect 90 = .ok (.iaload, 1) := by decide +kernel
theorem dX7_collect_91 : decode cX7_collect 91 = .ok (.iload_n 1, 1) := by decide +kernel
theorem dX7_collect_92 : decode cX7_collect 92 = .ok (.invokevirtual 325, 3) := by decide +kernel
theorem dX7_collect_95 : decode cX7_collect 95 = .ok (.iastore, 1) := by decide +kernel
theorem dX7_collect_96 : decode cX7_collect 96 = .ok (.iinc 2 1, 3) := by decide +kernel
theorem dX7_collect_99 : decode cX7_collect 99 = .ok (.goto (-28), 3) := by decide +kernel
theorem dX7_collect_102 : decode cX7_collect 102 = .ok (.iload_n 1, 1) := by decide +kernel
theorem dX7_collect_103 : decode cX7_collect 103 = .ok (.istore_n 2, 1) := by decide +kernel
theorem dX7_collect_104 : decode cX7_collect 104 = .ok (.iload_n 2, 1) := by decide +kernel
theorem dX7_collect_105 : decode cX7_collect 105 = .ok (.iload_n 1, 1) := by decide +kernel
theorem dX7_collect_106 : decode cX7_collect 106 = .ok (.aload_n 0, 1) := by decide +kernel
theorem dX7_collect_107 : decode cX7_collect 107 = .ok (.getfield 297, 3) := by decide +kernel
theorem dX7_collect_110 : decode cX7_collect 110 = .ok (.iadd, 1) := by decide +kernel
theorem dX7_collect_111 : decode cX7_collect 111 = .ok (.if_icmp .ge 59, 3) := by decide +kernel
theorem dX7_collect_114 : decode cX7_collect 114 = .ok (.aload_n 0, 1) := by decide +kernel
theorem dX7_collect_115 : decode cX7_collect 115 = .ok (.getfield 94, 3) := by decide +kernel
theorem dX7_collect_118 : decode cX7_collect 118 = .ok (.iload_n 2, 1) := by decide +kernel
theorem dX7_collect_119 : decode cX7_collect 119 = .ok (.iaload, 1) := by decide +kernel
theorem dX7_collect_120 : decode cX7_collect 120 = .ok (.iconst 4, 1) := by decide +kernel
theorem dX7_collect_121 : decode cX7_collect 121 = .ok (.ishr, 1) := by decide +kernel
theorem dX7_collect_122 : decode cX7_collect 122 = .ok (.istore_n 3, 1) := by decide +kernel
theorem dX7_collect_123 : decode cX7_collect 123 = .ok (.iconst 1, 1) := by decide +kernel
theorem dX7_collect_124 : decode cX7_collect 124 = .ok (.istore 4, 2) := by decide +kernel
theorem dX7_collect_126 : decode cX7_collect 126 = .ok (.iload 4, 2) := by decide +kernel
theorem dX7_collect_128 : decode cX7_collect 128 = .ok (.iload_n 3, 1) := by decide +kernel
theorem dX7_collect_129 : decode cX7_collect 129 = .ok (.if_icmp .gt 32, 3) := by decide +kernel
theorem dX7_collect_132 : decode cX7_collect 132 = .ok (.aload_n 0, 1) := by decide +kernel
theorem dX7_collect_133 : decode cX7_collect 133 = .ok (.getfield 94, 3) := by decide +kernel
theorem dX7_collect_136 : decode cX7_collect 136 = .ok (.iload_n 2, 1) := by decide +kernel
theorem dX7_collect_137 : decode cX7_collect 137 = .ok (.iload 4, 2) := by decide +kernel
theorem dX7_collect_139 : decode cX7_collect 139 = .ok (.iadd, 1) := by decide +kernel
theorem dX7_collect_140 : decode cX7_collect 140 = .ok (.aload_n 0, 1) := by decide +kernel
theorem dX7_collect_141 : decode cX7_collect 141 = .ok (.aload_n 0, 1) := by decide +kernel
theorem dX7_collect_142 : decode cX7_collect 142 = .ok (.getfield 94, 3) := by decide +kernel
theorem dX7_collect_145 : decode cX7_collect 145 = .ok (.iload_n 2, 1) := by decide +kernel
theorem dX7_collect_146 : decode cX7_collect 146 = .ok (.iload 4, 2) := by decide +kernel
theorem dX7_collect_148 : decode cX7_collect 148 = .ok (.iadd, 1) := by decide +kernel
theorem dX7_collect_149 : decode cX7_collect 149 = .ok (.iaload, 1) := by decide +kernel
theorem dX7_collect_150 : decode cX7_collect 150 = .ok (.iload_n 1, 1) := by decide +kernel
theorem dX7_collect_151 : decode cX7_collect 151 = .ok (.invokevirtual 325, 3) := by decide +kernel
theorem dX7_collect_154 : decode cX7_collect 154 = .ok (.iastore, 1) := by decide +kernel
theorem dX7_collect_155 : decode cX7_collect 155 = .ok (.iinc 4 1, 3) := by decide +kernel
theorem dX7_collect_158 : decode cX7_collect 158 = .ok (.goto (-32), 3) := by decide +kernel
theorem dX7_collect_161 : decode cX7_collect 161 = .ok (.iload_n 2, 1) := by decide +kernel
theorem dX7_collect_162 : decode cX7_collect 162 = .ok (.iconst 1, 1) := by decide +kernel
theorem dX7_collect_163 : decode cX7_collect 163 = .ok (.iload_n 3, 1) := by decide +kernel
theorem dX7_collect_164 : decode cX7_collect 164 = .ok (.iadd, 1) := by decide +kernel
theorem dX7_collect_165 : decode cX7_collect 165 = .ok (.iadd, 1) := by decide +kernel
theorem dX7_collect_166 : decode cX7_collect 166 = .ok (.istore_n 2, 1) := by decide +kernel
theorem dX7_collect_167 : decode cX7_collect 167 = .ok (.goto (-63), 3) := by decide +kernel
theorem dX7_collect_170 : decode cX7_collect 170 = .ok (.aload_n 0, 1) := by decide +kernel
theorem dX7_collect_171 : decode cX7_collect 171 = .ok (.iload_n 1, 1) := by decide +kernel
theorem dX7_collect_172 : decode cX7_collect 172 = .ok (.putfield 300, 3) := by decide +kernel
theorem dX7_collect_175 : decode cX7_collect 175 = .ok (.aload_n 0, 1) := by decide +kernel
theorem dX7_collect_176 : decode cX7_collect 176 = .ok (.dup, 1) := by decide +kernel
theorem dX7_collect_177 : decode cX7_collect 177 = .ok (.getfield 303, 3) := by decide +kernel
theorem dX7_collect_180 : decode cX7_collect 180 = .ok (.iconst 1, 1) := by decide +kernel
theorem dX7_collect_181 : decode cX7_collect 181 = .ok (.iadd, 1) := by decide +kernel
theorem dX7_collect_182 : decode cX7_collect 182 = .ok (.putfield 303, 3) := by decide +kernel
theorem dX7_collect_185 : decode cX7_collect 185 = .ok (.return_, 1) := by decide +kernel
theorem dX7_hasRoom_0 : decode cX7_hasRoom 0 = .ok (.aload_n 0, 1) := by decide +kernel
theorem dX7_hasRoom_1 : decode cX7_hasRoom 1 = .ok (.getfield 297, 3) := by decide +kernel
theorem dX7_hasRoom_4 : decode cX7_hasRoom 4 = .ok (.iload_n 1, 1) := by decide +kernel
theorem dX7_hasRoom_5 : decode cX7_hasRoom 5 = .ok (.iadd, 1) := by decide +kernel
theorem dX7_hasRoom_6 : decode cX7_hasRoom 6 = .ok (.aload_n 0, 1) := by decide +kernel
theorem dX7_hasRoom_7 : decode cX7_hasRoom 7 = .ok (.getfield 109, 3) := by decide +kernel
theorem dX7_hasRoom_10 : decode cX7_hasRoom 10 = .ok (.if_icmp .le 7, 3) := by decide +kernel
theorem dX7_hasRoom_13 : decode cX7_hasRoom 13 = .ok (.aload_n 0, 1) := by decide +kernel
theorem dX7_hasRoom_14 : decode cX7_hasRoom 14 = .ok (.invokevirtual 328, 3) := by decide +kernel
theorem dX7_hasRoom_17 : decode cX7_hasRoom 17 = .ok (.aload_n 0, 1) := by decide +kernel
theorem dX7_hasRoom_18 : decode cX7_hasRoom 18 = .ok (.getfield 297, 3) := by decide +kernel
theorem dX7_hasRoom_21 : decode cX7_hasRoom 21 = .ok (.iload_n 1, 1) := by decide +kernel
theorem dX7_hasRoom_22 : decode cX7_hasRoom 22 = .ok (.iadd, 1) := by decide +kernel
theorem dX7_hasRoom_23 : decode cX7_hasRoom 23 = .ok (.aload_n 0, 1) := by decide +kernel
theorem dX7_hasRoom_24 : decode cX7_hasRoom 24 = .ok (.getfield 109, 3) := by decide +kernel
theorem dX7_hasRoom_27 : decode cX7_hasRoom 27 = .ok (.if_icmp .gt 7, 3) := by decide +kernel
theorem dX7_hasRoom_30 : decode cX7_hasRoom 30 = .ok (.iconst 1, 1) := by decide +kernel
theorem dX7_hasRoom_31 : decode cX7_hasRoom 31 = .ok (.goto 4, 3) := by decide +kernel
theorem dX7_hasRoom_34 : decode cX7_hasRoom 34 = .ok (.iconst 0, 1) := by decide +kernel
theorem dX7_hasRoom_35 : decode cX7_hasRoom 35 = .ok (.ireturn, 1) := by decide +kernel
theorem dX7_a_0 : decode cX7_a 0 = .ok (.aload_n 0, 1) := by decide +kernel
theorem dX7_a_1 : decode cX7_a 1 = .ok (.getfield 82, 3) := by decide +kernel
theorem dX7_a_4 : decode cX7_a 4 = .ok (.iconst 3, 1) := by decide +kernel
theorem dX7_a_5 : decode cX7_a 5 = .ok (.aload_n 0, 1) := by decide +kernel
theorem dX7_a_6 : decode cX7_a 6 = .ok (.getfield 309, 3) := by decide +kernel
theorem dX7_a_9 : decode cX7_a 9 = .ok (.imul, 1) := by decide +kernel
theorem dX7_a_10 : decode cX7_a 10 = .ok (.iconst 1, 1) := by decide +kernel
theorem dX7_a_11 : decode cX7_a 11 = .ok (.iadd, 1) := by decide +kernel
theorem dX7_a_12 : decode cX7_a 12 = .ok (.iaload, 1) := by decide +kernel
theorem dX7_a_13 : decode cX7_a 13 = .ok (.ireturn, 1) := by decide +kernel
theorem dX7_stop_0 : decode cX7_stop 0 = .ok (.aload_n 0, 1) := by decide +kernel
theorem dX7_stop_1 : decode cX7_stop 1 = .ok (.iconst 3, 1) := by decide +kernel
theorem dX7_stop_2 : decode cX7_stop 2 = .ok (.putfield 312, 3) := by decide +kernel
theorem dX7_stop_5 : decode cX7_stop 5 = .ok (.aload_n 0, 1) := by decide +kernel
theorem dX7_stop_6 : decode cX7_stop 6 = .ok (.iload_n 1, 1) := by decide +kernel
theorem dX7_stop_7 : decode cX7_stop 7 = .ok (.putfield 315, 3) := by decide +kernel
theorem dX7_stop_10 : decode cX7_stop 10 = .ok (.iload_n 1, 1) := by decide +kernel
theorem dX7_stop_11 : decode cX7_stop 11 = .ok (.ireturn, 1) := by decide +kernel
theorem dX7_isFunction_0 : decode cX7_isFunction 0 = .ok (.iload_n 1, 1) := by decide +kernel
theorem dX7_isFunction_1 : decode cX7_isFunction 1 = .ok (.invokestatic 318, 3) := by decide +kernel
theorem dX7_isFunction_4 : decode cX7_isFunction 4 = .ok (.ifCond .eq 27, 3) := by decide +kernel
theorem dX7_isFunction_7 : decode cX7_isFunction 7 = .ok (.aload_n 0, 1) := by decide +kernel
theorem dX7_isFunction_8 : decode cX7_isFunction 8 = .ok (.iload_n 1, 1) := by decide +kernel
theorem dX7_isFunction_9 : decode cX7_isFunction 9 = .ok (.invokevirtual 331, 3) := by decide +kernel
theorem dX7_isFunction_12 : decode cX7_isFunction 12 = .ok (.bipush 8, 2) := by decide +kernel
theorem dX7_isFunction_14 : decode cX7_isFunction 14 = .ok (.if_icmp .eq 13, 3) := by decide +kernel
theorem dX7_isFunction_17 : decode cX7_isFunction 17 = .ok (.aload_n 0, 1) := by decide +kernel
theorem dX7_isFunction_18 : decode cX7_isFunction 18 = .ok (.iload_n 1, 1) := by decide +kernel
theorem dX7_isFunction_19 : decode cX7_isFunction 19 = .ok (.invokevirtual 331, 3) := by decide +kernel
theorem dX7_isFunction_22 : decode cX7_isFunction 22 = .ok (.bipush 9, 2) := by decide +kernel
theorem dX7_isFunction_24 : decode cX7_isFunction 24 = .ok (.if_icmp .ne 7, 3) := by decide +kernel
theorem dX7_isFunction_27 : decode cX7_isFunction 27 = .ok (.iconst 1, 1) := by decide +kernel
theorem dX7_isFunction_28 : decode cX7_isFunction 28 = .ok (.goto 4, 3) := by decide +kernel
theorem dX7_isFunction_31 : decode cX7_isFunction 31 = .ok (.iconst 0, 1) := by decide +kernel
theorem dX7_isFunction_32 : decode cX7_isFunction 32 = .ok (.ireturn, 1) := by decide +kernel
theorem dX7_isBuilt_0 : decode cX7_isBuilt 0 = .ok (.iload_n 1, 1) := by decide +kernel
theorem dX7_isBuilt_1 : decode cX7_isBuilt 1 = .ok (.invokestatic 334, 3) := by decide +kernel
theorem dX7_isBuilt_4 : decode cX7_isBuilt 4 = .ok (.ifCond .ne 20, 3) := by decide +kernel
theorem dX7_isBuilt_7 : decode cX7_isBuilt 7 = .ok (.iload_n 1, 1) := by decide +kernel
theorem dX7_isBuilt_8 : decode cX7_isBuilt 8 = .ok (.invokestatic 318, 3) := by decide +kernel
theorem dX7_isBuilt_11 : decode cX7_isBuilt 11 = .ok (.ifCond .eq 17, 3) := by decide +kernel
theorem dX7_isBuilt_14 : decode cX7_isBuilt 14 = .ok (.aload_n 0, 1) := by decide +kernel
theorem dX7_isBuilt_15 : decode cX7_isBuilt 15 = .ok (.iload_n 1, 1) := by decide +kernel
theorem dX7_isBuilt_16 : decode cX7_isBuilt 16 = .ok (.invokevirtual 331, 3) := by decide +kernel
theorem dX7_isBuilt_19 : decode cX7_isBuilt 19 = .ok (.bipush 8, 2) := by decide +kernel
theorem dX7_isBuilt_21 : decode cX7_isBuilt 21 = .ok (.if_icmp .ge 7, 3) := by decide +kernel
theorem dX7_isBuilt_24 : decode cX7_isBuilt 24 = .ok (.iconst 1, 1) := by decide +kernel
theorem dX7_isBuilt_25 : decode cX7_isBuilt 25 = .ok (.goto 4, 3) := by decide +kernel
theorem dX7_isBuilt_28 : decode cX7_isBuilt 28 = .ok (.iconst 0, 1) := by decide +kernel
theorem dX7_isBuilt_29 : decode cX7_isBuilt 29 = .ok (.ireturn, 1) := by decide +kernel
theorem dX7_tagOf_0 : decode cX7_tagOf 0 = .ok (.iload_n 1, 1) := by decide +kernel
theorem dX7_tagOf_1 : decode cX7_tagOf 1 = .ok (.invokestatic 334, 3) := by decide +kernel
theorem dX7_tagOf_4 : decode cX7_tagOf 4 = .ok (.ifCond .eq 9, 3) := by decide +kernel
theorem dX7_tagOf_7 : decode cX7_tagOf 7 = .ok (.iload_n 1, 1) := by decide +kernel
theorem dX7_tagOf_8 : decode cX7_tagOf 8 = .ok (.iconst 2, 1) := by decide +kernel
theorem dX7_tagOf_9 : decode cX7_tagOf 9 = .ok (.ishr, 1) := by decide +kernel
theorem dX7_tagOf_10 : decode cX7_tagOf 10 = .ok (.goto 8, 3) := by decide +kernel
theorem dX7_tagOf_13 : decode cX7_tagOf 13 = .ok (.aload_n 0, 1) := by decide +kernel
theorem dX7_tagOf_14 : decode cX7_tagOf 14 = .ok (.iload_n 1, 1) := by decide +kernel
theorem dX7_tagOf_15 : decode cX7_tagOf 15 = .ok (.invokevirtual 331, 3) := by decide +kernel
theorem dX7_tagOf_18 : decode cX7_tagOf 18 = .ok (.ireturn, 1) := by decide +kernel
theorem dX7_calculate_0 : decode cX7_calculate 0 = .ok (.aload_n 0, 1) := by decide +kernel
theorem dX7_calculate_1 : decode cX7_calculate 1 = .ok (.dup, 1) := by decide +kernel
theorem dX7_calculate_2 : decode cX7_calculate 2 = .ok (.getfield 306, 3) := by decide +kernel
theorem dX7_calculate_5 : decode cX7_calculate 5 = .ok (.iconst 1, 1) := by decide +kernel
theorem dX7_calculate_6 : decode cX7_calculate 6 = .ok (.isub, 1) := by decide +kernel
theorem dX7_calculate_7 : decode cX7_calculate 7 = .ok (.putfield 306, 3) := by decide +kernel
theorem dX7_calculate_10 : decode cX7_calculate 10 = .ok (.aload_n 0, 1) := by decide +kernel
theorem dX7_calculate_11 : decode cX7_calculate 11 = .ok (.getfield 106, 3) := by decide +kernel
theorem dX7_calculate_14 : decode cX7_calculate 14 = .ok (.aload_n 0, 1) := by decide +kernel
theorem dX7_calculate_15 : decode cX7_calculate 15 = .ok (.getfield 306, 3) := by decide +kernel
theorem dX7_calculate_18 : decode cX7_calculate 18 = .ok (.iaload, 1) := by decide +kernel
theorem dX7_calculate_19 : decode cX7_calculate 19 = .ok (.iconst 1, 1) := by decide +kernel
theorem dX7_calculate_20 : decode cX7_calculate 20 = .ok (.ishr, 1) := by decide +kernel
theorem dX7_calculate_21 : decode cX7_calculate 21 = .ok (.istore_n 2, 1) := by decide +kernel
theorem dX7_calculate_22 : decode cX7_calculate 22 = .ok (.aload_n 0, 1) := by decide +kernel
theorem dX7_calculate_23 : decode cX7_calculate 23 = .ok (.getfield 100, 3) := by decide +kernel
theorem dX7_calculate_26 : decode cX7_calculate 26 = .ok (.iconst 1, 1) := by decide +kernel
theorem dX7_calculate_27 : decode cX7_calculate 27 = .ok (.ishr, 1) := by decide +kernel
theorem dX7_calculate_28 : decode cX7_calculate 28 = .ok (.istore_n 3, 1) := by decide +kernel
theorem dX7_calculate_29 : decode cX7_calculate 29 = .ok (.iload_n 1, 1) := by decide +kernel
theorem dX7_calculate_30 : decode cX7_calculate 30 = .ok (.iconst 4, 1) := by decide +kernel
theorem dX7_calculate_31 : decode cX7_calculate 31 = .ok (.if_icmp .ne 9, 3) := by decide +kernel
theorem dX7_calculate_34 : decode cX7_calculate 34 = .ok (.iload_n 2, 1) := by decide +kernel
theorem dX7_calculate_35 : decode cX7_calculate 35 = .ok (.iload_n 3, 1) := by decide +kernel
theorem dX7_calculate_36 : decode cX7_calculate 36 = .ok (.iadd, 1) := by decide +kernel
theorem dX7_calculate_37 : decode cX7_calculate 37 = .ok (.goto 17, 3) := by decide +kernel
theorem dX7_calculate_40 : decode cX7_calculate 40 = .ok (.iload_n 1, 1) := by decide +kernel
theorem dX7_calculate_41 : decode cX7_calculate 41 = .ok (.iconst 5, 1) := by decide +kernel
theorem dX7_calculate_42 : decode cX7_calculate 42 = .ok (.if_icmp .ne 9, 3) := by decide +kernel
theorem dX7_calculate_45 : decode cX7_calculate 45 = .ok (.iload_n 2, 1) := by decide +kernel
theorem dX7_calculate_46 : decode cX7_calculate 46 = .ok (.iload_n 3, 1) := by decide +kernel
theorem dX7_calculate_47 : decode cX7_calculate 47 = .ok (.isub, 1) := by decide +kernel
theorem dX7_calculate_48 : decode cX7_calculate 48 = .ok (.goto 6, 3) := by decide +kernel
theorem dX7_calculate_51 : decode cX7_calculate 51 = .ok (.iload_n 2, 1) := by decide +kernel
theorem dX7_calculate_52 : decode cX7_calculate 52 = .ok (.iload_n 3, 1) := by decide +kernel
theorem dX7_calculate_53 : decode cX7_calculate 53 = .ok (.imul, 1) := by decide +kernel
theorem dX7_calculate_54 : decode cX7_calculate 54 = .ok (.istore 4, 2) := by decide +kernel
theorem dX7_calculate_56 : decode cX7_calculate 56 = .ok (.iload_n 1, 1) := by decide +kernel
theorem dX7_calculate_57 : decode cX7_calculate 57 = .ok (.bipush 7, 2) := by decide +kernel
theorem dX7_calculate_59 : decode cX7_calculate 59 = .ok (.if_icmp .ne 16, 3) := by decide +kernel
theorem dX7_calculate_62 : decode cX7_calculate 62 = .ok (.iload_n 2, 1) := by decide +kernel
theorem dX7_calculate_63 : decode cX7_calculate 63 = .ok (.iload_n 3, 1) := by decide +kernel
theorem dX7_calculate_64 : decode cX7_calculate 64 = .ok (.if_icmp .ge 7, 3) := by decide +kernel
theorem dX7_calculate_67 : decode cX7_calculate 67 = .ok (.iconst 1, 1) := by decide +kernel
theorem dX7_calculate_68 : decode cX7_calculate 68 = .ok (.goto 17, 3) := by decide +kernel
theorem dX7_calculate_71 : decode cX7_calculate 71 = .ok (.iconst 0, 1) := by decide +kernel
theorem dX7_calculate_72 : decode cX7_calculate 72 = .ok (.goto 13, 3) := by decide +kernel
theorem dX7_calculate_75 : decode cX7_calculate 75 = .ok (.iload_n 2, 1) := by decide +kernel
theorem dX7_calculate_76 : decode cX7_calculate 76 = .ok (.iload_n 3, 1) := by decide +kernel
theorem dX7_calculate_77 : decode cX7_calculate 77 = .ok (.if_icmp .ne 7, 3) := by decide +kernel
theorem dX7_calculate_80 : decode cX7_calculate 80 = .ok (.iconst 1, 1) := by decide +kernel
theorem dX7_calculate_81 : decode cX7_calculate 81 = .ok (.goto 4, 3) := by decide +kernel
theorem dX7_calculate_84 : decode cX7_calculate 84 = .ok (.iconst 0, 1) := by decide +kernel
theorem dX7_calculate_85 : decode cX7_calculate 85 = .ok (.istore 5, 2) := by decide +kernel
theorem dX7_calculate_87 : decode cX7_calculate 87 = .ok (.aload_n 0, 1) := by decide +kernel
theorem dX7_calculate_88 : decode cX7_calculate 88 = .ok (.iload_n 1, 1) := by decide +kernel
theorem dX7_calculate_89 : decode cX7_calculate 89 = .ok (.bipush 7, 2) := by decide +kernel
theorem dX7_calculate_91 : decode cX7_calculate 91 = .ok (.if_icmp .ge 12, 3) := by decide +kernel
theorem dX7_calculate_94 : decode cX7_calculate 94 = .ok (.iload 4, 2) := by decide +kernel
theorem dX7_calculate_96 : decode cX7_calculate 96 = .ok (.iconst 1, 1) := by decide +kernel
theorem dX7_calculate_97 : decode cX7_calculate 97 = .ok (.ishl, 1) := by decide +kernel
theorem dX7_calculate_98 : decode cX7_calculate 98 = .ok (.iconst 1, 1) := by decide +kernel
theorem dX7_calculate_99 : decode cX7_calculate 99 = .ok (.iadd, 1) := by decide +kernel
theorem dX7_calculate_100 : decode cX7_calculate 100 = .ok (.goto 14, 3) := by decide +kernel
theorem dX7_calculate_103 : decode cX7_calculate 103 = .ok (.iload 5, 2) := by decide +kernel
theorem dX7_calculate_105 : decode cX7_calculate 105 = .ok (.ifCond .eq 8, 3) := by decide +kernel
theorem dX7_calculate_108 : decode cX7_calculate 108 = .ok (.bipush 18, 2) := by decide +kernel
theorem dX7_calculate_110 : decode cX7_calculate 110 = .ok (.goto 4, 3) := by decide +kernel
theorem dX7_calculate_113 : decode cX7_calculate 113 = .ok (.iconst 2, 1) := by decide +kernel
theorem dX7_calculate_114 : decode cX7_calculate 114 = .ok (.putfield 100, 3) := by decide +kernel
theorem dX7_calculate_117 : decode cX7_calculate 117 = .ok (.return_, 1) := by decide +kernel
theorem dX7_findCase_0 : decode cX7_findCase 0 = .ok (.aload_n 0, 1) := by decide +kernel
theorem dX7_findCase_1 : decode cX7_findCase 1 = .ok (.aload_n 0, 1) := by decide +kernel
theorem dX7_findCase_2 : decode cX7_findCase 2 = .ok (.getfield 100, 3) := by decide +kernel
theorem dX7_findCase_5 : decode cX7_findCase 5 = .ok (.invokevirtual 337, 3) := by decide +kernel
theorem dX7_findCase_8 : decode cX7_findCase 8 = .ok (.istore_n 1, 1) := by decide +kernel
theorem dX7_findCase_9 : decode cX7_findCase 9 = .ok (.iconst 1, 1) := by decide +kernel
theorem dX7_findCase_10 : decode cX7_findCase 10 = .ok (.istore_n 2, 1) := by decide +kernel
theorem dX7_findCase_11 : decode cX7_findCase 11 = .ok (.iload_n 2, 1) := by decide +kernel
theorem dX7_findCase_12 : decode cX7_findCase 12 = .ok (.aload_n 0, 1) := by decide +kernel
theorem dX7_findCase_13 : decode cX7_findCase 13 = .ok (.invokevirtual 340, 3) := by decide +kernel
theorem dX7_findCase_16 : decode cX7_findCase 16 = .ok (.if_icmp .gt 44, 3) := by decide +kernel
theorem dX7_findCase_19 : decode cX7_findCase 19 = .ok (.aload_n 0, 1) := by decide +kernel
theorem dX7_findCase_20 : decode cX7_findCase 20 = .ok (.getfield 82, 3) := by decide +kernel
theorem dX7_findCase_23 : decode cX7_findCase 23 = .ok (.iconst 3, 1) := by decide +kernel
theorem dX7_findCase_24 : decode cX7_findCase 24 = .ok (.aload_n 0, 1) := by decide +kernel
theorem dX7_findCase_25 : decode cX7_findCase 25 = .ok (.getfield 309, 3) := by decide +kernel
theorem dX7_findCase_28 : decode cX7_findCase 28 = .ok (.iload_n 2, 1) := by decide +kernel
theorem dX7_findCase_29 : decode cX7_findCase 29 = .ok (.iadd, 1) := by decide +kernel
theorem dX7_findCase_30 : decode cX7_findCase 30 = .ok (.imul, 1) := by decide +kernel
theorem dX7_findCase_31 : decode cX7_findCase 31 = .ok (.iconst 1, 1) := by decide +kernel
theorem dX7_findCase_32 : decode cX7_findCase 32 = .ok (.iadd, 1) := by decide +kernel
theorem dX7_findCase_33 : decode cX7_findCase 33 = .ok (.iaload, 1) := by decide +kernel
theorem dX7_findCase_34 : decode cX7_findCase 34 = .ok (.iload_n 1, 1) := by decide +kernel
theorem dX7_findCase_35 : decode cX7_findCase 35 = .ok (.if_icmp .ne 19, 3) := by decide +kernel
theorem dX7_findCase_38 : decode cX7_findCase 38 = .ok (.aload_n 0, 1) := by decide +kernel
theorem dX7_findCase_39 : decode cX7_findCase 39 = .ok (.getfield 82, 3) := by decide +kernel
theorem dX7_findCase_42 : decode cX7_findCase 42 = .ok (.iconst 3, 1) := by decide +kernel
theorem dX7_findCase_43 : decode cX7_findCase 43 = .ok (.aload_n 0, 1) := by decide +kernel
theorem dX7_findCase_44 : decode cX7_findCase 44 = .ok (.getfield 309, 3) := by decide +kernel
theorem dX7_findCase_47 : decode cX7_findCase 47 = .ok (.iload_n 2, 1) := by decide +kernel
theorem dX7_findCase_48 : decode cX7_findCase 48 = .ok (.iadd, 1) := by decide +kernel
theorem dX7_findCase_49 : decode cX7_findCase 49 = .ok (.imul, 1) := by decide +kernel
theorem dX7_findCase_50 : decode cX7_findCase 50 = .ok (.iconst 2, 1) := by decide +kernel
theorem dX7_findCase_51 : decode cX7_findCase 51 = .ok (.iadd, 1) := by decide +kernel
theorem dX7_findCase_52 : decode cX7_findCase 52 = .ok (.iaload, 1) := by decide +kernel
theorem dX7_findCase_53 : decode cX7_findCase 53 = .ok (.ireturn, 1) := by decide +kernel
theorem dX7_findCase_54 : decode cX7_findCase 54 = .ok (.iinc 2 1, 3) := by decide +kernel
theorem dX7_findCase_57 : decode cX7_findCase 57 = .ok (.goto (-46), 3) := by decide +kernel
theorem dX7_findCase_60 : decode cX7_findCase 60 = .ok (.iconst (-1), 1) := by decide +kernel
theorem dX7_findCase_61 : decode cX7_findCase 61 = .ok (.ireturn, 1) := by decide +kernel
theorem dX7_wrong_0 : decode cX7_wrong 0 = .ok (.iload_n 1, 1) := by decide +kernel
theorem dX7_wrong_1 : decode cX7_wrong 1 = .ok (.iconst 4, 1) := by decide +kernel
theorem dX7_wrong_2 : decode cX7_wrong 2 = .ok (.if_icmp .lt 38, 3) := by decide +kernel
theorem dX7_wrong_5 : decode cX7_wrong 5 = .ok (.iload_n 1, 1) := by decide +kernel
theorem dX7_wrong_6 : decode cX7_wrong 6 = .ok (.bipush 8, 2) := by decide +kernel
theorem dX7_wrong_8 : decode cX7_wrong 8 = .ok (.if_icmp .gt 32, 3) := by decide +kernel
theorem dX7_wrong_11 : decode cX7_wrong 11 = .ok (.aload_n 0, 1) := by decide +kernel
theorem dX7_wrong_12 : decode cX7_wrong 12 = .ok (.getfield 106, 3) := by decide +kernel
theorem dX7_wrong_15 : decode cX7_wrong 15 = .ok (.aload_n 0, 1) := by decide +kernel
theorem dX7_wrong_16 : decode cX7_wrong 16 = .ok (.getfield 306, 3) := by decide +kernel
theorem dX7_wrong_19 : decode cX7_wrong 19 = .ok (.iconst 1, 1) := by decide +kernel
theorem dX7_wrong_20 : decode cX7_wrong 20 = .ok (.isub, 1) := by decide +kernel
theorem dX7_wrong_21 : decode cX7_wrong 21 = .ok (.iaload, 1) := by decide +kernel
theorem dX7_wrong_22 : decode cX7_wrong 22 = .ok (.invokestatic 344, 3) := by decide +kernel
theorem dX7_wrong_25 : decode cX7_wrong 25 = .ok (.ifCond .eq 13, 3) := by decide +kernel
theorem dX7_wrong_28 : decode cX7_wrong 28 = .ok (.aload_n 0, 1) := by decide +kernel
theorem dX7_wrong_29 : decode cX7_wrong 29 = .ok (.getfield 100, 3) := by decide +kernel
theorem dX7_wrong_32 : decode cX7_wrong 32 = .ok (.invokestatic 344, 3) := by decide +kernel
theorem dX7_wrong_35 : decode cX7_wrong 35 = .ok (.ifCond .ne 5, 3) := by decide +kernel
theorem dX7_wrong_38 : decode cX7_wrong 38 = .ok (.iconst 1, 1) := by decide +kernel
theorem dX7_wrong_39 : decode cX7_wrong 39 = .ok (.ireturn, 1) := by decide +kernel
theorem dX7_wrong_40 : decode cX7_wrong 40 = .ok (.iload_n 1, 1) := by decide +kernel
theorem dX7_wrong_41 : decode cX7_wrong 41 = .ok (.bipush 13, 2) := by decide +kernel
theorem dX7_wrong_43 : decode cX7_wrong 43 = .ok (.if_icmp .ne 16, 3) := by decide +kernel
theorem dX7_wrong_46 : decode cX7_wrong 46 = .ok (.aload_n 0, 1) := by decide +kernel
theorem dX7_wrong_47 : decode cX7_wrong 47 = .ok (.aload_n 0, 1) := by decide +kernel
theorem dX7_wrong_48 : decode cX7_wrong 48 = .ok (.getfield 100, 3) := by decide +kernel
theorem dX7_wrong_51 : decode cX7_wrong 51 = .ok (.invokevirtual 347, 3) := by decide +kernel
theorem dX7_wrong_54 : decode cX7_wrong 54 = .ok (.ifCond .ne 5, 3) := by decide +kernel
theorem dX7_wrong_57 : decode cX7_wrong 57 = .ok (.iconst 1, 1) := by decide +kernel
theorem dX7_wrong_58 : decode cX7_wrong 58 = .ok (.ireturn, 1) := by decide +kernel
theorem dX7_wrong_59 : decode cX7_wrong 59 = .ok (.iload_n 1, 1) := by decide +kernel
theorem dX7_wrong_60 : decode cX7_wrong 60 = .ok (.bipush 18, 2) := by decide +kernel
theorem dX7_wrong_62 : decode cX7_wrong 62 = .ok (.if_icmp .ne 23, 3) := by decide +kernel
theorem dX7_wrong_65 : decode cX7_wrong 65 = .ok (.aload_n 0, 1) := by decide +kernel
theorem dX7_wrong_66 : decode cX7_wrong 66 = .ok (.aload_n 0, 1) := by decide +kernel
theorem dX7_wrong_67 : decode cX7_wrong 67 = .ok (.getfield 100, 3) := by decide +kernel
theorem dX7_wrong_70 : decode cX7_wrong 70 = .ok (.invokevirtual 350, 3) := by decide +kernel
theorem dX7_wrong_73 : decode cX7_wrong 73 = .ok (.ifCond .eq 10, 3) := by decide +kernel
theorem dX7_wrong_76 : decode cX7_wrong 76 = .ok (.aload_n 0, 1) := by decide +kernel
theorem dX7_wrong_77 : decode cX7_wrong 77 = .ok (.invokevirtual 353, 3) := by decide +kernel
theorem dX7_wrong_80 : decode cX7_wrong 80 = .ok (.ifCond .ge 5, 3) := by decide +kernel
theorem dX7_wrong_83 : decode cX7_wrong 83 = .ok (.iconst 1, 1) := by decide +kernel
theorem dX7_wrong_84 : decode cX7_wrong 84 = .ok (.ireturn, 1) := by decide +kernel
theorem dX7_wrong_85 : decode cX7_wrong 85 = .ok (.iload_n 1, 1) := by decide +kernel
theorem dX7_wrong_86 : decode cX7_wrong 86 = .ok (.iconst 3, 1) := by decide +kernel
theorem dX7_wrong_87 : decode cX7_wrong 87 = .ok (.if_icmp .eq 9, 3) := by decide +kernel
theorem dX7_wrong_90 : decode cX7_wrong 90 = .ok (.iload_n 1, 1) := by decide +kernel
theorem dX7_wrong_91 : decode cX7_wrong 91 = .ok (.bipush 13, 2) := by decide +kernel
theorem dX7_wrong_93 : decode cX7_wrong 93 = .ok (.if_icmp .ne 16, 3) := by decide +kernel
theorem dX7_wrong_96 : decode cX7_wrong 96 = .ok (.aload_n 0, 1) := by decide +kernel
theorem dX7_wrong_97 : decode cX7_wrong 97 = .ok (.getfield 306, 3) := by decide +kernel
theorem dX7_wrong_100 : decode cX7_wrong 100 = .ok (.bipush 40, 2) := by decide +kernel
theorem dX7_wrong_102 : decode cX7_wrong 102 = .ok (.if_icmp .ne 7, 3) := by decide +kernel
theorem dX7_wrong_105 : decode cX7_wrong 105 = .ok (.iconst 3, 1) := by decide +kernel
theorem dX7_wrong_106 : decode cX7_wrong 106 = .ok (.goto 4, 3) := by decide +kernel
theorem dX7_wrong_109 : decode cX7_wrong 109 = .ok (.iconst 0, 1) := by decide +kernel
theorem dX7_wrong_110 : decode cX7_wrong 110 = .ok (.ireturn, 1) := by decide +kernel
theorem dX7_roomFor_0 : decode cX7_roomFor 0 = .ok (.iload_n 1, 1) := by decide +kernel
theorem dX7_roomFor_1 : decode cX7_roomFor 1 = .ok (.tableswitch 101 9 20 #[63, 63, 101, 101, 65, 63, 101, 101, 85, 101, 101, 94], 63) := by decide +kernel
theorem dX7_roomFor_64 : decode cX7_roomFor 64 = .ok (.iconst 3, 1) := by decide +kernel
theorem dX7_roomFor_65 : decode cX7_roomFor 65 = .ok (.ireturn, 1) := by decide +kernel
theorem dX7_roomFor_66 : decode cX7_roomFor 66 = .ok (.aload_n 0, 1) := by decide +kernel
theorem dX7_roomFor_67 : decode cX7_roomFor 67 = .ok (.aload_n 0, 1) := by decide +kernel
theorem dX7_roomFor_68 : decode cX7_roomFor 68 = .ok (.getfield 100, 3) := by decide +kernel
theorem dX7_roomFor_71 : decode cX7_roomFor 71 = .ok (.invokevirtual 331, 3) := by decide +kernel
theorem dX7_roomFor_74 : decode cX7_roomFor 74 = .ok (.bipush 9, 2) := by decide +kernel
theorem dX7_roomFor_76 : decode cX7_roomFor 76 = .ok (.if_icmp .ne 8, 3) := by decide +kernel
theorem dX7_roomFor_79 : decode cX7_roomFor 79 = .ok (.bipush 6, 2) := by decide +kernel
theorem dX7_roomFor_81 : decode cX7_roomFor 81 = .ok (.goto 4, 3) := by decide +kernel
theorem dX7_roomFor_84 : decode cX7_roomFor 84 = .ok (.iconst 3, 1) := by decide +kernel
theorem dX7_roomFor_85 : decode cX7_roomFor 85 = .ok (.ireturn, 1) := by decide +kernel
theorem dX7_roomFor_86 : decode cX7_roomFor 86 = .ok (.iconst 1, 1) := by decide +kernel
theorem dX7_roomFor_87 : decode cX7_roomFor 87 = .ok (.aload_n 0, 1) := by decide +kernel
theorem dX7_roomFor_88 : decode cX7_roomFor 88 = .ok (.invokevirtual 340, 3) := by decide +kernel
theorem dX7_roomFor_91 : decode cX7_roomFor 91 = .ok (.iconst 4, 1) := by decide +kernel
theorem dX7_roomFor_92 : decode cX7_roomFor 92 = .ok (.irem, 1) := by decide +kernel
theorem dX7_roomFor_93 : decode cX7_roomFor 93 = .ok (.iadd, 1) := by decide +kernel
theorem dX7_roomFor_94 : decode cX7_roomFor 94 = .ok (.ireturn, 1) := by decide +kernel
theorem dX7_roomFor_95 : decode cX7_roomFor 95 = .ok (.iconst 3, 1) := by decide +kernel
theorem dX7_roomFor_96 : decode cX7_roomFor 96 = .ok (.aload_n 0, 1) := by decide +kernel
theorem dX7_roomFor_97 : decode cX7_roomFor 97 = .ok (.invokevirtual 340, 3) := by decide +kernel
theorem dX7_roomFor_100 : decode cX7_roomFor 100 = .ok (.imul, 1) := by decide +kernel
theorem dX7_roomFor_101 : decode cX7_roomFor 101 = .ok (.ireturn, 1) := by decide +kernel
theorem dX7_roomFor_102 : decode cX7_roomFor 102 = .ok (.iconst 0, 1) := by decide +kernel
theorem dX7_roomFor_103 : decode cX7_roomFor 103 = .ok (.ireturn, 1) := by decide +kernel
theorem dX7_make_0 : decode cX7_make 0 = .ok (.aload_n 0, 1) := by decide +kernel
theorem dX7_make_1 : decode cX7_make 1 = .ok (.invokevirtual 340, 3) := by decide +kernel
theorem dX7_make_4 : decode cX7_make 4 = .ok (.iconst 4, 1) := by decide +kernel
theorem dX7_make_5 : decode cX7_make 5 = .ok (.irem, 1) := by decide +kernel
theorem dX7_make_6 : decode cX7_make 6 = .ok (.istore_n 1, 1) := by decide +kernel
theorem dX7_make_7 : decode cX7_make 7 = .ok (.aload_n 0, 1) := by decide +kernel
theorem dX7_make_8 : decode cX7_make 8 = .ok (.getfield 300, 3) := by decide +kernel
theorem dX7_make_11 : decode cX7_make 11 = .ok (.aload_n 0, 1) := by decide +kernel
theorem dX7_make_12 : decode cX7_make 12 = .ok (.getfield 297, 3) := by decide +kernel
theorem dX7_make_15 : decode cX7_make 15 = .ok (.iadd, 1) := by decide +kernel
theorem dX7_make_16 : decode cX7_make 16 = .ok (.istore_n 2, 1) := by decide +kernel
theorem dX7_make_17 : decode cX7_make 17 = .ok (.aload_n 0, 1) := by decide +kernel
theorem dX7_make_18 : decode cX7_make 18 = .ok (.getfield 94, 3) := by decide +kernel
theorem dX7_make_21 : decode cX7_make 21 = .ok (.iload_n 2, 1) := by decide +kernel
theorem dX7_make_22 : decode cX7_make 22 = .ok (.bipush 16, 2) := by decide +kernel
theorem dX7_make_24 : decode cX7_make 24 = .ok (.iload_n 1, 1) := by decide +kernel
theorem dX7_make_25 : decode cX7_make 25 = .ok (.imul, 1) := by decide +kernel
theorem dX7_make_26 : decode cX7_make 26 = .ok (.aload_n 0, 1) := by decide +kernel
theorem dX7_make_27 : decode cX7_make 27 = .ok (.invokevirtual 340, 3) := by decide +kernel
theorem dX7_make_30 : decode cX7_make 30 = .ok (.iadd, 1) := by decide +kernel
theorem dX7_make_31 : decode cX7_make 31 = .ok (.iastore, 1) := by decide +kernel
theorem dX7_make_32 : decode cX7_make 32 = .ok (.aload_n 0, 1) := by decide +kernel
theorem dX7_make_33 : decode cX7_make 33 = .ok (.dup, 1) := by decide +kernel
theorem dX7_make_34 : decode cX7_make 34 = .ok (.getfield 306, 3) := by decide +kernel
theorem dX7_make_37 : decode cX7_make 37 = .ok (.iload_n 1, 1) := by decide +kernel
theorem dX7_make_38 : decode cX7_make 38 = .ok (.iconst 1, 1) := by decide +kernel
theorem dX7_make_39 : decode cX7_make 39 = .ok (.isub, 1) := by decide +kernel
theorem dX7_make_40 : decode cX7_make 40 = .ok (.isub, 1) := by decide +kernel
theorem dX7_make_41 : decode cX7_make 41 = .ok (.putfield 306, 3) := by decide +kernel
theorem dX7_make_44 : decode cX7_make 44 = .ok (.iconst 0, 1) := by decide +kernel
theorem dX7_make_45 : decode cX7_make 45 = .ok (.istore_n 3, 1) := by decide +kernel
theorem dX7_make_46 : decode cX7_make 46 = .ok (.iload_n 3, 1) := by decide +kernel
theorem dX7_make_47 : decode cX7_make 47 = .ok (.iload_n 1, 1) := by decide +kernel
theorem dX7_make_48 : decode cX7_make 48 = .ok (.iconst 1, 1) := by decide +kernel
theorem dX7_make_49 : decode cX7_make 49 = .ok (.isub, 1) := by decide +kernel
theorem dX7_make_50 : decode cX7_make 50 = .ok (.if_icmp .ge 30, 3) := by decide +kernel
theorem dX7_make_53 : decode cX7_make 53 = .ok (.aload_n 0, 1) := by decide +kernel
theorem dX7_make_54 : decode cX7_make 54 = .ok (.getfield 94, 3) := by decide +kernel
theorem dX7_make_57 : decode cX7_make 57 = .ok (.iload_n 2, 1) := by decide +kernel
theorem dX7_make_58 : decode cX7_make 58 = .ok (.iconst 1, 1) := by decide +kernel
theorem dX7_make_59 : decode cX7_make 59 = .ok (.iadd, 1) := by decide +kernel
theorem dX7_make_60 : decode cX7_make 60 = .ok (.iload_n 3, 1) := by decide +kernel
theorem dX7_make_61 : decode cX7_make 61 = .ok (.iadd, 1) := by decide +kernel
theorem dX7_make_62 : decode cX7_make 62 = .ok (.aload_n 0, 1) := by decide +kernel
theorem dX7_make_63 : decode cX7_make 63 = .ok (.getfield 106, 3) := by decide +kernel
theorem dX7_make_66 : decode cX7_make 66 = .ok (.aload_n 0, 1) := by decide +kernel
theorem dX7_make_67 : decode cX7_make 67 = .ok (.getfield 306, 3) := by decide +kernel
theorem dX7_make_70 : decode cX7_make 70 = .ok (.iload_n 3, 1) := by decide +kernel
theorem dX7_make_71 : decode cX7_make 71 = .ok (.iadd, 1) := by decide +kernel
theorem dX7_make_72 : decode cX7_make 72 = .ok (.iaload, 1) := by decide +kernel
theorem dX7_make_73 : decode cX7_make 73 = .ok (.iastore, 1) := by decide +kernel
theorem dX7_make_74 : decode cX7_make 74 = .ok (.iinc 3 1, 3) := by decide +kernel
theorem dX7_make_77 : decode cX7_make 77 = .ok (.goto (-31), 3) := by decide +kernel
theorem dX7_make_80 : decode cX7_make 80 = .ok (.aload_n 0, 1) := by decide +kernel
theorem dX7_make_81 : decode cX7_make 81 = .ok (.getfield 94, 3) := by decide +kernel
theorem dX7_make_84 : decode cX7_make 84 = .ok (.iload_n 2, 1) := by decide +kernel
theorem dX7_make_85 : decode cX7_make 85 = .ok (.iload_n 1, 1) := by decide +kernel
theorem dX7_make_86 : decode cX7_make 86 = .ok (.iadd, 1) := by decide +kernel
theorem dX7_make_87 : decode cX7_make 87 = .ok (.aload_n 0, 1) := by decide +kernel
theorem dX7_make_88 : decode cX7_make 88 = .ok (.getfield 100, 3) := by decide +kernel
theorem dX7_make_91 : decode cX7_make 91 = .ok (.iastore, 1) := by decide +kernel
theorem dX7_make_92 : decode cX7_make 92 = .ok (.aload_n 0, 1) := by decide +kernel
theorem dX7_make_93 : decode cX7_make 93 = .ok (.dup, 1) := by decide +kernel
theorem dX7_make_94 : decode cX7_make 94 = .ok (.getfield 297, 3) := by decide +kernel
theorem dX7_make_97 : decode cX7_make 97 = .ok (.iconst 1, 1) := by decide +kernel
theorem dX7_make_98 : decode cX7_make 98 = .ok (.iload_n 1, 1) := by decide +kernel
theorem dX7_make_99 : decode cX7_make 99 = .ok (.iadd, 1) := by decide +kernel
theorem dX7_make_100 : decode cX7_make 100 = .ok (.iadd, 1) := by decide +kernel
theorem dX7_make_101 : decode cX7_make 101 = .ok (.putfield 297, 3) := by decide +kernel
theorem dX7_make_104 : decode cX7_make 104 = .ok (.aload_n 0, 1) := by decide +kernel
theorem dX7_make_105 : decode cX7_make 105 = .ok (.iconst 4, 1) := by decide +kernel
theorem dX7_make_106 : decode cX7_make 106 = .ok (.iload_n 2, 1) := by decide +kernel
theorem dX7_make_107 : decode cX7_make 107 = .ok (.imul, 1) := by decide +kernel
theorem dX7_make_108 : decode cX7_make 108 = .ok (.putfield 100, 3) := by decide +kernel
theorem dX7_make_111 : decode cX7_make 111 = .ok (.return_, 1) := by decide +kernel
theorem dX7_apply_0 : decode cX7_apply 0 = .ok (.aload_n 0, 1) := by decide +kernel
theorem dX7_apply_1 : decode cX7_apply 1 = .ok (.getfield 100, 3) := by decide +kernel
theorem dX7_apply_4 : decode cX7_apply 4 = .ok (.istore_n 1, 1) := by decide +kernel
theorem dX7_apply_5 : decode cX7_apply 5 = .ok (.aload_n 0, 1) := by decide +kernel
theorem dX7_apply_6 : decode cX7_apply 6 = .ok (.getfield 106, 3) := by decide +kernel
theorem dX7_apply_9 : decode cX7_apply 9 = .ok (.aload_n 0, 1) := by decide +kernel
theorem dX7_apply_10 : decode cX7_apply 10 = .ok (.getfield 306, 3) := by decide +kernel
theorem dX7_apply_13 : decode cX7_apply 13 = .ok (.iconst 1, 1) := by decide +kernel
theorem dX7_apply_14 : decode cX7_apply 14 = .ok (.isub, 1) := by decide +kernel
theorem dX7_apply_15 : decode cX7_apply 15 = .ok (.iaload, 1) := by decide +kernel
theorem dX7_apply_16 : decode cX7_apply 16 = .ok (.istore_n 2, 1) := by decide +kernel
theorem dX7_apply_17 : decode cX7_apply 17 = .ok (.aload_n 0, 1) := by decide +kernel
theorem dX7_apply_18 : decode cX7_apply 18 = .ok (.getfield 106, 3) := by decide +kernel
theorem dX7_apply_21 : decode cX7_apply 21 = .ok (.aload_n 0, 1) := by decide +kernel
theorem dX7_apply_22 : decode cX7_apply 22 = .ok (.getfield 306, 3) := by decide +kernel
theorem dX7_apply_25 : decode cX7_apply 25 = .ok (.iconst 1, 1) := by decide +kernel
theorem dX7_apply_26 : decode cX7_apply 26 = .ok (.isub, 1) := by decide +kernel
theorem dX7_apply_27 : decode cX7_apply 27 = .ok (.aload_n 0, 1) := by decide +kernel
theorem dX7_apply_28 : decode cX7_apply 28 = .ok (.getfield 103, 3) := by decide +kernel
theorem dX7_apply_31 : decode cX7_apply 31 = .ok (.iastore, 1) := by decide +kernel
theorem dX7_apply_32 : decode cX7_apply 32 = .ok (.aload_n 0, 1) := by decide +kernel
theorem dX7_apply_33 : decode cX7_apply 33 = .ok (.getfield 106, 3) := by decide +kernel
theorem dX7_apply_36 : decode cX7_apply 36 = .ok (.aload_n 0, 1) := by decide +kernel
theorem dX7_apply_37 : decode cX7_apply 37 = .ok (.getfield 306, 3) := by decide +kernel
theorem dX7_apply_40 : decode cX7_apply 40 = .ok (.iconst 2, 1) := by decide +kernel
theorem dX7_apply_41 : decode cX7_apply 41 = .ok (.aload_n 0, 1) := by decide +kernel
theorem dX7_apply_42 : decode cX7_apply 42 = .ok (.getfield 309, 3) := by decide +kernel
theorem dX7_apply_45 : decode cX7_apply 45 = .ok (.iconst 1, 1) := by decide +kernel
theorem dX7_apply_46 : decode cX7_apply 46 = .ok (.iadd, 1) := by decide +kernel
theorem dX7_apply_47 : decode cX7_apply 47 = .ok (.imul, 1) := by decide +kernel
theorem dX7_apply_48 : decode cX7_apply 48 = .ok (.iconst 1, 1) := by decide +kernel
theorem dX7_apply_49 : decode cX7_apply 49 = .ok (.iadd, 1) := by decide +kernel
theorem dX7_apply_50 : decode cX7_apply 50 = .ok (.iastore, 1) := by decide +kernel
theorem dX7_apply_51 : decode cX7_apply 51 = .ok (.aload_n 0, 1) := by decide +kernel
theorem dX7_apply_52 : decode cX7_apply 52 = .ok (.dup, 1) := by decide +kernel
theorem dX7_apply_53 : decode cX7_apply 53 = .ok (.getfield 306, 3) := by decide +kernel
theorem dX7_apply_56 : decode cX7_apply 56 = .ok (.iconst 1, 1) := by decide +kernel
theorem dX7_apply_57 : decode cX7_apply 57 = .ok (.iadd, 1) := by decide +kernel
theorem dX7_apply_58 : decode cX7_apply 58 = .ok (.putfield 306, 3) := by decide +kernel
theorem dX7_apply_61 : decode cX7_apply 61 = .ok (.aload_n 0, 1) := by decide +kernel
theorem dX7_apply_62 : decode cX7_apply 62 = .ok (.aload_n 0, 1) := by decide +kernel
theorem dX7_apply_63 : decode cX7_apply 63 = .ok (.iload_n 1, 1) := by decide +kernel
theorem dX7_apply_64 : decode cX7_apply 64 = .ok (.iconst 1, 1) := by decide +kernel
theorem dX7_apply_65 : decode cX7_apply 65 = .ok (.invokevirtual 356, 3) := by decide +kernel
theorem dX7_apply_68 : decode cX7_apply 68 = .ok (.putfield 103, 3) := by decide +kernel
theorem dX7_apply_71 : decode cX7_apply 71 = .ok (.aload_n 0, 1) := by decide +kernel
theorem dX7_apply_72 : decode cX7_apply 72 = .ok (.iload_n 1, 1) := by decide +kernel
theorem dX7_apply_73 : decode cX7_apply 73 = .ok (.invokevirtual 331, 3) := by decide +kernel
theorem dX7_apply_76 : decode cX7_apply 76 = .ok (.bipush 9, 2) := by decide +kernel
theorem dX7_apply_78 : decode cX7_apply 78 = .ok (.if_icmp .ne 18, 3) := by decide +kernel
theorem dX7_apply_81 : decode cX7_apply 81 = .ok (.aload_n 0, 1) := by decide +kernel
theorem dX7_apply_82 : decode cX7_apply 82 = .ok (.aload_n 0, 1) := by decide +kernel
theorem dX7_apply_83 : decode cX7_apply 83 = .ok (.bipush 10, 2) := by decide +kernel
theorem dX7_apply_85 : decode cX7_apply 85 = .ok (.iload_n 1, 1) := by decide +kernel
theorem dX7_apply_86 : decode cX7_apply 86 = .ok (.aload_n 0, 1) := by decide +kernel
theorem dX7_apply_87 : decode cX7_apply 87 = .ok (.getfield 103, 3) := by decide +kernel
theorem dX7_apply_90 : decode cX7_apply 90 = .ok (.invokevirtual 359, 3) := by decide +kernel
theorem dX7_apply_93 : decode cX7_apply 93 = .ok (.putfield 103, 3) := by decide +kernel
theorem dX7_apply_96 : decode cX7_apply 96 = .ok (.aload_n 0, 1) := by decide +kernel
theorem dX7_apply_97 : decode cX7_apply 97 = .ok (.aload_n 0, 1) := by decide +kernel
theorem dX7_apply_98 : decode cX7_apply 98 = .ok (.bipush 10, 2) := by decide +kernel
theorem dX7_apply_100 : decode cX7_apply 100 = .ok (.iload_n 2, 1) := by decide +kernel
theorem dX7_apply_101 : decode cX7_apply 101 = .ok (.aload_n 0, 1) := by decide +kernel
theorem dX7_apply_102 : decode cX7_apply 102 = .ok (.getfield 103, 3) := by decide +kernel
theorem dX7_apply_105 : decode cX7_apply 105 = .ok (.invokevirtual 359, 3) := by decide +kernel
theorem dX7_apply_108 : decode cX7_apply 108 = .ok (.putfield 103, 3) := by decide +kernel
theorem dX7_apply_111 : decode cX7_apply 111 = .ok (.aload_n 0, 1) := by decide +kernel
theorem dX7_apply_112 : decode cX7_apply 112 = .ok (.aload_n 0, 1) := by decide +kernel
theorem dX7_apply_113 : decode cX7_apply 113 = .ok (.iload_n 1, 1) := by decide +kernel
theorem dX7_apply_114 : decode cX7_apply 114 = .ok (.iconst 0, 1) := by decide +kernel
theorem dX7_apply_115 : decode cX7_apply 115 = .ok (.invokevirtual 356, 3) := by decide +kernel
theorem dX7_apply_118 : decode cX7_apply 118 = .ok (.iconst 1, 1) := by decide +kernel
theorem dX7_apply_119 : decode cX7_apply 119 = .ok (.ishr, 1) := by decide +kernel
theorem dX7_apply_120 : decode cX7_apply 120 = .ok (.putfield 309, 3) := by decide +kernel
theorem dX7_apply_123 : decode cX7_apply 123 = .ok (.return_, 1) := by decide +kernel
theorem dX7_simple_0 : decode cX7_simple 0 = .ok (.iload_n 1, 1) := by decide +kernel
theorem dX7_simple_1 : decode cX7_simple 1 = .ok (.tableswitch 296 1 20 #[95, 108, 160, 184, 184, 184, 184, 184, 190, 190, 296, 296, 296, 214, 108, 233, 246, 296, 296, 251], 95) := by decide +kernel
theorem dX7_simple_96 : decode cX7_simple 96 = .ok (.aload_n 0, 1) := by decide +kernel
theorem dX7_simple_97 : decode cX7_simple 97 = .ok (.iconst 2, 1) := by decide +kernel
theorem dX7_simple_98 : decode cX7_simple 98 = .ok (.aload_n 0, 1) := by decide +kernel
theorem dX7_simple_99 : decode cX7_simple 99 = .ok (.invokevirtual 340, 3) := by decide +kernel
theorem dX7_simple_102 : decode cX7_simple 102 = .ok (.imul, 1) := by decide +kernel
theorem dX7_simple_103 : decode cX7_simple 103 = .ok (.iconst 1, 1) := by decide +kernel
theorem dX7_simple_104 : decode cX7_simple 104 = .ok (.iadd, 1) := by decide +kernel
theorem dX7_simple_105 : decode cX7_simple 105 = .ok (.putfield 100, 3) := by decide +kernel
theorem dX7_simple_108 : decode cX7_simple 108 = .ok (.return_, 1) := by decide +kernel
theorem dX7_simple_109 : decode cX7_simple 109 = .ok (.aload_n 0, 1) := by decide +kernel
theorem dX7_simple_110 : decode cX7_simple 110 = .ok (.getfield 103, 3) := by decide +kernel
theorem dX7_simple_113 : decode cX7_simple 113 = .ok (.istore_n 2, 1) := by decide +kernel
theorem dX7_simple_114 : decode cX7_simple 114 = .ok (.iconst 0, 1) := by decide +kernel
theorem dX7_simple_115 : decode cX7_simple 115 = .ok (.istore_n 3, 1) := by decide +kernel
theorem dX7_simple_116 : decode cX7_simple 116 = .ok (.iload_n 3, 1) := by decide +kernel
theorem dX7_simple_117 : decode cX7_simple 117 = .ok (.aload_n 0, 1) := by decide +kernel
theorem dX7_simple_118 : decode cX7_simple 118 = .ok (.invokevirtual 340, 3) := by decide +kernel
theorem dX7_simple_121 : decode cX7_simple 121 = .ok (.if_icmp .ge 16, 3) := by decide +kernel
theorem dX7_simple_124 : decode cX7_simple 124 = .ok (.aload_n 0, 1) := by decide +kernel
theorem dX7_simple_125 : decode cX7_simple 125 = .ok (.iload_n 2, 1) := by decide +kernel
theorem dX7_simple_126 : decode cX7_simple 126 = .ok (.iconst 1, 1) := by decide +kernel
theorem dX7_simple_127 : decode cX7_simple 127 = .ok (.invokevirtual 356, 3) := by decide +kernel
theorem dX7_simple_130 : decode cX7_simple 130 = .ok (.istore_n 2, 1) := by decide +kernel
theorem dX7_simple_131 : decode cX7_simple 131 = .ok (.iinc 3 1, 3) := by decide +kernel
theorem dX7_simple_134 : decode cX7_simple 134 = .ok (.goto (-18), 3) := by decide +kernel
theorem dX7_simple_137 : decode cX7_simple 137 = .ok (.iload_n 1, 1) := by decide +kernel
theorem dX7_simple_138 : decode cX7_simple 138 = .ok (.iconst 2, 1) := by decide +kernel
theorem dX7_simple_139 : decode cX7_simple 139 = .ok (.if_icmp .ne 16, 3) := by decide +kernel
theorem dX7_simple_142 : decode cX7_simple 142 = .ok (.aload_n 0, 1) := by decide +kernel
theorem dX7_simple_143 : decode cX7_simple 143 = .ok (.aload_n 0, 1) := by decide +kernel
theorem dX7_simple_144 : decode cX7_simple 144 = .ok (.iload_n 2, 1) := by decide +kernel
theorem dX7_simple_145 : decode cX7_simple 145 = .ok (.iconst 0, 1) := by decide +kernel
theorem dX7_simple_146 : decode cX7_simple 146 = .ok (.invokevirtual 356, 3) := by decide +kernel
theorem dX7_simple_149 : decode cX7_simple 149 = .ok (.putfield 100, 3) := by decide +kernel
theorem dX7_simple_152 : decode cX7_simple 152 = .ok (.goto 8, 3) := by decide +kernel
theorem dX7_simple_155 : decode cX7_simple 155 = .ok (.aload_n 0, 1) := by decide +kernel
theorem dX7_simple_156 : decode cX7_simple 156 = .ok (.iload_n 2, 1) := by decide +kernel
theorem dX7_simple_157 : decode cX7_simple 157 = .ok (.putfield 103, 3) := by decide +kernel
theorem dX7_simple_160 : decode cX7_simple 160 = .ok (.return_, 1) := by decide +kernel
theorem dX7_simple_161 : decode cX7_simple 161 = .ok (.aload_n 0, 1) := by decide +kernel
theorem dX7_simple_162 : decode cX7_simple 162 = .ok (.getfield 106, 3) := by decide +kernel
theorem dX7_simple_165 : decode cX7_simple 165 = .ok (.aload_n 0, 1) := by decide +kernel
theorem dX7_simple_166 : decode cX7_simple 166 = .ok (.getfield 306, 3) := by decide +kernel
theorem dX7_simple_169 : decode cX7_simple 169 = .ok (.aload_n 0, 1) := by decide +kernel
theorem dX7_simple_170 : decode cX7_simple 170 = .ok (.getfield 100, 3) := by decide +kernel
theorem dX7_simple_173 : decode cX7_simple 173 = .ok (.iastore, 1) := by decide +kernel
theorem dX7_simple_174 : decode cX7_simple 174 = .ok (.aload_n 0, 1) := by decide +kernel
theorem dX7_simple_175 : decode cX7_simple 175 = .ok (.dup, 1) := by decide +kernel
theorem dX7_simple_176 : decode cX7_simple 176 = .ok (.getfield 306, 3) := by decide +kernel
theorem dX7_simple_179 : decode cX7_simple 179 = .ok (.iconst 1, 1) := by decide +kernel
theorem dX7_simple_180 : decode cX7_simple 180 = .ok (.iadd, 1) := by decide +kernel
theorem dX7_simple_181 : decode cX7_simple 181 = .ok (.putfield 306, 3) := by decide +kernel
theorem dX7_simple_184 : decode cX7_simple 184 = .ok (.return_, 1) := by decide +kernel
theorem dX7_simple_185 : decode cX7_simple 185 = .ok (.aload_n 0, 1) := by decide +kernel
theorem dX7_simple_186 : decode cX7_simple 186 = .ok (.iload_n 1, 1) := by decide +kernel
theorem dX7_simple_187 : decode cX7_simple 187 = .ok (.invokevirtual 363, 3) := by decide +kernel
theorem dX7_simple_190 : decode cX7_simple 190 = .ok (.return_, 1) := by decide +kernel
theorem dX7_simple_191 : decode cX7_simple 191 = .ok (.aload_n 0, 1) := by decide +kernel
theorem dX7_simple_192 : decode cX7_simple 192 = .ok (.aload_n 0, 1) := by decide +kernel
theorem dX7_simple_193 : decode cX7_simple 193 = .ok (.iload_n 1, 1) := by decide +kernel
theorem dX7_simple_194 : decode cX7_simple 194 = .ok (.iconst 1, 1) := by decide +kernel
theorem dX7_simple_195 : decode cX7_simple 195 = .ok (.isub, 1) := by decide +kernel
theorem dX7_simple_196 : decode cX7_simple 196 = .ok (.iconst 2, 1) := by decide +kernel
theorem dX7_simple_197 : decode cX7_simple 197 = .ok (.aload_n 0, 1) := by decide +kernel
theorem dX7_simple_198 : decode cX7_simple 198 = .ok (.invokevirtual 340, 3) := by decide +kernel
theorem dX7_simple_201 : decode cX7_simple 201 = .ok (.imul, 1) := by decide +kernel
theorem dX7_simple_202 : decode cX7_simple 202 = .ok (.iconst 1, 1) := by decide +kernel
theorem dX7_simple_203 : decode cX7_simple 203 = .ok (.iadd, 1) := by decide +kernel
theorem dX7_simple_204 : decode cX7_simple 204 = .ok (.aload_n 0, 1) := by decide +kernel
theorem dX7_simple_205 : decode cX7_simple 205 = .ok (.getfield 103, 3) := by decide +kernel
theorem dX7_simple_208 : decode cX7_simple 208 = .ok (.invokevirtual 359, 3) := by decide +kernel
theorem dX7_simple_211 : decode cX7_simple 211 = .ok (.putfield 100, 3) := by decide +kernel
theorem dX7_simple_214 : decode cX7_simple 214 = .ok (.return_, 1) := by decide +kernel
theorem dX7_simple_215 : decode cX7_simple 215 = .ok (.aload_n 0, 1) := by decide +kernel
theorem dX7_simple_216 : decode cX7_simple 216 = .ok (.aload_n 0, 1) := by decide +kernel
theorem dX7_simple_217 : decode cX7_simple 217 = .ok (.bipush 10, 2) := by decide +kernel
theorem dX7_simple_219 : decode cX7_simple 219 = .ok (.aload_n 0, 1) := by decide +kernel
theorem dX7_simple_220 : decode cX7_simple 220 = .ok (.getfield 100, 3) := by decide +kernel
theorem dX7_simple_223 : decode cX7_simple 223 = .ok (.aload_n 0, 1) := by decide +kernel
theorem dX7_simple_224 : decode cX7_simple 224 = .ok (.getfield 103, 3) := by decide +kernel
theorem dX7_simple_227 : decode cX7_simple 227 = .ok (.invokevirtual 359, 3) := by decide +kernel
theorem dX7_simple_230 : decode cX7_simple 230 = .ok (.putfield 103, 3) := by decide +kernel
theorem dX7_simple_233 : decode cX7_simple 233 = .ok (.return_, 1) := by decide +kernel
theorem dX7_simple_234 : decode cX7_simple 234 = .ok (.aload_n 0, 1) := by decide +kernel
theorem dX7_simple_235 : decode cX7_simple 235 = .ok (.iconst 4, 1) := by decide +kernel
theorem dX7_simple_236 : decode cX7_simple 236 = .ok (.aload_n 0, 1) := by decide +kernel
theorem dX7_simple_237 : decode cX7_simple 237 = .ok (.invokevirtual 340, 3) := by decide +kernel
theorem dX7_simple_240 : decode cX7_simple 240 = .ok (.imul, 1) := by decide +kernel
theorem dX7_simple_241 : decode cX7_simple 241 = .ok (.iconst 2, 1) := by decide +kernel
theorem dX7_simple_242 : decode cX7_simple 242 = .ok (.iadd, 1) := by decide +kernel
theorem dX7_simple_243 : decode cX7_simple 243 = .ok (.putfield 100, 3) := by decide +kernel
theorem dX7_simple_246 : decode cX7_simple 246 = .ok (.return_, 1) := by decide +kernel
theorem dX7_simple_247 : decode cX7_simple 247 = .ok (.aload_n 0, 1) := by decide +kernel
theorem dX7_simple_248 : decode cX7_simple 248 = .ok (.invokevirtual 366, 3) := by decide +kernel
theorem dX7_simple_251 : decode cX7_simple 251 = .ok (.return_, 1) := by decide +kernel
theorem dX7_simple_252 : decode cX7_simple 252 = .ok (.aload_n 0, 1) := by decide +kernel
theorem dX7_simple_253 : decode cX7_simple 253 = .ok (.getfield 100, 3) := by decide +kernel
theorem dX7_simple_256 : decode cX7_simple 256 = .ok (.istore_n 3, 1) := by decide +kernel
theorem dX7_simple_257 : decode cX7_simple 257 = .ok (.iconst 0, 1) := by decide +kernel
theorem dX7_simple_258 : decode cX7_simple 258 = .ok (.istore 4, 2) := by decide +kernel
theorem dX7_simple_260 : decode cX7_simple 260 = .ok (.iload 4, 2) := by decide +kernel
theorem dX7_simple_262 : decode cX7_simple 262 = .ok (.aload_n 0, 1) := by decide +kernel
theorem dX7_simple_263 : decode cX7_simple 263 = .ok (.invokevirtual 340, 3) := by decide +kernel
theorem dX7_simple_266 : decode cX7_simple 266 = .ok (.if_icmp .ge 30, 3) := by decide +kernel
theorem dX7_simple_269 : decode cX7_simple 269 = .ok (.aload_n 0, 1) := by decide +kernel
theorem dX7_simple_270 : decode cX7_simple 270 = .ok (.aload_n 0, 1) := by decide +kernel
theorem dX7_simple_271 : decode cX7_simple 271 = .ok (.bipush 10, 2) := by decide +kernel
theorem dX7_simple_273 : decode cX7_simple 273 = .ok (.aload_n 0, 1) := by decide +kernel
theorem dX7_simple_274 : decode cX7_simple 274 = .ok (.iload_n 3, 1) := by decide +kernel
theorem dX7_simple_275 : decode cX7_simple 275 = .ok (.iload 4, 2) := by decide +kernel
theorem dX7_simple_277 : decode cX7_simple 277 = .ok (.invokevirtual 356, 3) := by decide +kernel
theorem dX7_simple_280 : decode cX7_simple 280 = .ok (.aload_n 0, 1) := by decide +kernel
theorem dX7_simple_281 : decode cX7_simple 281 = .ok (.getfield 103, 3) := by decide +kernel
theorem dX7_simple_284 : decode cX7_simple 284 = .ok (.invokevirtual 359, 3) := by decide +kernel
theorem dX7_simple_287 : decode cX7_simple 287 = .ok (.putfield 103, 3) := by decide +kernel
theorem dX7_simple_290 : decode cX7_simple 290 = .ok (.iinc 4 1, 3) := by decide +kernel
theorem dX7_simple_293 : decode cX7_simple 293 = .ok (.goto (-33), 3) := by decide +kernel
theorem dX7_simple_296 : decode cX7_simple 296 = .ok (.return_, 1) := by decide +kernel
theorem dX7_simple_297 : decode cX7_simple 297 = .ok (.return_, 1) := by decide +kernel
theorem dX7_one_0 : decode cX7_one 0 = .ok (.aload_n 0, 1) := by decide +kernel
theorem dX7_one_1 : decode cX7_one 1 = .ok (.getfield 82, 3) := by decide +kernel
theorem dX7_one_4 : decode cX7_one 4 = .ok (.iconst 3, 1) := by decide +kernel
theorem dX7_one_5 : decode cX7_one 5 = .ok (.aload_n 0, 1) := by decide +kernel
theorem dX7_one_6 : decode cX7_one 6 = .ok (.getfield 309, 3) := by decide +kernel
theorem dX7_one_9 : decode cX7_one 9 = .ok (.imul, 1) := by decide +kernel
theorem dX7_one_10 : decode cX7_one 10 = .ok (.iaload, 1) := by decide +kernel
theorem dX7_one_11 : decode cX7_one 11 = .ok (.istore_n 1, 1) := by decide +kernel
theorem dX7_one_12 : decode cX7_one 12 = .ok (.aload_n 0, 1) := by decide +kernel
theorem dX7_one_13 : decode cX7_one 13 = .ok (.iload_n 1, 1) := by decide +kernel
theorem dX7_one_14 : decode cX7_one 14 = .ok (.invokevirtual 369, 3) := by decide +kernel
theorem dX7_one_17 : decode cX7_one 17 = .ok (.istore_n 2, 1) := by decide +kernel
theorem dX7_one_18 : decode cX7_one 18 = .ok (.iload_n 2, 1) := by decide +kernel
theorem dX7_one_19 : decode cX7_one 19 = .ok (.ifCond .eq 9, 3) := by decide +kernel
theorem dX7_one_22 : decode cX7_one 22 = .ok (.aload_n 0, 1) := by decide +kernel
theorem dX7_one_23 : decode cX7_one 23 = .ok (.iload_n 2, 1) := by decide +kernel
theorem dX7_one_24 : decode cX7_one 24 = .ok (.invokevirtual 372, 3) := by decide +kernel
theorem dX7_one_27 : decode cX7_one 27 = .ok (.ireturn, 1) := by decide +kernel
theorem dX7_one_28 : decode cX7_one 28 = .ok (.aload_n 0, 1) := by decide +kernel
theorem dX7_one_29 : decode cX7_one 29 = .ok (.iload_n 1, 1) := by decide +kernel
theorem dX7_one_30 : decode cX7_one 30 = .ok (.invokevirtual 375, 3) := by decide +kernel
theorem dX7_one_33 : decode cX7_one 33 = .ok (.istore_n 3, 1) := by decide +kernel
theorem dX7_one_34 : decode cX7_one 34 = .ok (.iload_n 3, 1) := by decide +kernel
theorem dX7_one_35 : decode cX7_one 35 = .ok (.ifCond .le 17, 3) := by decide +kernel
theorem dX7_one_38 : decode cX7_one 38 = .ok (.aload_n 0, 1) := by decide +kernel
theorem dX7_one_39 : decode cX7_one 39 = .ok (.iload_n 3, 1) := by decide +kernel
theorem dX7_one_40 : decode cX7_one 40 = .ok (.invokevirtual 378, 3) := by decide +kernel
theorem dX7_one_43 : decode cX7_one 43 = .ok (.ifCond .ne 9, 3) := by decide +kernel
theorem dX7_one_46 : decode cX7_one 46 = .ok (.aload_n 0, 1) := by decide +kernel
theorem dX7_one_47 : decode cX7_one 47 = .ok (.iconst 2, 1) := by decide +kernel
theorem dX7_one_48 : decode cX7_one 48 = .ok (.invokevirtual 372, 3) := by decide +kernel
theorem dX7_one_51 : decode cX7_one 51 = .ok (.ireturn, 1) := by decide +kernel
theorem dX7_one_52 : decode cX7_one 52 = .ok (.iload_n 1, 1) := by decide +kernel
theorem dX7_one_53 : decode cX7_one 53 = .ok (.ifCond .ne 11, 3) := by decide +kernel
theorem dX7_one_56 : decode cX7_one 56 = .ok (.aload_n 0, 1) := by decide +kernel
theorem dX7_one_57 : decode cX7_one 57 = .ok (.iconst 2, 1) := by decide +kernel
theorem dX7_one_58 : decode cX7_one 58 = .ok (.putfield 312, 3) := by decide +kernel
theorem dX7_one_61 : decode cX7_one 61 = .ok (.goto 114, 3) := by decide +kernel
theorem dX7_one_64 : decode cX7_one 64 = .ok (.iload_n 1, 1) := by decide +kernel
theorem dX7_one_65 : decode cX7_one 65 = .ok (.bipush 11, 2) := by decide +kernel
theorem dX7_one_67 : decode cX7_one 67 = .ok (.if_icmp .ne 14, 3) := by decide +kernel
theorem dX7_one_70 : decode cX7_one 70 = .ok (.aload_n 0, 1) := by decide +kernel
theorem dX7_one_71 : decode cX7_one 71 = .ok (.aload_n 0, 1) := by decide +kernel
theorem dX7_one_72 : decode cX7_one 72 = .ok (.invokevirtual 340, 3) := by decide +kernel
theorem dX7_one_75 : decode cX7_one 75 = .ok (.putfield 309, 3) := by decide +kernel
theorem dX7_one_78 : decode cX7_one 78 = .ok (.goto 97, 3) := by decide +kernel
theorem dX7_one_81 : decode cX7_one 81 = .ok (.iload_n 1, 1) := by decide +kernel
theorem dX7_one_82 : decode cX7_one 82 = .ok (.bipush 18, 2) := by decide +kernel
theorem dX7_one_84 : decode cX7_one 84 = .ok (.if_icmp .ne 14, 3) := by decide +kernel
theorem dX7_one_87 : decode cX7_one 87 = .ok (.aload_n 0, 1) := by decide +kernel
theorem dX7_one_88 : decode cX7_one 88 = .ok (.aload_n 0, 1) := by decide +kernel
theorem dX7_one_89 : decode cX7_one 89 = .ok (.invokevirtual 353, 3) := by decide +kernel
theorem dX7_one_92 : decode cX7_one 92 = .ok (.putfield 309, 3) := by decide +kernel
theorem dX7_one_95 : decode cX7_one 95 = .ok (.goto 80, 3) := by decide +kernel
theorem dX7_one_98 : decode cX7_one 98 = .ok (.iload_n 1, 1) := by decide +kernel
theorem dX7_one_99 : decode cX7_one 99 = .ok (.bipush 13, 2) := by decide +kernel
theorem dX7_one_101 : decode cX7_one 101 = .ok (.if_icmp .ne 10, 3) := by decide +kernel
theorem dX7_one_104 : decode cX7_one 104 = .ok (.aload_n 0, 1) := by decide +kernel
theorem dX7_one_105 : decode cX7_one 105 = .ok (.invokevirtual 381, 3) := by decide +kernel
theorem dX7_one_108 : decode cX7_one 108 = .ok (.goto 67, 3) := by decide +kernel
theorem dX7_one_111 : decode cX7_one 111 = .ok (.iload_n 1, 1) := by decide +kernel
theorem dX7_one_112 : decode cX7_one 112 = .ok (.bipush 12, 2) := by decide +kernel
theorem dX7_one_114 : decode cX7_one 114 = .ok (.if_icmp .ne 46, 3) := by decide +kernel
theorem dX7_one_117 : decode cX7_one 117 = .ok (.aload_n 0, 1) := by decide +kernel
theorem dX7_one_118 : decode cX7_one 118 = .ok (.dup, 1) := by decide +kernel
theorem dX7_one_119 : decode cX7_one 119 = .ok (.getfield 306, 3) := by decide +kernel
theorem dX7_one_122 : decode cX7_one 122 = .ok (.iconst 2, 1) := by decide +kernel
theorem dX7_one_123 : decode cX7_one 123 = .ok (.isub, 1) := by decide +kernel
theorem dX7_one_124 : decode cX7_one 124 = .ok (.putfield 306, 3) := by decide +kernel
theorem dX7_one_127 : decode cX7_one 127 = .ok (.aload_n 0, 1) := by decide +kernel
theorem dX7_one_128 : decode cX7_one 128 = .ok (.aload_n 0, 1) := by decide +kernel
theorem dX7_one_129 : decode cX7_one 129 = .ok (.getfield 106, 3) := by decide +kernel
theorem dX7_one_132 : decode cX7_one 132 = .ok (.aload_n 0, 1) := by decide +kernel
theorem dX7_one_133 : decode cX7_one 133 = .ok (.getfield 306, 3) := by decide +kernel
theorem dX7_one_136 : decode cX7_one 136 = .ok (.iaload, 1) := by decide +kernel
theorem dX7_one_137 : decode cX7_one 137 = .ok (.putfield 103, 3) := by decide +kernel
theorem dX7_one_140 : decode cX7_one 140 = .ok (.aload_n 0, 1) := by decide +kernel
theorem dX7_one_141 : decode cX7_one 141 = .ok (.aload_n 0, 1) := by decide +kernel
theorem dX7_one_142 : decode cX7_one 142 = .ok (.getfield 106, 3) := by decide +kernel
theorem dX7_one_145 : decode cX7_one 145 = .ok (.aload_n 0, 1) := by decide +kernel
theorem dX7_one_146 : decode cX7_one 146 = .ok (.getfield 306, 3) := by decide +kernel
theorem dX7_one_149 : decode cX7_one 149 = .ok (.iconst 1, 1) := by decide +kernel
theorem dX7_one_150 : decode cX7_one 150 = .ok (.iadd, 1) := by decide +kernel
theorem dX7_one_151 : decode cX7_one 151 = .ok (.iaload, 1) := by decide +kernel
theorem dX7_one_152 : decode cX7_one 152 = .ok (.iconst 1, 1) := by decide +kernel
theorem dX7_one_153 : decode cX7_one 153 = .ok (.ishr, 1) := by decide +kernel
theorem dX7_one_154 : decode cX7_one 154 = .ok (.putfield 309, 3) := by decide +kernel
theorem dX7_one_157 : decode cX7_one 157 = .ok (.goto 18, 3) := by decide +kernel
theorem dX7_one_160 : decode cX7_one 160 = .ok (.aload_n 0, 1) := by decide +kernel
theorem dX7_one_161 : decode cX7_one 161 = .ok (.iload_n 1, 1) := by decide +kernel
theorem dX7_one_162 : decode cX7_one 162 = .ok (.invokevirtual 384, 3) := by decide +kernel
theorem dX7_one_165 : decode cX7_one 165 = .ok (.aload_n 0, 1) := by decide +kernel
theorem dX7_one_166 : decode cX7_one 166 = .ok (.dup, 1) := by decide +kernel
theorem dX7_one_167 : decode cX7_one 167 = .ok (.getfield 309, 3) := by decide +kernel
theorem dX7_one_170 : decode cX7_one 170 = .ok (.iconst 1, 1) := by decide +kernel
theorem dX7_one_171 : decode cX7_one 171 = .ok (.iadd, 1) := by decide +kernel
theorem dX7_one_172 : decode cX7_one 172 = .ok (.putfield 309, 3) := by decide +kernel
theorem dX7_one_175 : decode cX7_one 175 = .ok (.iconst 0, 1) := by decide +kernel
theorem dX7_one_176 : decode cX7_one 176 = .ok (.ireturn, 1) := by decide +kernel
theorem dX7_run_0 : decode cX7_run 0 = .ok (.aload_n 0, 1) := by decide +kernel
theorem dX7_run_1 : decode cX7_run 1 = .ok (.iconst 0, 1) := by decide +kernel
theorem dX7_run_2 : decode cX7_run 2 = .ok (.putfield 112, 3) := by decide +kernel
theorem dX7_run_5 : decode cX7_run 5 = .ok (.iload_n 1, 1) := by decide +kernel
theorem dX7_run_6 : decode cX7_run 6 = .ok (.ifCond .lt 10, 3) := by decide +kernel
theorem dX7_run_9 : decode cX7_run 9 = .ok (.iload_n 1, 1) := by decide +kernel
theorem dX7_run_10 : decode cX7_run 10 = .ok (.sipush 500, 3) := by decide +kernel
theorem dX7_run_13 : decode cX7_run 13 = .ok (.if_icmp .le 9, 3) := by decide +kernel
theorem dX7_run_16 : decode cX7_run 16 = .ok (.aload_n 0, 1) := by decide +kernel
theorem dX7_run_17 : decode cX7_run 17 = .ok (.iconst 1, 1) := by decide +kernel
theorem dX7_run_18 : decode cX7_run 18 = .ok (.invokevirtual 290, 3) := by decide +kernel
theorem dX7_run_21 : decode cX7_run 21 = .ok (.ireturn, 1) := by decide +kernel
theorem dX7_run_22 : decode cX7_run 22 = .ok (.aload_n 0, 1) := by decide +kernel
theorem dX7_run_23 : decode cX7_run 23 = .ok (.getfield 312, 3) := by decide +kernel
theorem dX7_run_26 : decode cX7_run 26 = .ok (.iconst 1, 1) := by decide +kernel
theorem dX7_run_27 : decode cX7_run 27 = .ok (.if_icmp .eq 9, 3) := by decide +kernel
theorem dX7_run_30 : decode cX7_run 30 = .ok (.aload_n 0, 1) := by decide +kernel
theorem dX7_run_31 : decode cX7_run 31 = .ok (.iconst 2, 1) := by decide +kernel
theorem dX7_run_32 : decode cX7_run 32 = .ok (.invokevirtual 290, 3) := by decide +kernel
theorem dX7_run_35 : decode cX7_run 35 = .ok (.ireturn, 1) := by decide +kernel
theorem dX7_run_36 : decode cX7_run 36 = .ok (.iconst 0, 1) := by decide +kernel
theorem dX7_run_37 : decode cX7_run 37 = .ok (.istore_n 2, 1) := by decide +kernel
theorem dX7_run_38 : decode cX7_run 38 = .ok (.iload_n 2, 1) := by decide +kernel
theorem dX7_run_39 : decode cX7_run 39 = .ok (.iload_n 1, 1) := by decide +kernel
theorem dX7_run_40 : decode cX7_run 40 = .ok (.if_icmp .ge 30, 3) := by decide +kernel
theorem dX7_run_43 : decode cX7_run 43 = .ok (.aload_n 0, 1) := by decide +kernel
theorem dX7_run_44 : decode cX7_run 44 = .ok (.getfield 312, 3) := by decide +kernel
theorem dX7_run_47 : decode cX7_run 47 = .ok (.iconst 1, 1) := by decide +kernel
theorem dX7_run_48 : decode cX7_run 48 = .ok (.if_icmp .ne 22, 3) := by decide +kernel
theorem dX7_run_51 : decode cX7_run 51 = .ok (.aload_n 0, 1) := by decide +kernel
theorem dX7_run_52 : decode cX7_run 52 = .ok (.invokevirtual 387, 3) := by decide +kernel
theorem dX7_run_55 : decode cX7_run 55 = .ok (.ifCond .eq 9, 3) := by decide +kernel
theorem dX7_run_58 : decode cX7_run 58 = .ok (.aload_n 0, 1) := by decide +kernel
theorem dX7_run_59 : decode cX7_run 59 = .ok (.iconst 3, 1) := by decide +kernel
theorem dX7_run_60 : decode cX7_run 60 = .ok (.invokevirtual 290, 3) := by decide +kernel
theorem dX7_run_63 : decode cX7_run 63 = .ok (.ireturn, 1) := by decide +kernel
theorem dX7_run_64 : decode cX7_run 64 = .ok (.iinc 2 1, 3) := by decide +kernel
theorem dX7_run_67 : decode cX7_run 67 = .ok (.goto (-29), 3) := by decide +kernel
theorem dX7_run_70 : decode cX7_run 70 = .ok (.iload_n 2, 1) := by decide +kernel
theorem dX7_run_71 : decode cX7_run 71 = .ok (.ireturn, 1) := by decide +kernel
theorem dX7_state_0 : decode cX7_state 0 = .ok (.aload_n 0, 1) := by decide +kernel
theorem dX7_state_1 : decode cX7_state 1 = .ok (.iconst 0, 1) := by decide +kernel
theorem dX7_state_2 : decode cX7_state 2 = .ok (.putfield 112, 3) := by decide +kernel
theorem dX7_state_5 : decode cX7_state 5 = .ok (.aload_n 0, 1) := by decide +kernel
theorem dX7_state_6 : decode cX7_state 6 = .ok (.getfield 312, 3) := by decide +kernel
theorem dX7_state_9 : decode cX7_state 9 = .ok (.ireturn, 1) := by decide +kernel
theorem dX7_why_0 : decode cX7_why 0 = .ok (.aload_n 0, 1) := by decide +kernel
theorem dX7_why_1 : decode cX7_why 1 = .ok (.iconst 0, 1) := by decide +kernel
theorem dX7_why_2 : decode cX7_why 2 = .ok (.putfield 112, 3) := by decide +kernel
theorem dX7_why_5 : decode cX7_why 5 = .ok (.aload_n 0, 1) := by decide +kernel
theorem dX7_why_6 : decode cX7_why 6 = .ok (.getfield 315, 3) := by decide +kernel
theorem dX7_why_9 : decode cX7_why 9 = .ok (.ireturn, 1) := by decide +kernel
theorem dX7_next_0 : decode cX7_next 0 = .ok (.aload_n 0, 1) := by decide +kernel
theorem dX7_next_1 : decode cX7_next 1 = .ok (.iconst 0, 1) := by decide +kernel
theorem dX7_next_2 : decode cX7_next 2 = .ok (.putfield 112, 3) := by decide +kernel
theorem dX7_next_5 : decode cX7_next 5 = .ok (.aload_n 0, 1) := by decide +kernel
theorem dX7_next_6 : decode cX7_next 6 = .ok (.getfield 309, 3) := by decide +kernel
theorem dX7_next_9 : decode cX7_next 9 = .ok (.ireturn, 1) := by decide +kernel
theorem dX7_depth_0 : decode cX7_depth 0 = .ok (.aload_n 0, 1) := by decide +kernel
theorem dX7_depth_1 : decode cX7_depth 1 = .ok (.iconst 0, 1) := by decide +kernel
theorem dX7_depth_2 : decode cX7_depth 2 = .ok (.putfield 112, 3) := by decide +kernel
theorem dX7_depth_5 : decode cX7_depth 5 = .ok (.aload_n 0, 1) := by decide +kernel
theorem dX7_depth_6 : decode cX7_depth 6 = .ok (.getfield 306, 3) := by decide +kernel
theorem dX7_depth_9 : decode cX7_depth 9 = .ok (.ireturn, 1) := by decide +kernel
theorem dX7_used_0 : decode cX7_used 0 = .ok (.aload_n 0, 1) := by decide +kernel
theorem dX7_used_1 : decode cX7_used 1 = .ok (.iconst 0, 1) := by decide +kernel
theorem dX7_used_2 : decode cX7_used 2 = .ok (.putfield 112, 3) := by decide +kernel
theorem dX7_used_5 : decode cX7_used 5 = .ok (.aload_n 0, 1) := by decide +kernel
theorem dX7_used_6 : decode cX7_used 6 = .ok (.getfield 297, 3) := by decide +kernel
theorem dX7_used_9 : decode cX7_used 9 = .ok (.ireturn, 1) := by decide +kernel
theorem dX7_reach_0 : decode cX7_reach 0 = .ok (.iload_n 1, 1) := by decide +kernel
theorem dX7_reach_1 : decode cX7_reach 1 = .ok (.invokestatic 318, 3) := by decide +kernel
theorem dX7_reach_4 : decode cX7_reach 4 = .ok (.ifCond .eq 23, 3) := by decide +kernel
theorem dX7_reach_7 : decode cX7_reach 7 = .ok (.aload_n 0, 1) := by decide +kernel
theorem dX7_reach_8 : decode cX7_reach 8 = .ok (.getfield 97, 3) := by decide +kernel
theorem dX7_reach_11 : decode cX7_reach 11 = .ok (.iload_n 1, 1) := by decide +kernel
theorem dX7_reach_12 : decode cX7_reach 12 = .ok (.iconst 4, 1) := by decide +kernel
theorem dX7_reach_13 : decode cX7_reach 13 = .ok (.idiv, 1) := by decide +kernel
theorem dX7_reach_14 : decode cX7_reach 14 = .ok (.iaload, 1) := by decide +kernel
theorem dX7_reach_15 : decode cX7_reach 15 = .ok (.ifCond .ge 12, 3) := by decide +kernel
theorem dX7_reach_18 : decode cX7_reach 18 = .ok (.aload_n 0, 1) := by decide +kernel
theorem dX7_reach_19 : decode cX7_reach 19 = .ok (.getfield 97, 3) := by decide +kernel
theorem dX7_reach_22 : decode cX7_reach 22 = .ok (.iload_n 1, 1) := by decide +kernel
theorem dX7_reach_23 : decode cX7_reach 23 = .ok (.iconst 4, 1) := by decide +kernel
theorem dX7_reach_24 : decode cX7_reach 24 = .ok (.idiv, 1) := by decide +kernel
theorem dX7_reach_25 : decode cX7_reach 25 = .ok (.iconst 0, 1) := by decide +kernel
theorem dX7_reach_26 : decode cX7_reach 26 = .ok (.iastore, 1) := by decide +kernel
theorem dX7_reach_27 : decode cX7_reach 27 = .ok (.return_, 1) := by decide +kernel
theorem dX7_live_0 : decode cX7_live 0 = .ok (.aload_n 0, 1) := by decide +kernel
theorem dX7_live_1 : decode cX7_live 1 = .ok (.iconst 0, 1) := by decide +kernel
theorem dX7_live_2 : decode cX7_live 2 = .ok (.putfield 112, 3) := by decide +kernel
theorem dX7_live_5 : decode cX7_live 5 = .ok (.iconst 0, 1) := by decide +kernel
theorem dX7_live_6 : decode cX7_live 6 = .ok (.istore_n 1, 1) := by decide +kernel
theorem dX7_live_7 : decode cX7_live 7 = .ok (.iload_n 1, 1) := by decide +kernel
theorem dX7_live_8 : decode cX7_live 8 = .ok (.sipush 400, 3) := by decide +kernel
theorem dX7_live_11 : decode cX7_live 11 = .ok (.if_icmp .ge 16, 3) := by decide +kernel
theorem dX7_live_14 : decode cX7_live 14 = .ok (.aload_n 0, 1) := by decide +kernel
theorem dX7_live_15 : decode cX7_live 15 = .ok (.getfield 97, 3) := by decide +kernel
theorem dX7_live_18 : decode cX7_live 18 = .ok (.iload_n 1, 1) := by decide +kernel
theorem dX7_live_19 : decode cX7_live 19 = .ok (.iconst (-1), 1) := by decide +kernel
theorem dX7_live_20 : decode cX7_live 20 = .ok (.iastore, 1) := by decide +kernel
theorem dX7_live_21 : decode cX7_live 21 = .ok (.iinc 1 1, 3) := by decide +kernel
theorem dX7_live_24 : decode cX7_live 24 = .ok (.goto (-17), 3) := by decide +kernel
theorem dX7_live_27 : decode cX7_live 27 = .ok (.aload_n 0, 1) := by decide +kernel
theorem dX7_live_28 : decode cX7_live 28 = .ok (.aload_n 0, 1) := by decide +kernel
theorem dX7_live_29 : decode cX7_live 29 = .ok (.getfield 100, 3) := by decide +kernel
theorem dX7_live_32 : decode cX7_live 32 = .ok (.invokevirtual 390, 3) := by decide +kernel
theorem dX7_live_35 : decode cX7_live 35 = .ok (.aload_n 0, 1) := by decide +kernel
theorem dX7_live_36 : decode cX7_live 36 = .ok (.aload_n 0, 1) := by decide +kernel
theorem dX7_live_37 : decode cX7_live 37 = .ok (.getfield 103, 3) := by decide +kernel
theorem dX7_live_40 : decode cX7_live 40 = .ok (.invokevirtual 390, 3) := by decide +kernel
theorem dX7_live_43 : decode cX7_live 43 = .ok (.iconst 0, 1) := by decide +kernel
theorem dX7_live_44 : decode cX7_live 44 = .ok (.istore_n 1, 1) := by decide +kernel
theorem dX7_live_45 : decode cX7_live 45 = .ok (.iload_n 1, 1) := by decide +kernel
theorem dX7_live_46 : decode cX7_live 46 = .ok (.aload_n 0, 1) := by decide +kernel
theorem dX7_live_47 : decode cX7_live 47 = .ok (.getfield 306, 3) := by decide +kernel
theorem dX7_live_50 : decode cX7_live 50 = .ok (.if_icmp .ge 19, 3) := by decide +kernel
theorem dX7_live_53 : decode cX7_live 53 = .ok (.aload_n 0, 1) := by decide +kernel
theorem dX7_live_54 : decode cX7_live 54 = .ok (.aload_n 0, 1) := by decide +kernel
theorem dX7_live_55 : decode cX7_live 55 = .ok (.getfield 106, 3) := by decide +kernel
theorem dX7_live_58 : decode cX7_live 58 = .ok (.iload_n 1, 1) := by decide +kernel
theorem dX7_live_59 : decode cX7_live 59 = .ok (.iaload, 1) := by decide +kernel
theorem dX7_live_60 : decode cX7_live 60 = .ok (.invokevirtual 390, 3) := by decide +kernel
theorem dX7_live_63 : decode cX7_live 63 = .ok (.iinc 1 1, 3) := by decide +kernel
theorem dX7_live_66 : decode cX7_live 66 = .ok (.goto (-21), 3) := by decide +kernel
theorem dX7_live_69 : decode cX7_live 69 = .ok (.iconst 0, 1) := by decide +kernel
theorem dX7_live_70 : decode cX7_live 70 = .ok (.istore_n 1, 1) := by decide +kernel
theorem dX7_live_71 : decode cX7_live 71 = .ok (.iconst 1, 1) := by decide +kernel
theorem dX7_live_72 : decode cX7_live 72 = .ok (.istore_n 2, 1) := by decide +kernel
theorem dX7_live_73 : decode cX7_live 73 = .ok (.iload_n 2, 1) := by decide +kernel
theorem dX7_live_74 : decode cX7_live 74 = .ok (.ifCond .eq 111, 3) := by decide +kernel
theorem dX7_live_77 : decode cX7_live 77 = .ok (.iconst 0, 1) := by decide +kernel
theorem dX7_live_78 : decode cX7_live 78 = .ok (.istore_n 2, 1) := by decide +kernel
theorem dX7_live_79 : decode cX7_live 79 = .ok (.aload_n 0, 1) := by decide +kernel
theorem dX7_live_80 : decode cX7_live 80 = .ok (.getfield 300, 3) := by decide +kernel
theorem dX7_live_83 : decode cX7_live 83 = .ok (.istore_n 3, 1) := by decide +kernel
theorem dX7_live_84 : decode cX7_live 84 = .ok (.iload_n 3, 1) := by decide +kernel
theorem dX7_live_85 : decode cX7_live 85 = .ok (.aload_n 0, 1) := by decide +kernel
theorem dX7_live_86 : decode cX7_live 86 = .ok (.getfield 300, 3) := by decide +kernel
theorem dX7_live_89 : decode cX7_live 89 = .ok (.aload_n 0, 1) := by decide +kernel
theorem dX7_live_90 : decode cX7_live 90 = .ok (.getfield 297, 3) := by decide +kernel
theorem dX7_live_93 : decode cX7_live 93 = .ok (.iadd, 1) := by decide +kernel
theorem dX7_live_94 : decode cX7_live 94 = .ok (.if_icmp .ge 88, 3) := by decide +kernel
theorem dX7_live_97 : decode cX7_live 97 = .ok (.aload_n 0, 1) := by decide +kernel
theorem dX7_live_98 : decode cX7_live 98 = .ok (.getfield 97, 3) := by decide +kernel
theorem dX7_live_101 : decode cX7_live 101 = .ok (.iload_n 3, 1) := by decide +kernel
theorem dX7_live_102 : decode cX7_live 102 = .ok (.iaload, 1) := by decide +kernel
theorem dX7_live_103 : decode cX7_live 103 = .ok (.ifCond .eq 6, 3) := by decide +kernel
theorem dX7_live_106 : decode cX7_live 106 = .ok (.goto 60, 3) := by decide +kernel
theorem dX7_live_109 : decode cX7_live 109 = .ok (.aload_n 0, 1) := by decide +kernel
theorem dX7_live_110 : decode cX7_live 110 = .ok (.getfield 97, 3) := by decide +kernel
theorem dX7_live_113 : decode cX7_live 113 = .ok (.iload_n 3, 1) := by decide +kernel
theorem dX7_live_114 : decode cX7_live 114 = .ok (.iconst 1, 1) := by decide +kernel
theorem dX7_live_115 : decode cX7_live 115 = .ok (.iastore, 1) := by decide +kernel
theorem dX7_live_116 : decode cX7_live 116 = .ok (.iconst 1, 1) := by decide +kernel
theorem dX7_live_117 : decode cX7_live 117 = .ok (.istore_n 2, 1) := by decide +kernel
theorem dX7_live_118 : decode cX7_live 118 = .ok (.iload_n 1, 1) := by decide +kernel
theorem dX7_live_119 : decode cX7_live 119 = .ok (.iconst 1, 1) := by decide +kernel
theorem dX7_live_120 : decode cX7_live 120 = .ok (.aload_n 0, 1) := by decide +kernel
theorem dX7_live_121 : decode cX7_live 121 = .ok (.getfield 94, 3) := by decide +kernel
theorem dX7_live_124 : decode cX7_live 124 = .ok (.iload_n 3, 1) := by decide +kernel
theorem dX7_live_125 : decode cX7_live 125 = .ok (.iaload, 1) := by decide +kernel
theorem dX7_live_126 : decode cX7_live 126 = .ok (.iconst 4, 1) := by decide +kernel
theorem dX7_live_127 : decode cX7_live 127 = .ok (.ishr, 1) := by decide +kernel
theorem dX7_live_128 : decode cX7_live 128 = .ok (.iadd, 1) := by decide +kernel
theorem dX7_live_129 : decode cX7_live 129 = .ok (.iadd, 1) := by decide +kernel
theorem dX7_live_130 : decode cX7_live 130 = .ok (.istore_n 1, 1) := by decide +kernel
theorem dX7_live_131 : decode cX7_live 131 = .ok (.iconst 1, 1) := by decide +kernel
theorem dX7_live_132 : decode cX7_live 132 = .ok (.istore 4, 2) := by decide +kernel
theorem dX7_live_134 : decode cX7_live 134 = .ok (.iload 4, 2) := by decide +kernel
theorem dX7_live_136 : decode cX7_live 136 = .ok (.aload_n 0, 1) := by decide +kernel
theorem dX7_live_137 : decode cX7_live 137 = .ok (.getfield 94, 3) := by decide +kernel
theorem dX7_live_140 : decode cX7_live 140 = .ok (.iload_n 3, 1) := by decide +kernel
theorem dX7_live_141 : decode cX7_live 141 = .ok (.iaload, 1) := by decide +kernel
theorem dX7_live_142 : decode cX7_live 142 = .ok (.iconst 4, 1) := by decide +kernel
theorem dX7_live_143 : decode cX7_live 143 = .ok (.ishr, 1) := by decide +kernel
theorem dX7_live_144 : decode cX7_live 144 = .ok (.if_icmp .gt 22, 3) := by decide +kernel
theorem dX7_live_147 : decode cX7_live 147 = .ok (.aload_n 0, 1) := by decide +kernel
theorem dX7_live_148 : decode cX7_live 148 = .ok (.aload_n 0, 1) := by decide +kernel
theorem dX7_live_149 : decode cX7_live 149 = .ok (.getfield 94, 3) := by decide +kernel
theorem dX7_live_152 : decode cX7_live 152 = .ok (.iload_n 3, 1) := by decide +kernel
theorem dX7_live_153 : decode cX7_live 153 = .ok (.iload 4, 2) := by decide +kernel
theorem dX7_live_155 : decode cX7_live 155 = .ok (.iadd, 1) := by decide +kernel
theorem dX7_live_156 : decode cX7_live 156 = .ok (.iaload, 1) := by decide +kernel
theorem dX7_live_157 : decode cX7_live 157 = .ok (.invokevirtual 390, 3) := by decide +kernel
theorem dX7_live_160 : decode cX7_live 160 = .ok (.iinc 4 1, 3) := by decide +kernel
theorem dX7_live_163 : decode cX7_live 163 = .ok (.goto (-29), 3) := by decide +kernel
theorem dX7_live_166 : decode cX7_live 166 = .ok (.iload_n 3, 1) := by decide +kernel
theorem dX7_live_167 : decode cX7_live 167 = .ok (.iconst 1, 1) := by decide +kernel
theorem dX7_live_168 : decode cX7_live 168 = .ok (.aload_n 0, 1) := by decide +kernel
theorem dX7_live_169 : decode cX7_live 169 = .ok (.getfield 94, 3) := by decide +kernel
theorem dX7_live_172 : decode cX7_live 172 = .ok (.iload_n 3, 1) := by decide +kernel
theorem dX7_live_173 : decode cX7_live 173 = .ok (.iaload, 1) := by decide +kernel
theorem dX7_live_174 : decode cX7_live 174 = .ok (.iconst 4, 1) := by decide +kernel
theorem dX7_live_175 : decode cX7_live 175 = .ok (.ishr, 1) := by decide +kernel
theorem dX7_live_176 : decode cX7_live 176 = .ok (.iadd, 1) := by decide +kernel
theorem dX7_live_177 : decode cX7_live 177 = .ok (.iadd, 1) := by decide +kernel
theorem dX7_live_178 : decode cX7_live 178 = .ok (.istore_n 3, 1) := by decide +kernel
theorem dX7_live_179 : decode cX7_live 179 = .ok (.goto (-95), 3) := by decide +kernel
theorem dX7_live_182 : decode cX7_live 182 = .ok (.goto (-109), 3) := by decide +kernel
theorem dX7_live_185 : decode cX7_live 185 = .ok (.iload_n 1, 1) := by decide +kernel
theorem dX7_live_186 : decode cX7_live 186 = .ok (.ireturn, 1) := by decide +kernel
theorem dX7_collections_0 : decode cX7_collections 0 = .ok (.aload_n 0, 1) := by decide +kernel
theorem dX7_collections_1 : decode cX7_collections 1 = .ok (.iconst 0, 1) := by decide +kernel
theorem dX7_collections_2 : decode cX7_collections 2 = .ok (.putfield 112, 3) := by decide +kernel
theorem dX7_collections_5 : decode cX7_collections 5 = .ok (.aload_n 0, 1) := by decide +kernel
theorem dX7_collections_6 : decode cX7_collections 6 = .ok (.getfield 303, 3) := by decide +kernel
theorem dX7_collections_9 : decode cX7_collections 9 = .ok (.ireturn, 1) := by decide +kernel
theorem dX7_follow_0 : decode cX7_follow 0 = .ok (.aload_n 0, 1) := by decide +kernel
theorem dX7_follow_1 : decode cX7_follow 1 = .ok (.getfield 100, 3) := by decide +kernel
theorem dX7_follow_4 : decode cX7_follow 4 = .ok (.istore_n 2, 1) := by decide +kernel
theorem dX7_follow_5 : decode cX7_follow 5 = .ok (.iload_n 1, 1) := by decide +kernel
theorem dX7_follow_6 : decode cX7_follow 6 = .ok (.istore_n 3, 1) := by decide +kernel
theorem dX7_follow_7 : decode cX7_follow 7 = .ok (.iload_n 3, 1) := by decide +kernel
theorem dX7_follow_8 : decode cX7_follow 8 = .ok (.iconst 3, 1) := by decide +kernel
theorem dX7_follow_9 : decode cX7_follow 9 = .ok (.iand, 1) := by decide +kernel
theorem dX7_follow_10 : decode cX7_follow 10 = .ok (.ifCond .eq 21, 3) := by decide +kernel
theorem dX7_follow_13 : decode cX7_follow 13 = .ok (.aload_n 0, 1) := by decide +kernel
theorem dX7_follow_14 : decode cX7_follow 14 = .ok (.iload_n 2, 1) := by decide +kernel
theorem dX7_follow_15 : decode cX7_follow 15 = .ok (.iload_n 3, 1) := by decide +kernel
theorem dX7_follow_16 : decode cX7_follow 16 = .ok (.iconst 3, 1) := by decide +kernel
theorem dX7_follow_17 : decode cX7_follow 17 = .ok (.iand, 1) := by decide +kernel
theorem dX7_follow_18 : decode cX7_follow 18 = .ok (.iconst 1, 1) := by decide +kernel
theorem dX7_follow_19 : decode cX7_follow 19 = .ok (.isub, 1) := by decide +kernel
theorem dX7_follow_20 : decode cX7_follow 20 = .ok (.invokevirtual 356, 3) := by decide +kernel
theorem dX7_follow_23 : decode cX7_follow 23 = .ok (.istore_n 2, 1) := by decide +kernel
theorem dX7_follow_24 : decode cX7_follow 24 = .ok (.iload_n 3, 1) := by decide +kernel
theorem dX7_follow_25 : decode cX7_follow 25 = .ok (.iconst 2, 1) := by decide +kernel
theorem dX7_follow_26 : decode cX7_follow 26 = .ok (.iushr, 1) := by decide +kernel
theorem dX7_follow_27 : decode cX7_follow 27 = .ok (.istore_n 3, 1) := by decide +kernel
theorem dX7_follow_28 : decode cX7_follow 28 = .ok (.goto (-21), 3) := by decide +kernel
theorem dX7_follow_31 : decode cX7_follow 31 = .ok (.iload_n 2, 1) := by decide +kernel
theorem dX7_follow_32 : decode cX7_follow 32 = .ok (.ireturn, 1) := by decide +kernel
theorem dX7_kindOf_0 : decode cX7_kindOf 0 = .ok (.aload_n 0, 1) := by decide +kernel
theorem dX7_kindOf_1 : decode cX7_kindOf 1 = .ok (.iload_n 1, 1) := by decide +kernel
theorem dX7_kindOf_2 : decode cX7_kindOf 2 = .ok (.invokevirtual 393, 3) := by decide +kernel
theorem dX7_kindOf_5 : decode cX7_kindOf 5 = .ok (.istore_n 2, 1) := by decide +kernel
theorem dX7_kindOf_6 : decode cX7_kindOf 6 = .ok (.iload_n 2, 1) := by decide +kernel
theorem dX7_kindOf_7 : decode cX7_kindOf 7 = .ok (.invokestatic 344, 3) := by decide +kernel
theorem dX7_kindOf_10 : decode cX7_kindOf 10 = .ok (.ifCond .eq 7, 3) := by decide +kernel
theorem dX7_kindOf_13 : decode cX7_kindOf 13 = .ok (.iconst 1, 1) := by decide +kernel
theorem dX7_kindOf_14 : decode cX7_kindOf 14 = .ok (.goto 16, 3) := by decide +kernel
theorem dX7_kindOf_17 : decode cX7_kindOf 17 = .ok (.aload_n 0, 1) := by decide +kernel
theorem dX7_kindOf_18 : decode cX7_kindOf 18 = .ok (.iload_n 2, 1) := by decide +kernel
theorem dX7_kindOf_19 : decode cX7_kindOf 19 = .ok (.invokevirtual 350, 3) := by decide +kernel
theorem dX7_kindOf_22 : decode cX7_kindOf 22 = .ok (.ifCond .eq 7, 3) := by decide +kernel
theorem dX7_kindOf_25 : decode cX7_kindOf 25 = .ok (.iconst 2, 1) := by decide +kernel
theorem dX7_kindOf_26 : decode cX7_kindOf 26 = .ok (.goto 4, 3) := by decide +kernel
theorem dX7_kindOf_29 : decode cX7_kindOf 29 = .ok (.iconst 3, 1) := by decide +kernel
theorem dX7_kindOf_30 : decode cX7_kindOf 30 = .ok (.ireturn, 1) := by decide +kernel
theorem dX7_ends_0 : decode cX7_ends 0 = .ok (.aload_n 0, 1) := by decide +kernel
theorem dX7_ends_1 : decode cX7_ends 1 = .ok (.getfield 100, 3) := by decide +kernel
theorem dX7_ends_4 : decode cX7_ends 4 = .ok (.istore_n 2, 1) := by decide +kernel
theorem dX7_ends_5 : decode cX7_ends 5 = .ok (.iload_n 1, 1) := by decide +kernel
theorem dX7_ends_6 : decode cX7_ends 6 = .ok (.istore_n 3, 1) := by decide +kernel
theorem dX7_ends_7 : decode cX7_ends 7 = .ok (.iload_n 3, 1) := by decide +kernel
theorem dX7_ends_8 : decode cX7_ends 8 = .ok (.iconst 3, 1) := by decide +kernel
theorem dX7_ends_9 : decode cX7_ends 9 = .ok (.iand, 1) := by decide +kernel
theorem dX7_ends_10 : decode cX7_ends 10 = .ok (.ifCond .eq 53, 3) := by decide +kernel
theorem dX7_ends_13 : decode cX7_ends 13 = .ok (.iload_n 2, 1) := by decide +kernel
theorem dX7_ends_14 : decode cX7_ends 14 = .ok (.invokestatic 318, 3) := by decide +kernel
theorem dX7_ends_17 : decode cX7_ends 17 = .ok (.ifCond .ne 5, 3) := by decide +kernel
theorem dX7_ends_20 : decode cX7_ends 20 = .ok (.iconst 0, 1) := by decide +kernel
theorem dX7_ends_21 : decode cX7_ends 21 = .ok (.ireturn, 1) := by decide +kernel
theorem dX7_ends_22 : decode cX7_ends 22 = .ok (.aload_n 0, 1) := by decide +kernel
theorem dX7_ends_23 : decode cX7_ends 23 = .ok (.iload_n 2, 1) := by decide +kernel
theorem dX7_ends_24 : decode cX7_ends 24 = .ok (.invokevirtual 331, 3) := by decide +kernel
theorem dX7_ends_27 : decode cX7_ends 27 = .ok (.bipush 7, 2) := by decide +kernel
theorem dX7_ends_29 : decode cX7_ends 29 = .ok (.if_icmp .gt 14, 3) := by decide +kernel
theorem dX7_ends_32 : decode cX7_ends 32 = .ok (.iload_n 3, 1) := by decide +kernel
theorem dX7_ends_33 : decode cX7_ends 33 = .ok (.iconst 3, 1) := by decide +kernel
theorem dX7_ends_34 : decode cX7_ends 34 = .ok (.iand, 1) := by decide +kernel
theorem dX7_ends_35 : decode cX7_ends 35 = .ok (.aload_n 0, 1) := by decide +kernel
theorem dX7_ends_36 : decode cX7_ends 36 = .ok (.iload_n 2, 1) := by decide +kernel
theorem dX7_ends_37 : decode cX7_ends 37 = .ok (.invokevirtual 322, 3) := by decide +kernel
theorem dX7_ends_40 : decode cX7_ends 40 = .ok (.if_icmp .le 5, 3) := by decide +kernel
theorem dX7_ends_43 : decode cX7_ends 43 = .ok (.iconst 0, 1) := by decide +kernel
theorem dX7_ends_44 : decode cX7_ends 44 = .ok (.ireturn, 1) := by decide +kernel
theorem dX7_ends_45 : decode cX7_ends 45 = .ok (.aload_n 0, 1) := by decide +kernel
theorem dX7_ends_46 : decode cX7_ends 46 = .ok (.iload_n 2, 1) := by decide +kernel
theorem dX7_ends_47 : decode cX7_ends 47 = .ok (.iload_n 3, 1) := by decide +kernel
theorem dX7_ends_48 : decode cX7_ends 48 = .ok (.iconst 3, 1) := by decide +kernel
theorem dX7_ends_49 : decode cX7_ends 49 = .ok (.iand, 1) := by decide +kernel
theorem dX7_ends_50 : decode cX7_ends 50 = .ok (.iconst 1, 1) := by decide +kernel
theorem dX7_ends_51 : decode cX7_ends 51 = .ok (.isub, 1) := by decide +kernel
theorem dX7_ends_52 : decode cX7_ends 52 = .ok (.invokevirtual 356, 3) := by decide +kernel
theorem dX7_ends_55 : decode cX7_ends 55 = .ok (.istore_n 2, 1) := by decide +kernel
theorem dX7_ends_56 : decode cX7_ends 56 = .ok (.iload_n 3, 1) := by decide +kernel
theorem dX7_ends_57 : decode cX7_ends 57 = .ok (.iconst 2, 1) := by decide +kernel
theorem dX7_ends_58 : decode cX7_ends 58 = .ok (.iushr, 1) := by decide +kernel
theorem dX7_ends_59 : decode cX7_ends 59 = .ok (.istore_n 3, 1) := by decide +kernel
theorem dX7_ends_60 : decode cX7_ends 60 = .ok (.goto (-53), 3) := by decide +kernel
theorem dX7_ends_63 : decode cX7_ends 63 = .ok (.iconst 1, 1) := by decide +kernel
theorem dX7_ends_64 : decode cX7_ends 64 = .ok (.ireturn, 1) := by decide +kernel
theorem dX7_kind_0 : decode cX7_kind 0 = .ok (.aload_n 0, 1) := by decide +kernel
theorem dX7_kind_1 : decode cX7_kind 1 = .ok (.iconst 0, 1) := by decide +kernel
theorem dX7_kind_2 : decode cX7_kind 2 = .ok (.putfield 112, 3) := by decide +kernel
theorem dX7_kind_5 : decode cX7_kind 5 = .ok (.aload_n 0, 1) := by decide +kernel
theorem dX7_kind_6 : decode cX7_kind 6 = .ok (.iload_n 1, 1) := by decide +kernel
theorem dX7_kind_7 : decode cX7_kind 7 = .ok (.invokevirtual 396, 3) := by decide +kernel
theorem dX7_kind_10 : decode cX7_kind 10 = .ok (.ifCond .eq 11, 3) := by decide +kernel
theorem dX7_kind_13 : decode cX7_kind 13 = .ok (.aload_n 0, 1) := by decide +kernel
theorem dX7_kind_14 : decode cX7_kind 14 = .ok (.iload_n 1, 1) := by decide +kernel
theorem dX7_kind_15 : decode cX7_kind 15 = .ok (.invokevirtual 399, 3) := by decide +kernel
theorem dX7_kind_18 : decode cX7_kind 18 = .ok (.goto 4, 3) := by decide +kernel
theorem dX7_kind_21 : decode cX7_kind 21 = .ok (.iconst 0, 1) := by decide +kernel
theorem dX7_kind_22 : decode cX7_kind 22 = .ok (.ireturn, 1) := by decide +kernel
theorem dX7_value_0 : decode cX7_value 0 = .ok (.aload_n 0, 1) := by decide +kernel
theorem dX7_value_1 : decode cX7_value 1 = .ok (.iconst 0, 1) := by decide +kernel
theorem dX7_value_2 : decode cX7_value 2 = .ok (.putfield 112, 3) := by decide +kernel
theorem dX7_value_5 : decode cX7_value 5 = .ok (.aload_n 0, 1) := by decide +kernel
theorem dX7_value_6 : decode cX7_value 6 = .ok (.iload_n 1, 1) := by decide +kernel
theorem dX7_value_7 : decode cX7_value 7 = .ok (.invokevirtual 396, 3) := by decide +kernel
theorem dX7_value_10 : decode cX7_value 10 = .ok (.ifCond .ne 5, 3) := by decide +kernel
theorem dX7_value_13 : decode cX7_value 13 = .ok (.iconst 0, 1) := by decide +kernel
theorem dX7_value_14 : decode cX7_value 14 = .ok (.ireturn, 1) := by decide +kernel
theorem dX7_value_15 : decode cX7_value 15 = .ok (.aload_n 0, 1) := by decide +kernel
theorem dX7_value_16 : decode cX7_value 16 = .ok (.iload_n 1, 1) := by decide +kernel
theorem dX7_value_17 : decode cX7_value 17 = .ok (.invokevirtual 393, 3) := by decide +kernel
theorem dX7_value_20 : decode cX7_value 20 = .ok (.istore_n 2, 1) := by decide +kernel
theorem dX7_value_21 : decode cX7_value 21 = .ok (.iload_n 2, 1) := by decide +kernel
theorem dX7_value_22 : decode cX7_value 22 = .ok (.invokestatic 344, 3) := by decide +kernel
theorem dX7_value_25 : decode cX7_value 25 = .ok (.ifCond .eq 9, 3) := by decide +kernel
theorem dX7_value_28 : decode cX7_value 28 = .ok (.iload_n 2, 1) := by decide +kernel
theorem dX7_value_29 : decode cX7_value 29 = .ok (.iconst 1, 1) := by decide +kernel
theorem dX7_value_30 : decode cX7_value 30 = .ok (.ishr, 1) := by decide +kernel
theorem dX7_value_31 : decode cX7_value 31 = .ok (.goto 27, 3) := by decide +kernel
theorem dX7_value_34 : decode cX7_value 34 = .ok (.aload_n 0, 1) := by decide +kernel
theorem dX7_value_35 : decode cX7_value 35 = .ok (.iload_n 2, 1) := by decide +kernel
theorem dX7_value_36 : decode cX7_value 36 = .ok (.invokevirtual 350, 3) := by decide +kernel
theorem dX7_value_39 : decode cX7_value 39 = .ok (.ifCond .eq 11, 3) := by decide +kernel
theorem dX7_value_42 : decode cX7_value 42 = .ok (.aload_n 0, 1) := by decide +kernel
theorem dX7_value_43 : decode cX7_value 43 = .ok (.iload_n 2, 1) := by decide +kernel
theorem dX7_value_44 : decode cX7_value 44 = .ok (.invokevirtual 337, 3) := by decide +kernel
theorem dX7_value_47 : decode cX7_value 47 = .ok (.goto 11, 3) := by decide +kernel
theorem dX7_value_50 : decode cX7_value 50 = .ok (.aload_n 0, 1) := by decide +kernel
theorem dX7_value_51 : decode cX7_value 51 = .ok (.iload_n 2, 1) := by decide +kernel
theorem dX7_value_52 : decode cX7_value 52 = .ok (.iconst 0, 1) := by decide +kernel
theorem dX7_value_53 : decode cX7_value 53 = .ok (.invokevirtual 356, 3) := by decide +kernel
theorem dX7_value_56 : decode cX7_value 56 = .ok (.iconst 1, 1) := by decide +kernel
theorem dX7_value_57 : decode cX7_value 57 = .ok (.ishr, 1) := by decide +kernel
theorem dX7_value_58 : decode cX7_value 58 = .ok (.ireturn, 1) := by decide +kernel
