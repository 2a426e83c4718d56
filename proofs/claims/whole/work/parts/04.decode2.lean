theorem dX7_copy_82 : decode cX7_copy 82 = .ok (.getfield 32, 3) := by decide +kernel
theorem dX7_copy_85 : decode cX7_copy 85 = .ok (.iconst 0, 1) := by decide +kernel
theorem dX7_copy_86 : decode cX7_copy 86 = .ok (.bipush 6, 2) := by decide +kernel
theorem dX7_copy_88 : decode cX7_copy 88 = .ok (.invokestatic 67, 3) := by decide +kernel
theorem dX7_copy_91 : decode cX7_copy 91 = .ok (.aload_n 1, 1) := by decide +kernel
theorem dX7_copy_92 : decode cX7_copy 92 = .ok (.getfield 35, 3) := by decide +kernel
theorem dX7_copy_95 : decode cX7_copy 95 = .ok (.iconst 0, 1) := by decide +kernel
theorem dX7_copy_96 : decode cX7_copy 96 = .ok (.aload_n 0, 1) := by decide +kernel
theorem dX7_copy_97 : decode cX7_copy 97 = .ok (.getfield 35, 3) := by decide +kernel
theorem dX7_copy_100 : decode cX7_copy 100 = .ok (.iconst 0, 1) := by decide +kernel
theorem dX7_copy_101 : decode cX7_copy 101 = .ok (.bipush 6, 2) := by decide +kernel
theorem dX7_copy_103 : decode cX7_copy 103 = .ok (.invokestatic 67, 3) := by decide +kernel
theorem dX7_copy_106 : decode cX7_copy 106 = .ok (.aload_n 1, 1) := by decide +kernel
theorem dX7_copy_107 : decode cX7_copy 107 = .ok (.getfield 38, 3) := by decide +kernel
theorem dX7_copy_110 : decode cX7_copy 110 = .ok (.iconst 0, 1) := by decide +kernel
theorem dX7_copy_111 : decode cX7_copy 111 = .ok (.aload_n 0, 1) := by decide +kernel
theorem dX7_copy_112 : decode cX7_copy 112 = .ok (.getfield 38, 3) := by decide +kernel
theorem dX7_copy_115 : decode cX7_copy 115 = .ok (.iconst 0, 1) := by decide +kernel
theorem dX7_copy_116 : decode cX7_copy 116 = .ok (.bipush 6, 2) := by decide +kernel
theorem dX7_copy_118 : decode cX7_copy 118 = .ok (.invokestatic 67, 3) := by decide +kernel
theorem dX7_copy_121 : decode cX7_copy 121 = .ok (.aload_n 1, 1) := by decide +kernel
theorem dX7_copy_122 : decode cX7_copy 122 = .ok (.getfield 41, 3) := by decide +kernel
theorem dX7_copy_125 : decode cX7_copy 125 = .ok (.iconst 0, 1) := by decide +kernel
theorem dX7_copy_126 : decode cX7_copy 126 = .ok (.aload_n 0, 1) := by decide +kernel
theorem dX7_copy_127 : decode cX7_copy 127 = .ok (.getfield 41, 3) := by decide +kernel
theorem dX7_copy_130 : decode cX7_copy 130 = .ok (.iconst 0, 1) := by decide +kernel
theorem dX7_copy_131 : decode cX7_copy 131 = .ok (.bipush 6, 2) := by decide +kernel
theorem dX7_copy_133 : decode cX7_copy 133 = .ok (.invokestatic 67, 3) := by decide +kernel
theorem dX7_copy_136 : decode cX7_copy 136 = .ok (.return_, 1) := by decide +kernel
theorem dX7_addHearer_0 : decode cX7_addHearer 0 = .ok (.aload_n 0, 1) := by decide +kernel
theorem dX7_addHearer_1 : decode cX7_addHearer 1 = .ok (.getfield 48, 3) := by decide +kernel
theorem dX7_addHearer_4 : decode cX7_addHearer 4 = .ok (.bipush 10, 2) := by decide +kernel
theorem dX7_addHearer_6 : decode cX7_addHearer 6 = .ok (.if_icmp .ge 33, 3) := by decide +kernel
theorem dX7_addHearer_9 : decode cX7_addHearer 9 = .ok (.aload_n 0, 1) := by decide +kernel
theorem dX7_addHearer_10 : decode cX7_addHearer 10 = .ok (.getfield 25, 3) := by decide +kernel
theorem dX7_addHearer_13 : decode cX7_addHearer 13 = .ok (.aload_n 0, 1) := by decide +kernel
theorem dX7_addHearer_14 : decode cX7_addHearer 14 = .ok (.getfield 48, 3) := by decide +kernel
theorem dX7_addHearer_17 : decode cX7_addHearer 17 = .ok (.iload_n 1, 1) := by decide +kernel
theorem dX7_addHearer_18 : decode cX7_addHearer 18 = .ok (.iastore, 1) := by decide +kernel
theorem dX7_addHearer_19 : decode cX7_addHearer 19 = .ok (.aload_n 0, 1) := by decide +kernel
theorem dX7_addHearer_20 : decode cX7_addHearer 20 = .ok (.getfield 29, 3) := by decide +kernel
theorem dX7_addHearer_23 : decode cX7_addHearer 23 = .ok (.aload_n 0, 1) := by decide +kernel
theorem dX7_addHearer_24 : decode cX7_addHearer 24 = .ok (.getfield 48, 3) := by decide +kernel
theorem dX7_addHearer_27 : decode cX7_addHearer 27 = .ok (.iload_n 2, 1) := by decide +kernel
theorem dX7_addHearer_28 : decode cX7_addHearer 28 = .ok (.iastore, 1) := by decide +kernel
theorem dX7_addHearer_29 : decode cX7_addHearer 29 = .ok (.aload_n 0, 1) := by decide +kernel
theorem dX7_addHearer_30 : decode cX7_addHearer 30 = .ok (.dup, 1) := by decide +kernel
theorem dX7_addHearer_31 : decode cX7_addHearer 31 = .ok (.getfield 48, 3) := by decide +kernel
theorem dX7_addHearer_34 : decode cX7_addHearer 34 = .ok (.iconst 1, 1) := by decide +kernel
theorem dX7_addHearer_35 : decode cX7_addHearer 35 = .ok (.iadd, 1) := by decide +kernel
theorem dX7_addHearer_36 : decode cX7_addHearer 36 = .ok (.putfield 48, 3) := by decide +kernel
theorem dX7_addHearer_39 : decode cX7_addHearer 39 = .ok (.return_, 1) := by decide +kernel
theorem dX7_addSender_0 : decode cX7_addSender 0 = .ok (.aload_n 0, 1) := by decide +kernel
theorem dX7_addSender_1 : decode cX7_addSender 1 = .ok (.getfield 51, 3) := by decide +kernel
theorem dX7_addSender_4 : decode cX7_addSender 4 = .ok (.bipush 6, 2) := by decide +kernel
theorem dX7_addSender_6 : decode cX7_addSender 6 = .ok (.if_icmp .ge 80, 3) := by decide +kernel
theorem dX7_addSender_9 : decode cX7_addSender 9 = .ok (.aload_n 0, 1) := by decide +kernel
theorem dX7_addSender_10 : decode cX7_addSender 10 = .ok (.getfield 32, 3) := by decide +kernel
theorem dX7_addSender_13 : decode cX7_addSender 13 = .ok (.aload_n 0, 1) := by decide +kernel
theorem dX7_addSender_14 : decode cX7_addSender 14 = .ok (.getfield 51, 3) := by decide +kernel
theorem dX7_addSender_17 : decode cX7_addSender 17 = .ok (.iload_n 1, 1) := by decide +kernel
theorem dX7_addSender_18 : decode cX7_addSender 18 = .ok (.iastore, 1) := by decide +kernel
theorem dX7_addSender_19 : decode cX7_addSender 19 = .ok (.aload_n 0, 1) := by decide +kernel
theorem dX7_addSender_20 : decode cX7_addSender 20 = .ok (.getfield 35, 3) := by decide +kernel
theorem dX7_addSender_23 : decode cX7_addSender 23 = .ok (.aload_n 0, 1) := by decide +kernel
theorem dX7_addSender_24 : decode cX7_addSender 24 = .ok (.getfield 51, 3) := by decide +kernel
theorem dX7_addSender_27 : decode cX7_addSender 27 = .ok (.iload_n 2, 1) := by decide +kernel
theorem dX7_addSender_28 : decode cX7_addSender 28 = .ok (.iastore, 1) := by decide +kernel
theorem dX7_addSender_29 : decode cX7_addSender 29 = .ok (.aload_n 0, 1) := by decide +kernel
theorem dX7_addSender_30 : decode cX7_addSender 30 = .ok (.getfield 38, 3) := by decide +kernel
theorem dX7_addSender_33 : decode cX7_addSender 33 = .ok (.aload_n 0, 1) := by decide +kernel
theorem dX7_addSender_34 : decode cX7_addSender 34 = .ok (.getfield 51, 3) := by decide +kernel
theorem dX7_addSender_37 : decode cX7_addSender 37 = .ok (.iload_n 3, 1) := by decide +kernel
theorem dX7_addSender_38 : decode cX7_addSender 38 = .ok (.iastore, 1) := by decide +kernel
theorem dX7_addSender_39 : decode cX7_addSender 39 = .ok (.aload_n 0, 1) := by decide +kernel
theorem dX7_addSender_40 : decode cX7_addSender 40 = .ok (.getfield 41, 3) := by decide +kernel
theorem dX7_addSender_43 : decode cX7_addSender 43 = .ok (.aload_n 0, 1) := by decide +kernel
theorem dX7_addSender_44 : decode cX7_addSender 44 = .ok (.getfield 51, 3) := by decide +kernel
theorem dX7_addSender_47 : decode cX7_addSender 47 = .ok (.iload 4, 2) := by decide +kernel
theorem dX7_addSender_49 : decode cX7_addSender 49 = .ok (.ifCond .lt 12, 3) := by decide +kernel
theorem dX7_addSender_52 : decode cX7_addSender 52 = .ok (.iload 4, 2) := by decide +kernel
theorem dX7_addSender_54 : decode cX7_addSender 54 = .ok (.aload_n 0, 1) := by decide +kernel
theorem dX7_addSender_55 : decode cX7_addSender 55 = .ok (.getfield 51, 3) := by decide +kernel
theorem dX7_addSender_58 : decode cX7_addSender 58 = .ok (.if_icmp .lt 10, 3) := by decide +kernel
theorem dX7_addSender_61 : decode cX7_addSender 61 = .ok (.aload_n 0, 1) := by decide +kernel
theorem dX7_addSender_62 : decode cX7_addSender 62 = .ok (.getfield 51, 3) := by decide +kernel
theorem dX7_addSender_65 : decode cX7_addSender 65 = .ok (.goto 10, 3) := by decide +kernel
theorem dX7_addSender_68 : decode cX7_addSender 68 = .ok (.aload_n 0, 1) := by decide +kernel
theorem dX7_addSender_69 : decode cX7_addSender 69 = .ok (.getfield 41, 3) := by decide +kernel
theorem dX7_addSender_72 : decode cX7_addSender 72 = .ok (.iload 4, 2) := by decide +kernel
theorem dX7_addSender_74 : decode cX7_addSender 74 = .ok (.iaload, 1) := by decide +kernel
theorem dX7_addSender_75 : decode cX7_addSender 75 = .ok (.iastore, 1) := by decide +kernel
theorem dX7_addSender_76 : decode cX7_addSender 76 = .ok (.aload_n 0, 1) := by decide +kernel
theorem dX7_addSender_77 : decode cX7_addSender 77 = .ok (.dup, 1) := by decide +kernel
theorem dX7_addSender_78 : decode cX7_addSender 78 = .ok (.getfield 51, 3) := by decide +kernel
theorem dX7_addSender_81 : decode cX7_addSender 81 = .ok (.iconst 1, 1) := by decide +kernel
theorem dX7_addSender_82 : decode cX7_addSender 82 = .ok (.iadd, 1) := by decide +kernel
theorem dX7_addSender_83 : decode cX7_addSender 83 = .ok (.putfield 51, 3) := by decide +kernel
theorem dX7_addSender_86 : decode cX7_addSender 86 = .ok (.return_, 1) := by decide +kernel
theorem dX7_dropHearer_0 : decode cX7_dropHearer 0 = .ok (.iload_n 1, 1) := by decide +kernel
theorem dX7_dropHearer_1 : decode cX7_dropHearer 1 = .ok (.istore_n 2, 1) := by decide +kernel
theorem dX7_dropHearer_2 : decode cX7_dropHearer 2 = .ok (.iload_n 2, 1) := by decide +kernel
theorem dX7_dropHearer_3 : decode cX7_dropHearer 3 = .ok (.iconst 1, 1) := by decide +kernel
theorem dX7_dropHearer_4 : decode cX7_dropHearer 4 = .ok (.iadd, 1) := by decide +kernel
theorem dX7_dropHearer_5 : decode cX7_dropHearer 5 = .ok (.aload_n 0, 1) := by decide +kernel
theorem dX7_dropHearer_6 : decode cX7_dropHearer 6 = .ok (.getfield 48, 3) := by decide +kernel
theorem dX7_dropHearer_9 : decode cX7_dropHearer 9 = .ok (.if_icmp .ge 37, 3) := by decide +kernel
theorem dX7_dropHearer_12 : decode cX7_dropHearer 12 = .ok (.aload_n 0, 1) := by decide +kernel
theorem dX7_dropHearer_13 : decode cX7_dropHearer 13 = .ok (.getfield 25, 3) := by decide +kernel
theorem dX7_dropHearer_16 : decode cX7_dropHearer 16 = .ok (.iload_n 2, 1) := by decide +kernel
theorem dX7_dropHearer_17 : decode cX7_dropHearer 17 = .ok (.aload_n 0, 1) := by decide +kernel
theorem dX7_dropHearer_18 : decode cX7_dropHearer 18 = .ok (.getfield 25, 3) := by decide +kernel
theorem dX7_dropHearer_21 : decode cX7_dropHearer 21 = .ok (.iload_n 2, 1) := by decide +kernel
theorem dX7_dropHearer_22 : decode cX7_dropHearer 22 = .ok (.iconst 1, 1) := by decide +kernel
theorem dX7_dropHearer_23 : decode cX7_dropHearer 23 = .ok (.iadd, 1) := by decide +kernel
theorem dX7_dropHearer_24 : decode cX7_dropHearer 24 = .ok (.iaload, 1) := by decide +kernel
theorem dX7_dropHearer_25 : decode cX7_dropHearer 25 = .ok (.iastore, 1) := by decide +kernel
theorem dX7_dropHearer_26 : decode cX7_dropHearer 26 = .ok (.aload_n 0, 1) := by decide +kernel
theorem dX7_dropHearer_27 : decode cX7_dropHearer 27 = .ok (.getfield 29, 3) := by decide +kernel
theorem dX7_dropHearer_30 : decode cX7_dropHearer 30 = .ok (.iload_n 2, 1) := by decide +kernel
theorem dX7_dropHearer_31 : decode cX7_dropHearer 31 = .ok (.aload_n 0, 1) := by decide +kernel
theorem dX7_dropHearer_32 : decode cX7_dropHearer 32 = .ok (.getfield 29, 3) := by decide +kernel
theorem dX7_dropHearer_35 : decode cX7_dropHearer 35 = .ok (.iload_n 2, 1) := by decide +kernel
theorem dX7_dropHearer_36 : decode cX7_dropHearer 36 = .ok (.iconst 1, 1) := by decide +kernel
theorem dX7_dropHearer_37 : decode cX7_dropHearer 37 = .ok (.iadd, 1) := by decide +kernel
theorem dX7_dropHearer_38 : decode cX7_dropHearer 38 = .ok (.iaload, 1) := by decide +kernel
theorem dX7_dropHearer_39 : decode cX7_dropHearer 39 = .ok (.iastore, 1) := by decide +kernel
theorem dX7_dropHearer_40 : decode cX7_dropHearer 40 = .ok (.iinc 2 1, 3) := by decide +kernel
theorem dX7_dropHearer_43 : decode cX7_dropHearer 43 = .ok (.goto (-41), 3) := by decide +kernel
theorem dX7_dropHearer_46 : decode cX7_dropHearer 46 = .ok (.aload_n 0, 1) := by decide +kernel
theorem dX7_dropHearer_47 : decode cX7_dropHearer 47 = .ok (.dup, 1) := by decide +kernel
theorem dX7_dropHearer_48 : decode cX7_dropHearer 48 = .ok (.getfield 48, 3) := by decide +kernel
theorem dX7_dropHearer_51 : decode cX7_dropHearer 51 = .ok (.iconst 1, 1) := by decide +kernel
theorem dX7_dropHearer_52 : decode cX7_dropHearer 52 = .ok (.isub, 1) := by decide +kernel
theorem dX7_dropHearer_53 : decode cX7_dropHearer 53 = .ok (.putfield 48, 3) := by decide +kernel
theorem dX7_dropHearer_56 : decode cX7_dropHearer 56 = .ok (.return_, 1) := by decide +kernel
theorem dX7_hasHearer_0 : decode cX7_hasHearer 0 = .ok (.iload_n 1, 1) := by decide +kernel
theorem dX7_hasHearer_1 : decode cX7_hasHearer 1 = .ok (.ifCond .lt 15, 3) := by decide +kernel
theorem dX7_hasHearer_4 : decode cX7_hasHearer 4 = .ok (.iload_n 1, 1) := by decide +kernel
theorem dX7_hasHearer_5 : decode cX7_hasHearer 5 = .ok (.aload_n 0, 1) := by decide +kernel
theorem dX7_hasHearer_6 : decode cX7_hasHearer 6 = .ok (.getfield 48, 3) := by decide +kernel
theorem dX7_hasHearer_9 : decode cX7_hasHearer 9 = .ok (.if_icmp .ge 7, 3) := by decide +kernel
theorem dX7_hasHearer_12 : decode cX7_hasHearer 12 = .ok (.iconst 1, 1) := by decide +kernel
theorem dX7_hasHearer_13 : decode cX7_hasHearer 13 = .ok (.goto 4, 3) := by decide +kernel
theorem dX7_hasHearer_16 : decode cX7_hasHearer 16 = .ok (.iconst 0, 1) := by decide +kernel
theorem dX7_hasHearer_17 : decode cX7_hasHearer 17 = .ok (.ireturn, 1) := by decide +kernel
theorem dX7_hasPlace_0 : decode cX7_hasPlace 0 = .ok (.iconst 0, 1) := by decide +kernel
theorem dX7_hasPlace_1 : decode cX7_hasPlace 1 = .ok (.istore_n 2, 1) := by decide +kernel
theorem dX7_hasPlace_2 : decode cX7_hasPlace 2 = .ok (.iload_n 2, 1) := by decide +kernel
theorem dX7_hasPlace_3 : decode cX7_hasPlace 3 = .ok (.aload_n 0, 1) := by decide +kernel
theorem dX7_hasPlace_4 : decode cX7_hasPlace 4 = .ok (.getfield 48, 3) := by decide +kernel
theorem dX7_hasPlace_7 : decode cX7_hasPlace 7 = .ok (.if_icmp .ge 21, 3) := by decide +kernel
theorem dX7_hasPlace_10 : decode cX7_hasPlace 10 = .ok (.aload_n 0, 1) := by decide +kernel
theorem dX7_hasPlace_11 : decode cX7_hasPlace 11 = .ok (.getfield 25, 3) := by decide +kernel
theorem dX7_hasPlace_14 : decode cX7_hasPlace 14 = .ok (.iload_n 2, 1) := by decide +kernel
theorem dX7_hasPlace_15 : decode cX7_hasPlace 15 = .ok (.iaload, 1) := by decide +kernel
theorem dX7_hasPlace_16 : decode cX7_hasPlace 16 = .ok (.iload_n 1, 1) := by decide +kernel
theorem dX7_hasPlace_17 : decode cX7_hasPlace 17 = .ok (.if_icmp .ne 5, 3) := by decide +kernel
theorem dX7_hasPlace_20 : decode cX7_hasPlace 20 = .ok (.iconst 1, 1) := by decide +kernel
theorem dX7_hasPlace_21 : decode cX7_hasPlace 21 = .ok (.ireturn, 1) := by decide +kernel
theorem dX7_hasPlace_22 : decode cX7_hasPlace 22 = .ok (.iinc 2 1, 3) := by decide +kernel
theorem dX7_hasPlace_25 : decode cX7_hasPlace 25 = .ok (.goto (-23), 3) := by decide +kernel
theorem dX7_hasPlace_28 : decode cX7_hasPlace 28 = .ok (.iconst 0, 1) := by decide +kernel
theorem dX7_hasPlace_29 : decode cX7_hasPlace 29 = .ok (.ireturn, 1) := by decide +kernel
theorem dX7_directionOf_0 : decode cX7_directionOf 0 = .ok (.aload_n 0, 1) := by decide +kernel
theorem dX7_directionOf_1 : decode cX7_directionOf 1 = .ok (.getfield 32, 3) := by decide +kernel
theorem dX7_directionOf_4 : decode cX7_directionOf 4 = .ok (.iload_n 1, 1) := by decide +kernel
theorem dX7_directionOf_5 : decode cX7_directionOf 5 = .ok (.iaload, 1) := by decide +kernel
theorem dX7_directionOf_6 : decode cX7_directionOf 6 = .ok (.aload_n 0, 1) := by decide +kernel
theorem dX7_directionOf_7 : decode cX7_directionOf 7 = .ok (.getfield 38, 3) := by decide +kernel
theorem dX7_directionOf_10 : decode cX7_directionOf 10 = .ok (.iload_n 1, 1) := by decide +kernel
theorem dX7_directionOf_11 : decode cX7_directionOf 11 = .ok (.iaload, 1) := by decide +kernel
theorem dX7_directionOf_12 : decode cX7_directionOf 12 = .ok (.aload_n 0, 1) := by decide +kernel
theorem dX7_directionOf_13 : decode cX7_directionOf 13 = .ok (.getfield 44, 3) := by decide +kernel
theorem dX7_directionOf_16 : decode cX7_directionOf 16 = .ok (.imul, 1) := by decide +kernel
theorem dX7_directionOf_17 : decode cX7_directionOf 17 = .ok (.iadd, 1) := by decide +kernel
theorem dX7_directionOf_18 : decode cX7_directionOf 18 = .ok (.aload_n 0, 1) := by decide +kernel
theorem dX7_directionOf_19 : decode cX7_directionOf 19 = .ok (.getfield 12, 3) := by decide +kernel
theorem dX7_directionOf_22 : decode cX7_directionOf 22 = .ok (.getfield 73, 3) := by decide +kernel
theorem dX7_directionOf_25 : decode cX7_directionOf 25 = .ok (.irem, 1) := by decide +kernel
theorem dX7_directionOf_26 : decode cX7_directionOf 26 = .ok (.ireturn, 1) := by decide +kernel
theorem dX7_gainedWave_0 : decode cX7_gainedWave 0 = .ok (.aload_n 0, 1) := by decide +kernel
theorem dX7_gainedWave_1 : decode cX7_gainedWave 1 = .ok (.getfield 29, 3) := by decide +kernel
theorem dX7_gainedWave_4 : decode cX7_gainedWave 4 = .ok (.iload_n 1, 1) := by decide +kernel
theorem dX7_gainedWave_5 : decode cX7_gainedWave 5 = .ok (.iaload, 1) := by decide +kernel
theorem dX7_gainedWave_6 : decode cX7_gainedWave 6 = .ok (.aload_n 0, 1) := by decide +kernel
theorem dX7_gainedWave_7 : decode cX7_gainedWave 7 = .ok (.getfield 12, 3) := by decide +kernel
theorem dX7_gainedWave_10 : decode cX7_gainedWave 10 = .ok (.iload_n 2, 1) := by decide +kernel
theorem dX7_gainedWave_11 : decode cX7_gainedWave 11 = .ok (.aload_n 0, 1) := by decide +kernel
theorem dX7_gainedWave_12 : decode cX7_gainedWave 12 = .ok (.getfield 25, 3) := by decide +kernel
theorem dX7_gainedWave_15 : decode cX7_gainedWave 15 = .ok (.iload_n 1, 1) := by decide +kernel
theorem dX7_gainedWave_16 : decode cX7_gainedWave 16 = .ok (.iaload, 1) := by decide +kernel
theorem dX7_gainedWave_17 : decode cX7_gainedWave 17 = .ok (.invokevirtual 76, 3) := by decide +kernel
theorem dX7_gainedWave_20 : decode cX7_gainedWave 20 = .ok (.aload_n 0, 1) := by decide +kernel
theorem dX7_gainedWave_21 : decode cX7_gainedWave 21 = .ok (.getfield 12, 3) := by decide +kernel
theorem dX7_gainedWave_24 : decode cX7_gainedWave 24 = .ok (.getfield 80, 3) := by decide +kernel
theorem dX7_gainedWave_27 : decode cX7_gainedWave 27 = .ok (.invokestatic 83, 3) := by decide +kernel
theorem dX7_gainedWave_30 : decode cX7_gainedWave 30 = .ok (.ireturn, 1) := by decide +kernel
theorem dX7_readingOf_0 : decode cX7_readingOf 0 = .ok (.iconst 0, 1) := by decide +kernel
theorem dX7_readingOf_1 : decode cX7_readingOf 1 = .ok (.istore_n 2, 1) := by decide +kernel
theorem dX7_readingOf_2 : decode cX7_readingOf 2 = .ok (.iconst 0, 1) := by decide +kernel
theorem dX7_readingOf_3 : decode cX7_readingOf 3 = .ok (.istore_n 3, 1) := by decide +kernel
theorem dX7_readingOf_4 : decode cX7_readingOf 4 = .ok (.iload_n 3, 1) := by decide +kernel
theorem dX7_readingOf_5 : decode cX7_readingOf 5 = .ok (.aload_n 0, 1) := by decide +kernel
theorem dX7_readingOf_6 : decode cX7_readingOf 6 = .ok (.getfield 51, 3) := by decide +kernel
theorem dX7_readingOf_9 : decode cX7_readingOf 9 = .ok (.if_icmp .ge 46, 3) := by decide +kernel
theorem dX7_readingOf_12 : decode cX7_readingOf 12 = .ok (.iload_n 2, 1) := by decide +kernel
theorem dX7_readingOf_13 : decode cX7_readingOf 13 = .ok (.aload_n 0, 1) := by decide +kernel
theorem dX7_readingOf_14 : decode cX7_readingOf 14 = .ok (.getfield 35, 3) := by decide +kernel
theorem dX7_readingOf_17 : decode cX7_readingOf 17 = .ok (.iload_n 3, 1) := by decide +kernel
theorem dX7_readingOf_18 : decode cX7_readingOf 18 = .ok (.iaload, 1) := by decide +kernel
theorem dX7_readingOf_19 : decode cX7_readingOf 19 = .ok (.aload_n 0, 1) := by decide +kernel
theorem dX7_readingOf_20 : decode cX7_readingOf 20 = .ok (.getfield 12, 3) := by decide +kernel
theorem dX7_readingOf_23 : decode cX7_readingOf 23 = .ok (.aload_n 0, 1) := by decide +kernel
theorem dX7_readingOf_24 : decode cX7_readingOf 24 = .ok (.iload_n 3, 1) := by decide +kernel
theorem dX7_readingOf_25 : decode cX7_readingOf 25 = .ok (.invokevirtual 87, 3) := by decide +kernel
theorem dX7_readingOf_28 : decode cX7_readingOf 28 = .ok (.aload_n 0, 1) := by decide +kernel
theorem dX7_readingOf_29 : decode cX7_readingOf 29 = .ok (.getfield 25, 3) := by decide +kernel
theorem dX7_readingOf_32 : decode cX7_readingOf 32 = .ok (.iload_n 1, 1) := by decide +kernel
theorem dX7_readingOf_33 : decode cX7_readingOf 33 = .ok (.iaload, 1) := by decide +kernel
theorem dX7_readingOf_34 : decode cX7_readingOf 34 = .ok (.invokevirtual 76, 3) := by decide +kernel
theorem dX7_readingOf_37 : decode cX7_readingOf 37 = .ok (.aload_n 0, 1) := by decide +kernel
theorem dX7_readingOf_38 : decode cX7_readingOf 38 = .ok (.getfield 12, 3) := by decide +kernel
theorem dX7_readingOf_41 : decode cX7_readingOf 41 = .ok (.getfield 80, 3) := by decide +kernel
theorem dX7_readingOf_44 : decode cX7_readingOf 44 = .ok (.invokestatic 83, 3) := by decide +kernel
theorem dX7_readingOf_47 : decode cX7_readingOf 47 = .ok (.iadd, 1) := by decide +kernel
theorem dX7_readingOf_48 : decode cX7_readingOf 48 = .ok (.istore_n 2, 1) := by decide +kernel
theorem dX7_readingOf_49 : decode cX7_readingOf 49 = .ok (.iinc 3 1, 3) := by decide +kernel
theorem dX7_readingOf_52 : decode cX7_readingOf 52 = .ok (.goto (-48), 3) := by decide +kernel
theorem dX7_readingOf_55 : decode cX7_readingOf 55 = .ok (.aload_n 0, 1) := by decide +kernel
theorem dX7_readingOf_56 : decode cX7_readingOf 56 = .ok (.getfield 29, 3) := by decide +kernel
theorem dX7_readingOf_59 : decode cX7_readingOf 59 = .ok (.iload_n 1, 1) := by decide +kernel
theorem dX7_readingOf_60 : decode cX7_readingOf 60 = .ok (.iaload, 1) := by decide +kernel
theorem dX7_readingOf_61 : decode cX7_readingOf 61 = .ok (.iload_n 2, 1) := by decide +kernel
theorem dX7_readingOf_62 : decode cX7_readingOf 62 = .ok (.aload_n 0, 1) := by decide +kernel
theorem dX7_readingOf_63 : decode cX7_readingOf 63 = .ok (.getfield 12, 3) := by decide +kernel
theorem dX7_readingOf_66 : decode cX7_readingOf 66 = .ok (.getfield 80, 3) := by decide +kernel
theorem dX7_readingOf_69 : decode cX7_readingOf 69 = .ok (.invokestatic 83, 3) := by decide +kernel
theorem dX7_readingOf_72 : decode cX7_readingOf 72 = .ok (.ireturn, 1) := by decide +kernel
theorem dX7_coverOf_0 : decode cX7_coverOf 0 = .ok (.aload_n 0, 1) := by decide +kernel
theorem dX7_coverOf_1 : decode cX7_coverOf 1 = .ok (.getfield 29, 3) := by decide +kernel
theorem dX7_coverOf_4 : decode cX7_coverOf 4 = .ok (.iload_n 1, 1) := by decide +kernel
theorem dX7_coverOf_5 : decode cX7_coverOf 5 = .ok (.iaload, 1) := by decide +kernel
theorem dX7_coverOf_6 : decode cX7_coverOf 6 = .ok (.aload_n 0, 1) := by decide +kernel
theorem dX7_coverOf_7 : decode cX7_coverOf 7 = .ok (.getfield 29, 3) := by decide +kernel
theorem dX7_coverOf_10 : decode cX7_coverOf 10 = .ok (.iload_n 2, 1) := by decide +kernel
theorem dX7_coverOf_11 : decode cX7_coverOf 11 = .ok (.iaload, 1) := by decide +kernel
theorem dX7_coverOf_12 : decode cX7_coverOf 12 = .ok (.aload_n 0, 1) := by decide +kernel
theorem dX7_coverOf_13 : decode cX7_coverOf 13 = .ok (.getfield 12, 3) := by decide +kernel
theorem dX7_coverOf_16 : decode cX7_coverOf 16 = .ok (.getfield 80, 3) := by decide +kernel
theorem dX7_coverOf_19 : decode cX7_coverOf 19 = .ok (.invokestatic 83, 3) := by decide +kernel
theorem dX7_coverOf_22 : decode cX7_coverOf 22 = .ok (.istore_n 3, 1) := by decide +kernel
theorem dX7_coverOf_23 : decode cX7_coverOf 23 = .ok (.iload_n 3, 1) := by decide +kernel
theorem dX7_coverOf_24 : decode cX7_coverOf 24 = .ok (.aload_n 0, 1) := by decide +kernel
theorem dX7_coverOf_25 : decode cX7_coverOf 25 = .ok (.aload_n 0, 1) := by decide +kernel
theorem dX7_coverOf_26 : decode cX7_coverOf 26 = .ok (.getfield 25, 3) := by decide +kernel
theorem dX7_coverOf_29 : decode cX7_coverOf 29 = .ok (.iload_n 1, 1) := by decide +kernel
theorem dX7_coverOf_30 : decode cX7_coverOf 30 = .ok (.iaload, 1) := by decide +kernel
theorem dX7_coverOf_31 : decode cX7_coverOf 31 = .ok (.aload_n 0, 1) := by decide +kernel
theorem dX7_coverOf_32 : decode cX7_coverOf 32 = .ok (.getfield 25, 3) := by decide +kernel
theorem dX7_coverOf_35 : decode cX7_coverOf 35 = .ok (.iload_n 2, 1) := by decide +kernel
theorem dX7_coverOf_36 : decode cX7_coverOf 36 = .ok (.iaload, 1) := by decide +kernel
theorem dX7_coverOf_37 : decode cX7_coverOf 37 = .ok (.invokevirtual 91, 3) := by decide +kernel
theorem dX7_coverOf_40 : decode cX7_coverOf 40 = .ok (.aload_n 0, 1) := by decide +kernel
theorem dX7_coverOf_41 : decode cX7_coverOf 41 = .ok (.getfield 12, 3) := by decide +kernel
theorem dX7_coverOf_44 : decode cX7_coverOf 44 = .ok (.getfield 80, 3) := by decide +kernel
theorem dX7_coverOf_47 : decode cX7_coverOf 47 = .ok (.invokestatic 83, 3) := by decide +kernel
theorem dX7_coverOf_50 : decode cX7_coverOf 50 = .ok (.ireturn, 1) := by decide +kernel
theorem dX7_coverWithoutGains_0 : decode cX7_coverWithoutGains 0 = .ok (.iconst 0, 1) := by decide +kernel
theorem dX7_coverWithoutGains_1 : decode cX7_coverWithoutGains 1 = .ok (.istore_n 3, 1) := by decide +kernel
theorem dX7_coverWithoutGains_2 : decode cX7_coverWithoutGains 2 = .ok (.iconst 0, 1) := by decide +kernel
theorem dX7_coverWithoutGains_3 : decode cX7_coverWithoutGains 3 = .ok (.istore 4, 2) := by decide +kernel
theorem dX7_coverWithoutGains_5 : decode cX7_coverWithoutGains 5 = .ok (.iload 4, 2) := by decide +kernel
theorem dX7_coverWithoutGains_7 : decode cX7_coverWithoutGains 7 = .ok (.aload_n 0, 1) := by decide +kernel
theorem dX7_coverWithoutGains_8 : decode cX7_coverWithoutGains 8 = .ok (.getfield 51, 3) := by decide +kernel
theorem dX7_coverWithoutGains_11 : decode cX7_coverWithoutGains 11 = .ok (.if_icmp .ge 32, 3) := by decide +kernel
theorem dX7_coverWithoutGains_14 : decode cX7_coverWithoutGains 14 = .ok (.aload_n 0, 1) := by decide +kernel
theorem dX7_coverWithoutGains_15 : decode cX7_coverWithoutGains 15 = .ok (.getfield 41, 3) := by decide +kernel
theorem dX7_coverWithoutGains_18 : decode cX7_coverWithoutGains 18 = .ok (.iload 4, 2) := by decide +kernel
theorem dX7_coverWithoutGains_20 : decode cX7_coverWithoutGains 20 = .ok (.iaload, 1) := by decide +kernel
theorem dX7_coverWithoutGains_21 : decode cX7_coverWithoutGains 21 = .ok (.iload 4, 2) := by decide +kernel
theorem dX7_coverWithoutGains_23 : decode cX7_coverWithoutGains 23 = .ok (.if_icmp .ne 14, 3) := by decide +kernel
theorem dX7_coverWithoutGains_26 : decode cX7_coverWithoutGains 26 = .ok (.iload_n 3, 1) := by decide +kernel
theorem dX7_coverWithoutGains_27 : decode cX7_coverWithoutGains 27 = .ok (.aload_n 0, 1) := by decide +kernel
theorem dX7_coverWithoutGains_28 : decode cX7_coverWithoutGains 28 = .ok (.iload 4, 2) := by decide +kernel
theorem dX7_coverWithoutGains_30 : decode cX7_coverWithoutGains 30 = .ok (.iload_n 1, 1) := by decide +kernel
theorem dX7_coverWithoutGains_31 : decode cX7_coverWithoutGains 31 = .ok (.iload_n 2, 1) := by decide +kernel
theorem dX7_coverWithoutGains_32 : decode cX7_coverWithoutGains 32 = .ok (.invokevirtual 94, 3) := by decide +kernel
theorem dX7_coverWithoutGains_35 : decode cX7_coverWithoutGains 35 = .ok (.iadd, 1) := by decide +kernel
theorem dX7_coverWithoutGains_36 : decode cX7_coverWithoutGains 36 = .ok (.istore_n 3, 1) := by decide +kernel
theorem dX7_coverWithoutGains_37 : decode cX7_coverWithoutGains 37 = .ok (.iinc 4 1, 3) := by decide +kernel
theorem dX7_coverWithoutGains_40 : decode cX7_coverWithoutGains 40 = .ok (.goto (-35), 3) := by decide +kernel
theorem dX7_coverWithoutGains_43 : decode cX7_coverWithoutGains 43 = .ok (.iload_n 3, 1) := by decide +kernel
theorem dX7_coverWithoutGains_44 : decode cX7_coverWithoutGains 44 = .ok (.aload_n 0, 1) := by decide +kernel
theorem dX7_coverWithoutGains_45 : decode cX7_coverWithoutGains 45 = .ok (.getfield 12, 3) := by decide +kernel
theorem dX7_coverWithoutGains_48 : decode cX7_coverWithoutGains 48 = .ok (.getfield 80, 3) := by decide +kernel
theorem dX7_coverWithoutGains_51 : decode cX7_coverWithoutGains 51 = .ok (.irem, 1) := by decide +kernel
theorem dX7_coverWithoutGains_52 : decode cX7_coverWithoutGains 52 = .ok (.ireturn, 1) := by decide +kernel
theorem dX7_flockCover_0 : decode cX7_flockCover 0 = .ok (.iconst 0, 1) := by decide +kernel
theorem dX7_flockCover_1 : decode cX7_flockCover 1 = .ok (.istore 4, 2) := by decide +kernel
theorem dX7_flockCover_3 : decode cX7_flockCover 3 = .ok (.iconst 0, 1) := by decide +kernel
theorem dX7_flockCover_4 : decode cX7_flockCover 4 = .ok (.istore 5, 2) := by decide +kernel
theorem dX7_flockCover_6 : decode cX7_flockCover 6 = .ok (.iload_n 1, 1) := by decide +kernel
theorem dX7_flockCover_7 : decode cX7_flockCover 7 = .ok (.istore 6, 2) := by decide +kernel
theorem dX7_flockCover_9 : decode cX7_flockCover 9 = .ok (.iload 6, 2) := by decide +kernel
theorem dX7_flockCover_11 : decode cX7_flockCover 11 = .ok (.aload_n 0, 1) := by decide +kernel
theorem dX7_flockCover_12 : decode cX7_flockCover 12 = .ok (.getfield 51, 3) := by decide +kernel
theorem dX7_flockCover_15 : decode cX7_flockCover 15 = .ok (.if_icmp .ge 92, 3) := by decide +kernel
theorem dX7_flockCover_18 : decode cX7_flockCover 18 = .ok (.aload_n 0, 1) := by decide +kernel
theorem dX7_flockCover_19 : decode cX7_flockCover 19 = .ok (.getfield 41, 3) := by decide +kernel
theorem dX7_flockCover_22 : decode cX7_flockCover 22 = .ok (.iload 6, 2) := by decide +kernel
theorem dX7_flockCover_24 : decode cX7_flockCover 24 = .ok (.iaload, 1) := by decide +kernel
theorem dX7_flockCover_25 : decode cX7_flockCover 25 = .ok (.iload_n 1, 1) := by decide +kernel
theorem dX7_flockCover_26 : decode cX7_flockCover 26 = .ok (.if_icmp .ne 75, 3) := by decide +kernel
theorem dX7_flockCover_29 : decode cX7_flockCover 29 = .ok (.aload_n 0, 1) := by decide +kernel
theorem dX7_flockCover_30 : decode cX7_flockCover 30 = .ok (.iload 6, 2) := by decide +kernel
theorem dX7_flockCover_32 : decode cX7_flockCover 32 = .ok (.invokevirtual 87, 3) := by decide +kernel
theorem dX7_flockCover_35 : decode cX7_flockCover 35 = .ok (.istore 7, 2) := by decide +kernel
theorem dX7_flockCover_37 : decode cX7_flockCover 37 = .ok (.iload 4, 2) := by decide +kernel
theorem dX7_flockCover_39 : decode cX7_flockCover 39 = .ok (.aload_n 0, 1) := by decide +kernel
theorem dX7_flockCover_40 : decode cX7_flockCover 40 = .ok (.getfield 35, 3) := by decide +kernel
theorem dX7_flockCover_43 : decode cX7_flockCover 43 = .ok (.iload 6, 2) := by decide +kernel
theorem dX7_flockCover_45 : decode cX7_flockCover 45 = .ok (.iaload, 1) := by decide +kernel
theorem dX7_flockCover_46 : decode cX7_flockCover 46 = .ok (.aload_n 0, 1) := by decide +kernel
theorem dX7_flockCover_47 : decode cX7_flockCover 47 = .ok (.getfield 12, 3) := by decide +kernel
theorem dX7_flockCover_50 : decode cX7_flockCover 50 = .ok (.iload 7, 2) := by decide +kernel
theorem dX7_flockCover_52 : decode cX7_flockCover 52 = .ok (.iload_n 2, 1) := by decide +kernel
theorem dX7_flockCover_53 : decode cX7_flockCover 53 = .ok (.invokevirtual 76, 3) := by decide +kernel
theorem dX7_flockCover_56 : decode cX7_flockCover 56 = .ok (.aload_n 0, 1) := by decide +kernel
theorem dX7_flockCover_57 : decode cX7_flockCover 57 = .ok (.getfield 12, 3) := by decide +kernel
theorem dX7_flockCover_60 : decode cX7_flockCover 60 = .ok (.getfield 80, 3) := by decide +kernel
theorem dX7_flockCover_63 : decode cX7_flockCover 63 = .ok (.invokestatic 83, 3) := by decide +kernel
theorem dX7_flockCover_66 : decode cX7_flockCover 66 = .ok (.iadd, 1) := by decide +kernel
theorem dX7_flockCover_67 : decode cX7_flockCover 67 = .ok (.istore 4, 2) := by decide +kernel
theorem dX7_flockCover_69 : decode cX7_flockCover 69 = .ok (.iload 5, 2) := by decide +kernel
theorem dX7_flockCover_71 : decode cX7_flockCover 71 = .ok (.aload_n 0, 1) := by decide +kernel
theorem dX7_flockCover_72 : decode cX7_flockCover 72 = .ok (.getfield 35, 3) := by decide +kernel
theorem dX7_flockCover_75 : decode cX7_flockCover 75 = .ok (.iload 6, 2) := by decide +kernel
theorem dX7_flockCover_77 : decode cX7_flockCover 77 = .ok (.iaload, 1) := by decide +kernel
theorem dX7_flockCover_78 : decode cX7_flockCover 78 = .ok (.aload_n 0, 1) := by decide +kernel
theorem dX7_flockCover_79 : decode cX7_flockCover 79 = .ok (.getfield 12, 3) := by decide +kernel
theorem dX7_flockCover_82 : decode cX7_flockCover 82 = .ok (.iload 7, 2) := by decide +kernel
theorem dX7_flockCover_84 : decode cX7_flockCover 84 = .ok (.iload_n 3, 1) := by decide +kernel
theorem dX7_flockCover_85 : decode cX7_flockCover 85 = .ok (.invokevirtual 97, 3) := by decide +kernel
theorem dX7_flockCover_88 : decode cX7_flockCover 88 = .ok (.aload_n 0, 1) := by decide +kernel
theorem dX7_flockCover_89 : decode cX7_flockCover 89 = .ok (.getfield 12, 3) := by decide +kernel
theorem dX7_flockCover_92 : decode cX7_flockCover 92 = .ok (.getfield 80, 3) := by decide +kernel
theorem dX7_flockCover_95 : decode cX7_flockCover 95 = .ok (.invokestatic 83, 3) := by decide +kernel
theorem dX7_flockCover_98 : decode cX7_flockCover 98 = .ok (.iadd, 1) := by decide +kernel
theorem dX7_flockCover_99 : decode cX7_flockCover 99 = .ok (.istore 5, 2) := by decide +kernel
theorem dX7_flockCover_101 : decode cX7_flockCover 101 = .ok (.iinc 6 1, 3) := by decide +kernel
theorem dX7_flockCover_104 : decode cX7_flockCover 104 = .ok (.goto (-95), 3) := by decide +kernel
theorem dX7_flockCover_107 : decode cX7_flockCover 107 = .ok (.iload 4, 2) := by decide +kernel
theorem dX7_flockCover_109 : decode cX7_flockCover 109 = .ok (.iload 5, 2) := by decide +kernel
theorem dX7_flockCover_111 : decode cX7_flockCover 111 = .ok (.aload_n 0, 1) := by decide +kernel
theorem dX7_flockCover_112 : decode cX7_flockCover 112 = .ok (.getfield 12, 3) := by decide +kernel
theorem dX7_flockCover_115 : decode cX7_flockCover 115 = .ok (.getfield 80, 3) := by decide +kernel
theorem dX7_flockCover_118 : decode cX7_flockCover 118 = .ok (.invokestatic 83, 3) := by decide +kernel
theorem dX7_flockCover_121 : decode cX7_flockCover 121 = .ok (.ireturn, 1) := by decide +kernel
theorem dX7_twinsOf_0 : decode cX7_twinsOf 0 = .ok (.lconst 0, 1) := by decide +kernel
theorem dX7_twinsOf_1 : decode cX7_twinsOf 1 = .ok (.lstore_n 2, 1) := by decide +kernel
theorem dX7_twinsOf_2 : decode cX7_twinsOf 2 = .ok (.iconst 0, 1) := by decide +kernel
theorem dX7_twinsOf_3 : decode cX7_twinsOf 3 = .ok (.istore 4, 2) := by decide +kernel
theorem dX7_twinsOf_5 : decode cX7_twinsOf 5 = .ok (.iload 4, 2) := by decide +kernel
theorem dX7_twinsOf_7 : decode cX7_twinsOf 7 = .ok (.aload_n 0, 1) := by decide +kernel
theorem dX7_twinsOf_8 : decode cX7_twinsOf 8 = .ok (.getfield 12, 3) := by decide +kernel
theorem dX7_twinsOf_11 : decode cX7_twinsOf 11 = .ok (.getfield 73, 3) := by decide +kernel
theorem dX7_twinsOf_14 : decode cX7_twinsOf 14 = .ok (.if_icmp .ge 36, 3) := by decide +kernel
theorem dX7_twinsOf_17 : decode cX7_twinsOf 17 = .ok (.iload 4, 2) := by decide +kernel
theorem dX7_twinsOf_19 : decode cX7_twinsOf 19 = .ok (.iload_n 1, 1) := by decide +kernel
theorem dX7_twinsOf_20 : decode cX7_twinsOf 20 = .ok (.if_icmp .eq 24, 3) := by decide +kernel
theorem dX7_twinsOf_23 : decode cX7_twinsOf 23 = .ok (.aload_n 0, 1) := by decide +kernel
theorem dX7_twinsOf_24 : decode cX7_twinsOf 24 = .ok (.iload 4, 2) := by decide +kernel
theorem dX7_twinsOf_26 : decode cX7_twinsOf 26 = .ok (.iload_n 1, 1) := by decide +kernel
theorem dX7_twinsOf_27 : decode cX7_twinsOf 27 = .ok (.isub, 1) := by decide +kernel
theorem dX7_twinsOf_28 : decode cX7_twinsOf 28 = .ok (.invokestatic 100, 3) := by decide +kernel
theorem dX7_twinsOf_31 : decode cX7_twinsOf 31 = .ok (.invokevirtual 105, 3) := by decide +kernel
theorem dX7_twinsOf_34 : decode cX7_twinsOf 34 = .ok (.ifCond .eq 10, 3) := by decide +kernel
theorem dX7_twinsOf_37 : decode cX7_twinsOf 37 = .ok (.lload_n 2, 1) := by decide +kernel
theorem dX7_twinsOf_38 : decode cX7_twinsOf 38 = .ok (.lconst 1, 1) := by decide +kernel
theorem dX7_twinsOf_39 : decode cX7_twinsOf 39 = .ok (.iload 4, 2) := by decide +kernel
theorem dX7_twinsOf_41 : decode cX7_twinsOf 41 = .ok (.lshl, 1) := by decide +kernel
theorem dX7_twinsOf_42 : decode cX7_twinsOf 42 = .ok (.lor, 1) := by decide +kernel
theorem dX7_twinsOf_43 : decode cX7_twinsOf 43 = .ok (.lstore_n 2, 1) := by decide +kernel
theorem dX7_twinsOf_44 : decode cX7_twinsOf 44 = .ok (.iinc 4 1, 3) := by decide +kernel
theorem dX7_twinsOf_47 : decode cX7_twinsOf 47 = .ok (.goto (-42), 3) := by decide +kernel
theorem dX7_twinsOf_50 : decode cX7_twinsOf 50 = .ok (.lload_n 2, 1) := by decide +kernel
theorem dX7_twinsOf_51 : decode cX7_twinsOf 51 = .ok (.lreturn, 1) := by decide +kernel
theorem dX7_noHearerParts_0 : decode cX7_noHearerParts 0 = .ok (.iconst 1, 1) := by decide +kernel
theorem dX7_noHearerParts_1 : decode cX7_noHearerParts 1 = .ok (.istore_n 2, 1) := by decide +kernel
theorem dX7_noHearerParts_2 : decode cX7_noHearerParts 2 = .ok (.iload_n 2, 1) := by decide +kernel
theorem dX7_noHearerParts_3 : decode cX7_noHearerParts 3 = .ok (.aload_n 0, 1) := by decide +kernel
theorem dX7_noHearerParts_4 : decode cX7_noHearerParts 4 = .ok (.getfield 48, 3) := by decide +kernel
theorem dX7_noHearerParts_7 : decode cX7_noHearerParts 7 = .ok (.if_icmp .ge 37, 3) := by decide +kernel
theorem dX7_noHearerParts_10 : decode cX7_noHearerParts 10 = .ok (.iload_n 1, 1) := by decide +kernel
theorem dX7_noHearerParts_11 : decode cX7_noHearerParts 11 = .ok (.aload_n 0, 1) := by decide +kernel
theorem dX7_noHearerParts_12 : decode cX7_noHearerParts 12 = .ok (.getfield 25, 3) := by decide +kernel
theorem dX7_noHearerParts_15 : decode cX7_noHearerParts 15 = .ok (.iload_n 2, 1) := by decide +kernel
theorem dX7_noHearerParts_16 : decode cX7_noHearerParts 16 = .ok (.iaload, 1) := by decide +kernel
theorem dX7_noHearerParts_17 : decode cX7_noHearerParts 17 = .ok (.aload_n 0, 1) := by decide +kernel
theorem dX7_noHearerParts_18 : decode cX7_noHearerParts 18 = .ok (.getfield 25, 3) := by decide +kernel
theorem dX7_noHearerParts_21 : decode cX7_noHearerParts 21 = .ok (.iconst 0, 1) := by decide +kernel
theorem dX7_noHearerParts_22 : decode cX7_noHearerParts 22 = .ok (.iaload, 1) := by decide +kernel
theorem dX7_noHearerParts_23 : decode cX7_noHearerParts 23 = .ok (.isub, 1) := by decide +kernel
theorem dX7_noHearerParts_24 : decode cX7_noHearerParts 24 = .ok (.imul, 1) := by decide +kernel
theorem dX7_noHearerParts_25 : decode cX7_noHearerParts 25 = .ok (.aload_n 0, 1) := by decide +kernel
theorem dX7_noHearerParts_26 : decode cX7_noHearerParts 26 = .ok (.getfield 12, 3) := by decide +kernel
theorem dX7_noHearerParts_29 : decode cX7_noHearerParts 29 = .ok (.getfield 73, 3) := by decide +kernel
theorem dX7_noHearerParts_32 : decode cX7_noHearerParts 32 = .ok (.irem, 1) := by decide +kernel
theorem dX7_noHearerParts_33 : decode cX7_noHearerParts 33 = .ok (.ifCond .eq 5, 3) := by decide +kernel
theorem dX7_noHearerParts_36 : decode cX7_noHearerParts 36 = .ok (.iconst 0, 1) := by decide +kernel
theorem dX7_noHearerParts_37 : decode cX7_noHearerParts 37 = .ok (.ireturn, 1) := by decide +kernel
theorem dX7_noHearerParts_38 : decode cX7_noHearerParts 38 = .ok (.iinc 2 1, 3) := by decide +kernel
theorem dX7_noHearerParts_41 : decode cX7_noHearerParts 41 = .ok (.goto (-39), 3) := by decide +kernel
theorem dX7_noHearerParts_44 : decode cX7_noHearerParts 44 = .ok (.iconst 1, 1) := by decide +kernel
theorem dX7_noHearerParts_45 : decode cX7_noHearerParts 45 = .ok (.ireturn, 1) := by decide +kernel
theorem dX7_partsAll_0 : decode cX7_partsAll 0 = .ok (.iload_n 1, 1) := by decide +kernel
theorem dX7_partsAll_1 : decode cX7_partsAll 1 = .ok (.invokestatic 109, 3) := by decide +kernel
theorem dX7_partsAll_4 : decode cX7_partsAll 4 = .ok (.istore_n 2, 1) := by decide +kernel
theorem dX7_partsAll_5 : decode cX7_partsAll 5 = .ok (.aload_n 0, 1) := by decide +kernel
theorem dX7_partsAll_6 : decode cX7_partsAll 6 = .ok (.getfield 12, 3) := by decide +kernel
theorem dX7_partsAll_9 : decode cX7_partsAll 9 = .ok (.getfield 73, 3) := by decide +kernel
theorem dX7_partsAll_12 : decode cX7_partsAll 12 = .ok (.i2l, 1) := by decide +kernel
theorem dX7_partsAll_13 : decode cX7_partsAll 13 = .ok (.lstore_n 3, 1) := by decide +kernel
theorem dX7_partsAll_14 : decode cX7_partsAll 14 = .ok (.iload_n 2, 1) := by decide +kernel
theorem dX7_partsAll_15 : decode cX7_partsAll 15 = .ok (.iconst 1, 1) := by decide +kernel
theorem dX7_partsAll_16 : decode cX7_partsAll 16 = .ok (.iadd, 1) := by decide +kernel
theorem dX7_partsAll_17 : decode cX7_partsAll 17 = .ok (.istore 5, 2) := by decide +kernel
theorem dX7_partsAll_19 : decode cX7_partsAll 19 = .ok (.iload 5, 2) := by decide +kernel
theorem dX7_partsAll_21 : decode cX7_partsAll 21 = .ok (.aload_n 0, 1) := by decide +kernel
theorem dX7_partsAll_22 : decode cX7_partsAll 22 = .ok (.getfield 48, 3) := by decide +kernel
theorem dX7_partsAll_25 : decode cX7_partsAll 25 = .ok (.if_icmp .ge 39, 3) := by decide +kernel
theorem dX7_partsAll_28 : decode cX7_partsAll 28 = .ok (.iload_n 1, 1) := by decide +kernel
theorem dX7_partsAll_29 : decode cX7_partsAll 29 = .ok (.iload 5, 2) := by decide +kernel
theorem dX7_partsAll_31 : decode cX7_partsAll 31 = .ok (.ishr, 1) := by decide +kernel
theorem dX7_partsAll_32 : decode cX7_partsAll 32 = .ok (.iconst 1, 1) := by decide +kernel
theorem dX7_partsAll_33 : decode cX7_partsAll 33 = .ok (.iand, 1) := by decide +kernel
theorem dX7_partsAll_34 : decode cX7_partsAll 34 = .ok (.iconst 1, 1) := by decide +kernel
theorem dX7_partsAll_35 : decode cX7_partsAll 35 = .ok (.if_icmp .ne 23, 3) := by decide +kernel
theorem dX7_partsAll_38 : decode cX7_partsAll 38 = .ok (.aload_n 0, 1) := by decide +kernel
theorem dX7_partsAll_39 : decode cX7_partsAll 39 = .ok (.getfield 25, 3) := by decide +kernel
theorem dX7_partsAll_42 : decode cX7_partsAll 42 = .ok (.iload 5, 2) := by decide +kernel
theorem dX7_partsAll_44 : decode cX7_partsAll 44 = .ok (.iaload, 1) := by decide +kernel
theorem dX7_partsAll_45 : decode cX7_partsAll 45 = .ok (.aload_n 0, 1) := by decide +kernel
theorem dX7_partsAll_46 : decode cX7_partsAll 46 = .ok (.getfield 25, 3) := by decide +kernel
theorem dX7_partsAll_49 : decode cX7_partsAll 49 = .ok (.iload_n 2, 1) := by decide +kernel
theorem dX7_partsAll_50 : decode cX7_partsAll 50 = .ok (.iaload, 1) := by decide +kernel
theorem dX7_partsAll_51 : decode cX7_partsAll 51 = .ok (.isub, 1) := by decide +kernel
theorem dX7_partsAll_52 : decode cX7_partsAll 52 = .ok (.i2l, 1) := by decide +kernel
theorem dX7_partsAll_53 : decode cX7_partsAll 53 = .ok (.lload_n 3, 1) := by decide +kernel
theorem dX7_partsAll_54 : decode cX7_partsAll 54 = .ok (.invokestatic 114, 3) := by decide +kernel
theorem dX7_partsAll_57 : decode cX7_partsAll 57 = .ok (.lstore_n 3, 1) := by decide +kernel
theorem dX7_partsAll_58 : decode cX7_partsAll 58 = .ok (.iinc 5 1, 3) := by decide +kernel
theorem dX7_partsAll_61 : decode cX7_partsAll 61 = .ok (.goto (-42), 3) := by decide +kernel
theorem dX7_partsAll_64 : decode cX7_partsAll 64 = .ok (.lload_n 3, 1) := by decide +kernel
theorem dX7_partsAll_65 : decode cX7_partsAll 65 = .ok (.lconst 1, 1) := by decide +kernel
theorem dX7_partsAll_66 : decode cX7_partsAll 66 = .ok (.lcmp, 1) := by decide +kernel
theorem dX7_partsAll_67 : decode cX7_partsAll 67 = .ok (.ifCond .ne 7, 3) := by decide +kernel
theorem dX7_partsAll_70 : decode cX7_partsAll 70 = .ok (.iconst 1, 1) := by decide +kernel
theorem dX7_partsAll_71 : decode cX7_partsAll 71 = .ok (.goto 4, 3) := by decide +kernel
theorem dX7_partsAll_74 : decode cX7_partsAll 74 = .ok (.iconst 0, 1) := by decide +kernel
theorem dX7_partsAll_75 : decode cX7_partsAll 75 = .ok (.ireturn, 1) := by decide +kernel
theorem dX7_standsEven_0 : decode cX7_standsEven 0 = .ok (.iconst 1, 1) := by decide +kernel
theorem dX7_standsEven_1 : decode cX7_standsEven 1 = .ok (.istore_n 1, 1) := by decide +kernel
theorem dX7_standsEven_2 : decode cX7_standsEven 2 = .ok (.iload_n 1, 1) := by decide +kernel
theorem dX7_standsEven_3 : decode cX7_standsEven 3 = .ok (.aload_n 0, 1) := by decide +kernel
theorem dX7_standsEven_4 : decode cX7_standsEven 4 = .ok (.getfield 48, 3) := by decide +kernel
theorem dX7_standsEven_7 : decode cX7_standsEven 7 = .ok (.if_icmp .ge 30, 3) := by decide +kernel
theorem dX7_standsEven_10 : decode cX7_standsEven 10 = .ok (.aload_n 0, 1) := by decide +kernel
theorem dX7_standsEven_11 : decode cX7_standsEven 11 = .ok (.getfield 25, 3) := by decide +kernel
theorem dX7_standsEven_14 : decode cX7_standsEven 14 = .ok (.iload_n 1, 1) := by decide +kernel
theorem dX7_standsEven_15 : decode cX7_standsEven 15 = .ok (.iaload, 1) := by decide +kernel
theorem dX7_standsEven_16 : decode cX7_standsEven 16 = .ok (.aload_n 0, 1) := by decide +kernel
theorem dX7_standsEven_17 : decode cX7_standsEven 17 = .ok (.getfield 25, 3) := by decide +kernel
theorem dX7_standsEven_20 : decode cX7_standsEven 20 = .ok (.iload_n 1, 1) := by decide +kernel
theorem dX7_standsEven_21 : decode cX7_standsEven 21 = .ok (.iconst 1, 1) := by decide +kernel
theorem dX7_standsEven_22 : decode cX7_standsEven 22 = .ok (.isub, 1) := by decide +kernel
theorem dX7_standsEven_23 : decode cX7_standsEven 23 = .ok (.iaload, 1) := by decide +kernel
theorem dX7_standsEven_24 : decode cX7_standsEven 24 = .ok (.iconst 1, 1) := by decide +kernel
theorem dX7_standsEven_25 : decode cX7_standsEven 25 = .ok (.iadd, 1) := by decide +kernel
theorem dX7_standsEven_26 : decode cX7_standsEven 26 = .ok (.if_icmp .eq 5, 3) := by decide +kernel
theorem dX7_standsEven_29 : decode cX7_standsEven 29 = .ok (.iconst 0, 1) := by decide +kernel
theorem dX7_standsEven_30 : decode cX7_standsEven 30 = .ok (.ireturn, 1) := by decide +kernel
theorem dX7_standsEven_31 : decode cX7_standsEven 31 = .ok (.iinc 1 1, 3) := by decide +kernel
theorem dX7_standsEven_34 : decode cX7_standsEven 34 = .ok (.goto (-32), 3) := by decide +kernel
theorem dX7_standsEven_37 : decode cX7_standsEven 37 = .ok (.iconst 1, 1) := by decide +kernel
theorem dX7_standsEven_38 : decode cX7_standsEven 38 = .ok (.ireturn, 1) := by decide +kernel
theorem dX7_pairsApart_0 : decode cX7_pairsApart 0 = .ok (.iconst 0, 1) := by decide +kernel
theorem dX7_pairsApart_1 : decode cX7_pairsApart 1 = .ok (.istore_n 2, 1) := by decide +kernel
theorem dX7_pairsApart_2 : decode cX7_pairsApart 2 = .ok (.iconst 0, 1) := by decide +kernel
theorem dX7_pairsApart_3 : decode cX7_pairsApart 3 = .ok (.istore_n 3, 1) := by decide +kernel
theorem dX7_pairsApart_4 : decode cX7_pairsApart 4 = .ok (.iload_n 3, 1) := by decide +kernel
theorem dX7_pairsApart_5 : decode cX7_pairsApart 5 = .ok (.aload_n 0, 1) := by decide +kernel
theorem dX7_pairsApart_6 : decode cX7_pairsApart 6 = .ok (.getfield 48, 3) := by decide +kernel
theorem dX7_pairsApart_9 : decode cX7_pairsApart 9 = .ok (.if_icmp .ge 22, 3) := by decide +kernel
theorem dX7_pairsApart_12 : decode cX7_pairsApart 12 = .ok (.aload_n 0, 1) := by decide +kernel
theorem dX7_pairsApart_13 : decode cX7_pairsApart 13 = .ok (.iload_n 3, 1) := by decide +kernel
theorem dX7_pairsApart_14 : decode cX7_pairsApart 14 = .ok (.iload_n 1, 1) := by decide +kernel
theorem dX7_pairsApart_15 : decode cX7_pairsApart 15 = .ok (.invokevirtual 118, 3) := by decide +kernel
theorem dX7_pairsApart_18 : decode cX7_pairsApart 18 = .ok (.iconst (-1), 1) := by decide +kernel
theorem dX7_pairsApart_19 : decode cX7_pairsApart 19 = .ok (.if_icmp .eq 6, 3) := by decide +kernel
theorem dX7_pairsApart_22 : decode cX7_pairsApart 22 = .ok (.iinc 2 1, 3) := by decide +kernel
theorem dX7_pairsApart_25 : decode cX7_pairsApart 25 = .ok (.iinc 3 1, 3) := by decide +kernel
theorem dX7_pairsApart_28 : decode cX7_pairsApart 28 = .ok (.goto (-24), 3) := by decide +kernel
theorem dX7_pairsApart_31 : decode cX7_pairsApart 31 = .ok (.iload_n 2, 1) := by decide +kernel
theorem dX7_pairsApart_32 : decode cX7_pairsApart 32 = .ok (.ireturn, 1) := by decide +kernel
theorem dX7_partner_0 : decode cX7_partner 0 = .ok (.iconst 0, 1) := by decide +kernel
theorem dX7_partner_1 : decode cX7_partner 1 = .ok (.istore_n 3, 1) := by decide +kernel
theorem dX7_partner_2 : decode cX7_partner 2 = .ok (.iload_n 3, 1) := by decide +kernel
theorem dX7_partner_3 : decode cX7_partner 3 = .ok (.aload_n 0, 1) := by decide +kernel
theorem dX7_partner_4 : decode cX7_partner 4 = .ok (.getfield 48, 3) := by decide +kernel
theorem dX7_partner_7 : decode cX7_partner 7 = .ok (.if_icmp .ge 28, 3) := by decide +kernel
theorem dX7_partner_10 : decode cX7_partner 10 = .ok (.aload_n 0, 1) := by decide +kernel
theorem dX7_partner_11 : decode cX7_partner 11 = .ok (.getfield 25, 3) := by decide +kernel
theorem dX7_partner_14 : decode cX7_partner 14 = .ok (.iload_n 1, 1) := by decide +kernel
theorem dX7_partner_15 : decode cX7_partner 15 = .ok (.iaload, 1) := by decide +kernel
theorem dX7_partner_16 : decode cX7_partner 16 = .ok (.aload_n 0, 1) := by decide +kernel
theorem dX7_partner_17 : decode cX7_partner 17 = .ok (.getfield 25, 3) := by decide +kernel
theorem dX7_partner_20 : decode cX7_partner 20 = .ok (.iload_n 3, 1) := by decide +kernel
theorem dX7_partner_21 : decode cX7_partner 21 = .ok (.iaload, 1) := by decide +kernel
theorem dX7_partner_22 : decode cX7_partner 22 = .ok (.isub, 1) := by decide +kernel
theorem dX7_partner_23 : decode cX7_partner 23 = .ok (.iload_n 2, 1) := by decide +kernel
theorem dX7_partner_24 : decode cX7_partner 24 = .ok (.if_icmp .ne 5, 3) := by decide +kernel
theorem dX7_partner_27 : decode cX7_partner 27 = .ok (.iload_n 3, 1) := by decide +kernel
theorem dX7_partner_28 : decode cX7_partner 28 = .ok (.ireturn, 1) := by decide +kernel
theorem dX7_partner_29 : decode cX7_partner 29 = .ok (.iinc 3 1, 3) := by decide +kernel
theorem dX7_partner_32 : decode cX7_partner 32 = .ok (.goto (-30), 3) := by decide +kernel
theorem dX7_partner_35 : decode cX7_partner 35 = .ok (.iconst (-1), 1) := by decide +kernel
theorem dX7_partner_36 : decode cX7_partner 36 = .ok (.ireturn, 1) := by decide +kernel
theorem dX7_longestRun_0 : decode cX7_longestRun 0 = .ok (.iconst 0, 1) := by decide +kernel
theorem dX7_longestRun_1 : decode cX7_longestRun 1 = .ok (.istore_n 1, 1) := by decide +kernel
theorem dX7_longestRun_2 : decode cX7_longestRun 2 = .ok (.iload_n 1, 1) := by decide +kernel
theorem dX7_longestRun_3 : decode cX7_longestRun 3 = .ok (.bipush 46, 2) := by decide +kernel
theorem dX7_longestRun_5 : decode cX7_longestRun 5 = .ok (.if_icmp .ge 17, 3) := by decide +kernel
theorem dX7_longestRun_8 : decode cX7_longestRun 8 = .ok (.aload_n 0, 1) := by decide +kernel
theorem dX7_longestRun_9 : decode cX7_longestRun 9 = .ok (.iload_n 1, 1) := by decide +kernel
theorem dX7_longestRun_10 : decode cX7_longestRun 10 = .ok (.invokevirtual 121, 3) := by decide +kernel
theorem dX7_longestRun_13 : decode cX7_longestRun 13 = .ok (.ifCond .le 9, 3) := by decide +kernel
theorem dX7_longestRun_16 : decode cX7_longestRun 16 = .ok (.iinc 1 1, 3) := by decide +kernel
theorem dX7_longestRun_19 : decode cX7_longestRun 19 = .ok (.goto (-17), 3) := by decide +kernel
theorem dX7_longestRun_22 : decode cX7_longestRun 22 = .ok (.iload_n 1, 1) := by decide +kernel
theorem dX7_longestRun_23 : decode cX7_longestRun 23 = .ok (.iconst 1, 1) := by decide +kernel
theorem dX7_longestRun_24 : decode cX7_longestRun 24 = .ok (.isub, 1) := by decide +kernel
theorem dX7_longestRun_25 : decode cX7_longestRun 25 = .ok (.ireturn, 1) := by decide +kernel
theorem dX7_lagOf_0 : decode cX7_lagOf 0 = .ok (.iconst 0, 1) := by decide +kernel
theorem dX7_lagOf_1 : decode cX7_lagOf 1 = .ok (.istore_n 2, 1) := by decide +kernel
theorem dX7_lagOf_2 : decode cX7_lagOf 2 = .ok (.iload_n 2, 1) := by decide +kernel
theorem dX7_lagOf_3 : decode cX7_lagOf 3 = .ok (.aload_n 0, 1) := by decide +kernel
theorem dX7_lagOf_4 : decode cX7_lagOf 4 = .ok (.getfield 48, 3) := by decide +kernel
theorem dX7_lagOf_7 : decode cX7_lagOf 7 = .ok (.if_icmp .ge 60, 3) := by decide +kernel
theorem dX7_lagOf_10 : decode cX7_lagOf 10 = .ok (.aload_n 0, 1) := by decide +kernel
theorem dX7_lagOf_11 : decode cX7_lagOf 11 = .ok (.iload_n 2, 1) := by decide +kernel
theorem dX7_lagOf_12 : decode cX7_lagOf 12 = .ok (.iload_n 1, 1) := by decide +kernel
theorem dX7_lagOf_13 : decode cX7_lagOf 13 = .ok (.invokevirtual 118, 3) := by decide +kernel
theorem dX7_lagOf_16 : decode cX7_lagOf 16 = .ok (.istore_n 3, 1) := by decide +kernel
theorem dX7_lagOf_17 : decode cX7_lagOf 17 = .ok (.iload_n 3, 1) := by decide +kernel
theorem dX7_lagOf_18 : decode cX7_lagOf 18 = .ok (.iconst (-1), 1) := by decide +kernel
theorem dX7_lagOf_19 : decode cX7_lagOf 19 = .ok (.if_icmp .eq 42, 3) := by decide +kernel
theorem dX7_lagOf_22 : decode cX7_lagOf 22 = .ok (.aload_n 0, 1) := by decide +kernel
theorem dX7_lagOf_23 : decode cX7_lagOf 23 = .ok (.getfield 29, 3) := by decide +kernel
theorem dX7_lagOf_26 : decode cX7_lagOf 26 = .ok (.iload_n 2, 1) := by decide +kernel
theorem dX7_lagOf_27 : decode cX7_lagOf 27 = .ok (.iaload, 1) := by decide +kernel
theorem dX7_lagOf_28 : decode cX7_lagOf 28 = .ok (.ifCond .eq 12, 3) := by decide +kernel
theorem dX7_lagOf_31 : decode cX7_lagOf 31 = .ok (.aload_n 0, 1) := by decide +kernel
theorem dX7_lagOf_32 : decode cX7_lagOf 32 = .ok (.getfield 29, 3) := by decide +kernel
theorem dX7_lagOf_35 : decode cX7_lagOf 35 = .ok (.iload_n 3, 1) := by decide +kernel
theorem dX7_lagOf_36 : decode cX7_lagOf 36 = .ok (.iaload, 1) := by decide +kernel
theorem dX7_lagOf_37 : decode cX7_lagOf 37 = .ok (.ifCond .ne 7, 3) := by decide +kernel
theorem dX7_lagOf_40 : decode cX7_lagOf 40 = .ok (.iconst 0, 1) := by decide +kernel
theorem dX7_lagOf_41 : decode cX7_lagOf 41 = .ok (.goto 19, 3) := by decide +kernel
theorem dX7_lagOf_44 : decode cX7_lagOf 44 = .ok (.aload_n 0, 1) := by decide +kernel
theorem dX7_lagOf_45 : decode cX7_lagOf 45 = .ok (.aload_n 0, 1) := by decide +kernel
theorem dX7_lagOf_46 : decode cX7_lagOf 46 = .ok (.getfield 25, 3) := by decide +kernel
theorem dX7_lagOf_49 : decode cX7_lagOf 49 = .ok (.iload_n 2, 1) := by decide +kernel
theorem dX7_lagOf_50 : decode cX7_lagOf 50 = .ok (.iaload, 1) := by decide +kernel
theorem dX7_lagOf_51 : decode cX7_lagOf 51 = .ok (.aload_n 0, 1) := by decide +kernel
theorem dX7_lagOf_52 : decode cX7_lagOf 52 = .ok (.getfield 25, 3) := by decide +kernel
theorem dX7_lagOf_55 : decode cX7_lagOf 55 = .ok (.iload_n 3, 1) := by decide +kernel
theorem dX7_lagOf_56 : decode cX7_lagOf 56 = .ok (.iaload, 1) := by decide +kernel
theorem dX7_lagOf_57 : decode cX7_lagOf 57 = .ok (.invokevirtual 91, 3) := by decide +kernel
theorem dX7_lagOf_60 : decode cX7_lagOf 60 = .ok (.ireturn, 1) := by decide +kernel
theorem dX7_lagOf_61 : decode cX7_lagOf 61 = .ok (.iinc 2 1, 3) := by decide +kernel
theorem dX7_lagOf_64 : decode cX7_lagOf 64 = .ok (.goto (-62), 3) := by decide +kernel
theorem dX7_lagOf_67 : decode cX7_lagOf 67 = .ok (.iconst (-1), 1) := by decide +kernel
theorem dX7_lagOf_68 : decode cX7_lagOf 68 = .ok (.ireturn, 1) := by decide +kernel
theorem dX8_init_0 : decode cX8_init 0 = .ok (.aload_n 0, 1) := by decide +kernel
theorem dX8_init_1 : decode cX8_init 1 = .ok (.invokespecial 1, 3) := by decide +kernel
theorem dX8_init_4 : decode cX8_init 4 = .ok (.aload_n 0, 1) := by decide +kernel
theorem dX8_init_5 : decode cX8_init 5 = .ok (.sipush 940, 3) := by decide +kernel
theorem dX8_init_8 : decode cX8_init 8 = .ok (.newarray .int, 2) := by decide +kernel
theorem dX8_init_10 : decode cX8_init 10 = .ok (.putfield 9, 3) := by decide +kernel
theorem dX8_init_13 : decode cX8_init 13 = .ok (.return_, 1) := by decide +kernel
theorem dX8_hasRoom_0 : decode cX8_hasRoom 0 = .ok (.aload_n 0, 1) := by decide +kernel
theorem dX8_hasRoom_1 : decode cX8_hasRoom 1 = .ok (.getfield 13, 3) := by decide +kernel
theorem dX8_hasRoom_4 : decode cX8_hasRoom 4 = .ok (.bipush 20, 2) := by decide +kernel
theorem dX8_hasRoom_6 : decode cX8_hasRoom 6 = .ok (.iadd, 1) := by decide +kernel
theorem dX8_hasRoom_7 : decode cX8_hasRoom 7 = .ok (.sipush 940, 3) := by decide +kernel
theorem dX8_hasRoom_10 : decode cX8_hasRoom 10 = .ok (.if_icmp .gt 7, 3) := by decide +kernel
theorem dX8_hasRoom_13 : decode cX8_hasRoom 13 = .ok (.iconst 1, 1) := by decide +kernel
theorem dX8_hasRoom_14 : decode cX8_hasRoom 14 = .ok (.goto 4, 3) := by decide +kernel
theorem dX8_hasRoom_17 : decode cX8_hasRoom 17 = .ok (.iconst 0, 1) := by decide +kernel
theorem dX8_hasRoom_18 : decode cX8_hasRoom 18 = .ok (.ireturn, 1) := by decide +kernel
theorem dX8_put_0 : decode cX8_put 0 = .ok (.bipush 24, 2) := by decide +kernel
theorem dX8_put_2 : decode cX8_put 2 = .ok (.istore_n 2, 1) := by decide +kernel
theorem dX8_put_3 : decode cX8_put 3 = .ok (.iload_n 2, 1) := by decide +kernel
theorem dX8_put_4 : decode cX8_put 4 = .ok (.ifCond .lt 45, 3) := by decide +kernel
theorem dX8_put_7 : decode cX8_put 7 = .ok (.aload_n 0, 1) := by decide +kernel
theorem dX8_put_8 : decode cX8_put 8 = .ok (.getfield 13, 3) := by decide +kernel
theorem dX8_put_11 : decode cX8_put 11 = .ok (.sipush 940, 3) := by decide +kernel
theorem dX8_put_14 : decode cX8_put 14 = .ok (.if_icmp .ge 35, 3) := by decide +kernel
theorem dX8_put_17 : decode cX8_put 17 = .ok (.aload_n 0, 1) := by decide +kernel
theorem dX8_put_18 : decode cX8_put 18 = .ok (.getfield 9, 3) := by decide +kernel
theorem dX8_put_21 : decode cX8_put 21 = .ok (.aload_n 0, 1) := by decide +kernel
theorem dX8_put_22 : decode cX8_put 22 = .ok (.getfield 13, 3) := by decide +kernel
theorem dX8_put_25 : decode cX8_put 25 = .ok (.iload_n 1, 1) := by decide +kernel
theorem dX8_put_26 : decode cX8_put 26 = .ok (.iload_n 2, 1) := by decide +kernel
theorem dX8_put_27 : decode cX8_put 27 = .ok (.iushr, 1) := by decide +kernel
theorem dX8_put_28 : decode cX8_put 28 = .ok (.sipush 255, 3) := by decide +kernel
theorem dX8_put_31 : decode cX8_put 31 = .ok (.iand, 1) := by decide +kernel
theorem dX8_put_32 : decode cX8_put 32 = .ok (.iastore, 1) := by decide +kernel
theorem dX8_put_33 : decode cX8_put 33 = .ok (.aload_n 0, 1) := by decide +kernel
theorem dX8_put_34 : decode cX8_put 34 = .ok (.dup, 1) := by decide +kernel
theorem dX8_put_35 : decode cX8_put 35 = .ok (.getfield 13, 3) := by decide +kernel
theorem dX8_put_38 : decode cX8_put 38 = .ok (.iconst 1, 1) := by decide +kernel
theorem dX8_put_39 : decode cX8_put 39 = .ok (.iadd, 1) := by decide +kernel
theorem dX8_put_40 : decode cX8_put 40 = .ok (.putfield 13, 3) := by decide +kernel
theorem dX8_put_43 : decode cX8_put 43 = .ok (.iinc 2 (-8), 3) := by decide +kernel
theorem dX8_put_46 : decode cX8_put 46 = .ok (.goto (-43), 3) := by decide +kernel
theorem dX8_put_49 : decode cX8_put 49 = .ok (.return_, 1) := by decide +kernel
theorem dX9_init_0 : decode cX9_init 0 = .ok (.aload_n 0, 1) := by decide +kernel
theorem dX9_init_1 : decode cX9_init 1 = .ok (.invokespecial 3, 3) := by decide +kernel
theorem dX9_init_4 : decode cX9_init 4 = .ok (.aload_n 0, 1) := by decide +kernel
theorem dX9_init_5 : decode cX9_init 5 = .ok (.iload_n 1, 1) := by decide +kernel
theorem dX9_init_6 : decode cX9_init 6 = .ok (.newarray .int, 2) := by decide +kernel
theorem dX9_init_8 : decode cX9_init 8 = .ok (.putfield 9, 3) := by decide +kernel
theorem dX9_init_11 : decode cX9_init 11 = .ok (.return_, 1) := by decide +kernel
theorem dX9_at_0 : decode cX9_at 0 = .ok (.iload_n 1, 1) := by decide +kernel
theorem dX9_at_1 : decode cX9_at 1 = .ok (.ifCond .lt 29, 3) := by decide +kernel
theorem dX9_at_4 : decode cX9_at 4 = .ok (.iload_n 1, 1) := by decide +kernel
theorem dX9_at_5 : decode cX9_at 5 = .ok (.aload_n 0, 1) := by decide +kernel
theorem dX9_at_6 : decode cX9_at 6 = .ok (.getfield 15, 3) := by decide +kernel
theorem dX9_at_9 : decode cX9_at 9 = .ok (.if_icmp .ge 21, 3) := by decide +kernel
theorem dX9_at_12 : decode cX9_at 12 = .ok (.iload_n 1, 1) := by decide +kernel
theorem dX9_at_13 : decode cX9_at 13 = .ok (.aload_n 0, 1) := by decide +kernel
theorem dX9_at_14 : decode cX9_at 14 = .ok (.getfield 9, 3) := by decide +kernel
theorem dX9_at_17 : decode cX9_at 17 = .ok (.arraylength, 1) := by decide +kernel
theorem dX9_at_18 : decode cX9_at 18 = .ok (.if_icmp .ge 12, 3) := by decide +kernel
theorem dX9_at_21 : decode cX9_at 21 = .ok (.aload_n 0, 1) := by decide +kernel
theorem dX9_at_22 : decode cX9_at 22 = .ok (.getfield 9, 3) := by decide +kernel
theorem dX9_at_25 : decode cX9_at 25 = .ok (.iload_n 1, 1) := by decide +kernel
theorem dX9_at_26 : decode cX9_at 26 = .ok (.iaload, 1) := by decide +kernel
theorem dX9_at_27 : decode cX9_at 27 = .ok (.goto 4, 3) := by decide +kernel
theorem dX9_at_30 : decode cX9_at 30 = .ok (.iconst (-1), 1) := by decide +kernel
theorem dX9_at_31 : decode cX9_at 31 = .ok (.ireturn, 1) := by decide +kernel
theorem dX10_init_0 : decode cX10_init 0 = .ok (.aload_n 0, 1) := by decide +kernel
theorem dX10_init_1 : decode cX10_init 1 = .ok (.invokespecial 1, 3) := by decide +kernel
theorem dX10_init_4 : decode cX10_init 4 = .ok (.aload_n 0, 1) := by decide +kernel
theorem dX10_init_5 : decode cX10_init 5 = .ok (.new 7, 3) := by decide +kernel
theorem dX10_init_8 : decode cX10_init 8 = .ok (.dup, 1) := by decide +kernel
theorem dX10_init_9 : decode cX10_init 9 = .ok (.invokespecial 9, 3) := by decide +kernel
theorem dX10_init_12 : decode cX10_init 12 = .ok (.putfield 10, 3) := by decide +kernel
theorem dX10_init_15 : decode cX10_init 15 = .ok (.aload_n 0, 1) := by decide +kernel
theorem dX10_init_16 : decode cX10_init 16 = .ok (.new 16, 3) := by decide +kernel
theorem dX10_init_19 : decode cX10_init 19 = .ok (.dup, 1) := by decide +kernel
theorem dX10_init_20 : decode cX10_init 20 = .ok (.invokespecial 18, 3) := by decide +kernel
theorem dX10_init_23 : decode cX10_init 23 = .ok (.putfield 19, 3) := by decide +kernel
theorem dX10_init_26 : decode cX10_init 26 = .ok (.aload_n 0, 1) := by decide +kernel
theorem dX10_init_27 : decode cX10_init 27 = .ok (.new 23, 3) := by decide +kernel
theorem dX10_init_30 : decode cX10_init 30 = .ok (.dup, 1) := by decide +kernel
theorem dX10_init_31 : decode cX10_init 31 = .ok (.invokespecial 25, 3) := by decide +kernel
theorem dX10_init_34 : decode cX10_init 34 = .ok (.putfield 26, 3) := by decide +kernel
theorem dX10_init_37 : decode cX10_init 37 = .ok (.aload_n 0, 1) := by decide +kernel
theorem dX10_init_38 : decode cX10_init 38 = .ok (.new 23, 3) := by decide +kernel
theorem dX10_init_41 : decode cX10_init 41 = .ok (.dup, 1) := by decide +kernel
theorem dX10_init_42 : decode cX10_init 42 = .ok (.invokespecial 25, 3) := by decide +kernel
theorem dX10_init_45 : decode cX10_init 45 = .ok (.putfield 30, 3) := by decide +kernel
theorem dX10_init_48 : decode cX10_init 48 = .ok (.aload_n 0, 1) := by decide +kernel
theorem dX10_init_49 : decode cX10_init 49 = .ok (.iconst 2, 1) := by decide +kernel
theorem dX10_init_50 : decode cX10_init 50 = .ok (.anewarray 23, 3) := by decide +kernel
theorem dX10_init_53 : decode cX10_init 53 = .ok (.putfield 33, 3) := by decide +kernel
theorem dX10_init_56 : decode cX10_init 56 = .ok (.aload_n 0, 1) := by decide +kernel
theorem dX10_init_57 : decode cX10_init 57 = .ok (.iconst 2, 1) := by decide +kernel
theorem dX10_init_58 : decode cX10_init 58 = .ok (.newarray .boolean, 2) := by decide +kernel
theorem dX10_init_60 : decode cX10_init 60 = .ok (.putfield 37, 3) := by decide +kernel
theorem dX10_init_63 : decode cX10_init 63 = .ok (.aload_n 0, 1) := by decide +kernel
theorem dX10_init_64 : decode cX10_init 64 = .ok (.new 41, 3) := by decide +kernel
theorem dX10_init_67 : decode cX10_init 67 = .ok (.dup, 1) := by decide +kernel
theorem dX10_init_68 : decode cX10_init 68 = .ok (.invokespecial 43, 3) := by decide +kernel
theorem dX10_init_71 : decode cX10_init 71 = .ok (.putfield 44, 3) := by decide +kernel
theorem dX10_init_74 : decode cX10_init 74 = .ok (.aload_n 0, 1) := by decide +kernel
theorem dX10_init_75 : decode cX10_init 75 = .ok (.new 48, 3) := by decide +kernel
theorem dX10_init_78 : decode cX10_init 78 = .ok (.dup, 1) := by decide +kernel
theorem dX10_init_79 : decode cX10_init 79 = .ok (.invokespecial 50, 3) := by decide +kernel
theorem dX10_init_82 : decode cX10_init 82 = .ok (.putfield 51, 3) := by decide +kernel
theorem dX10_init_85 : decode cX10_init 85 = .ok (.aload_n 0, 1) := by decide +kernel
theorem dX10_init_86 : decode cX10_init 86 = .ok (.new 55, 3) := by decide +kernel
theorem dX10_init_89 : decode cX10_init 89 = .ok (.dup, 1) := by decide +kernel
theorem dX10_init_90 : decode cX10_init 90 = .ok (.invokespecial 57, 3) := by decide +kernel
theorem dX10_init_93 : decode cX10_init 93 = .ok (.putfield 58, 3) := by decide +kernel
theorem dX10_init_96 : decode cX10_init 96 = .ok (.aload_n 0, 1) := by decide +kernel
theorem dX10_init_97 : decode cX10_init 97 = .ok (.new 62, 3) := by decide +kernel
theorem dX10_init_100 : decode cX10_init 100 = .ok (.dup, 1) := by decide +kernel
theorem dX10_init_101 : decode cX10_init 101 = .ok (.invokespecial 64, 3) := by decide +kernel
theorem dX10_init_104 : decode cX10_init 104 = .ok (.putfield 65, 3) := by decide +kernel
theorem dX10_init_107 : decode cX10_init 107 = .ok (.aload_n 0, 1) := by decide +kernel
theorem dX10_init_108 : decode cX10_init 108 = .ok (.bipush 10, 2) := by decide +kernel
theorem dX10_init_110 : decode cX10_init 110 = .ok (.newarray .int, 2) := by decide +kernel
theorem dX10_init_112 : decode cX10_init 112 = .ok (.putfield 69, 3) := by decide +kernel
theorem dX10_init_115 : decode cX10_init 115 = .ok (.aload_n 0, 1) := by decide +kernel
theorem dX10_init_116 : decode cX10_init 116 = .ok (.new 73, 3) := by decide +kernel
theorem dX10_init_119 : decode cX10_init 119 = .ok (.dup, 1) := by decide +kernel
theorem dX10_init_120 : decode cX10_init 120 = .ok (.iconst 3, 1) := by decide +kernel
theorem dX10_init_121 : decode cX10_init 121 = .ok (.invokespecial 75, 3) := by decide +kernel
theorem dX10_init_124 : decode cX10_init 124 = .ok (.putfield 78, 3) := by decide +kernel
theorem dX10_init_127 : decode cX10_init 127 = .ok (.aload_n 0, 1) := by decide +kernel
theorem dX10_init_128 : decode cX10_init 128 = .ok (.new 73, 3) := by decide +kernel
theorem dX10_init_131 : decode cX10_init 131 = .ok (.dup, 1) := by decide +kernel
theorem dX10_init_132 : decode cX10_init 132 = .ok (.iconst 3, 1) := by decide +kernel
theorem dX10_init_133 : decode cX10_init 133 = .ok (.invokespecial 75, 3) := by decide +kernel
theorem dX10_init_136 : decode cX10_init 136 = .ok (.putfield 82, 3) := by decide +kernel
theorem dX10_init_139 : decode cX10_init 139 = .ok (.aload_n 0, 1) := by decide +kernel
theorem dX10_init_140 : decode cX10_init 140 = .ok (.new 73, 3) := by decide +kernel
theorem dX10_init_143 : decode cX10_init 143 = .ok (.dup, 1) := by decide +kernel
theorem dX10_init_144 : decode cX10_init 144 = .ok (.iconst 3, 1) := by decide +kernel
theorem dX10_init_145 : decode cX10_init 145 = .ok (.invokespecial 75, 3) := by decide +kernel
theorem dX10_init_148 : decode cX10_init 148 = .ok (.putfield 85, 3) := by decide +kernel
theorem dX10_init_151 : decode cX10_init 151 = .ok (.aload_n 0, 1) := by decide +kernel
theorem dX10_init_152 : decode cX10_init 152 = .ok (.iconst (-1), 1) := by decide +kernel
theorem dX10_init_153 : decode cX10_init 153 = .ok (.putfield 88, 3) := by decide +kernel
theorem dX10_init_156 : decode cX10_init 156 = .ok (.aload_n 0, 1) := by decide +kernel
theorem dX10_init_157 : decode cX10_init 157 = .ok (.new 73, 3) := by decide +kernel
theorem dX10_init_160 : decode cX10_init 160 = .ok (.dup, 1) := by decide +kernel
theorem dX10_init_161 : decode cX10_init 161 = .ok (.iconst 2, 1) := by decide +kernel
theorem dX10_init_162 : decode cX10_init 162 = .ok (.invokespecial 75, 3) := by decide +kernel
theorem dX10_init_165 : decode cX10_init 165 = .ok (.putfield 92, 3) := by decide +kernel
theorem dX10_init_168 : decode cX10_init 168 = .ok (.aload_n 0, 1) := by decide +kernel
theorem dX10_init_169 : decode cX10_init 169 = .ok (.iconst (-1), 1) := by decide +kernel
theorem dX10_init_170 : decode cX10_init 170 = .ok (.putfield 95, 3) := by decide +kernel
theorem dX10_init_173 : decode cX10_init 173 = .ok (.aload_n 0, 1) := by decide +kernel
theorem dX10_init_174 : decode cX10_init 174 = .ok (.new 73, 3) := by decide +kernel
theorem dX10_init_177 : decode cX10_init 177 = .ok (.dup, 1) := by decide +kernel
theorem dX10_init_178 : decode cX10_init 178 = .ok (.bipush 10, 2) := by decide +kernel
theorem dX10_init_180 : decode cX10_init 180 = .ok (.invokespecial 75, 3) := by decide +kernel
theorem dX10_init_183 : decode cX10_init 183 = .ok (.putfield 98, 3) := by decide +kernel
theorem dX10_init_186 : decode cX10_init 186 = .ok (.iconst 0, 1) := by decide +kernel
theorem dX10_init_187 : decode cX10_init 187 = .ok (.istore_n 1, 1) := by decide +kernel
theorem dX10_init_188 : decode cX10_init 188 = .ok (.iload_n 1, 1) := by decide +kernel
theorem dX10_init_189 : decode cX10_init 189 = .ok (.iconst 2, 1) := by decide +kernel
theorem dX10_init_190 : decode cX10_init 190 = .ok (.if_icmp .ge 22, 3) := by decide +kernel
theorem dX10_init_193 : decode cX10_init 193 = .ok (.aload_n 0, 1) := by decide +kernel
theorem dX10_init_194 : decode cX10_init 194 = .ok (.getfield 33, 3) := by decide +kernel
theorem dX10_init_197 : decode cX10_init 197 = .ok (.iload_n 1, 1) := by decide +kernel
theorem dX10_init_198 : decode cX10_init 198 = .ok (.new 23, 3) := by decide +kernel
theorem dX10_init_201 : decode cX10_init 201 = .ok (.dup, 1) := by decide +kernel
theorem dX10_init_202 : decode cX10_init 202 = .ok (.invokespecial 25, 3) := by decide +kernel
theorem dX10_init_205 : decode cX10_init 205 = .ok (.aastore, 1) := by decide +kernel
theorem dX10_init_206 : decode cX10_init 206 = .ok (.iinc 1 1, 3) := by decide +kernel
theorem dX10_init_209 : decode cX10_init 209 = .ok (.goto (-21), 3) := by decide +kernel
theorem dX10_init_212 : decode cX10_init 212 = .ok (.return_, 1) := by decide +kernel
theorem dX10_feed_0 : decode cX10_feed 0 = .ok (.aload_n 0, 1) := by decide +kernel
theorem dX10_feed_1 : decode cX10_feed 1 = .ok (.getfield 10, 3) := by decide +kernel
theorem dX10_feed_4 : decode cX10_feed 4 = .ok (.invokevirtual 101, 3) := by decide +kernel
theorem dX10_feed_7 : decode cX10_feed 7 = .ok (.ifCond .ne 5, 3) := by decide +kernel
theorem dX10_feed_10 : decode cX10_feed 10 = .ok (.iconst (-1), 1) := by decide +kernel
theorem dX10_feed_11 : decode cX10_feed 11 = .ok (.ireturn, 1) := by decide +kernel
theorem dX10_feed_12 : decode cX10_feed 12 = .ok (.aload_n 0, 1) := by decide +kernel
theorem dX10_feed_13 : decode cX10_feed 13 = .ok (.getfield 10, 3) := by decide +kernel
theorem dX10_feed_16 : decode cX10_feed 16 = .ok (.iload_n 1, 1) := by decide +kernel
theorem dX10_feed_17 : decode cX10_feed 17 = .ok (.invokevirtual 105, 3) := by decide +kernel
theorem dX10_feed_20 : decode cX10_feed 20 = .ok (.aload_n 0, 1) := by decide +kernel
theorem dX10_feed_21 : decode cX10_feed 21 = .ok (.getfield 10, 3) := by decide +kernel
theorem dX10_feed_24 : decode cX10_feed 24 = .ok (.iload_n 2, 1) := by decide +kernel
theorem dX10_feed_25 : decode cX10_feed 25 = .ok (.invokevirtual 105, 3) := by decide +kernel
theorem dX10_feed_28 : decode cX10_feed 28 = .ok (.aload_n 0, 1) := by decide +kernel
theorem dX10_feed_29 : decode cX10_feed 29 = .ok (.getfield 10, 3) := by decide +kernel
theorem dX10_feed_32 : decode cX10_feed 32 = .ok (.iload_n 3, 1) := by decide +kernel
theorem dX10_feed_33 : decode cX10_feed 33 = .ok (.invokevirtual 105, 3) := by decide +kernel
theorem dX10_feed_36 : decode cX10_feed 36 = .ok (.aload_n 0, 1) := by decide +kernel
theorem dX10_feed_37 : decode cX10_feed 37 = .ok (.getfield 10, 3) := by decide +kernel
theorem dX10_feed_40 : decode cX10_feed 40 = .ok (.iload 4, 2) := by decide +kernel
theorem dX10_feed_42 : decode cX10_feed 42 = .ok (.invokevirtual 105, 3) := by decide +kernel
theorem dX10_feed_45 : decode cX10_feed 45 = .ok (.aload_n 0, 1) := by decide +kernel
theorem dX10_feed_46 : decode cX10_feed 46 = .ok (.getfield 10, 3) := by decide +kernel
theorem dX10_feed_49 : decode cX10_feed 49 = .ok (.iload 5, 2) := by decide +kernel
theorem dX10_feed_51 : decode cX10_feed 51 = .ok (.invokevirtual 105, 3) := by decide +kernel
theorem dX10_feed_54 : decode cX10_feed 54 = .ok (.aload_n 0, 1) := by decide +kernel
theorem dX10_feed_55 : decode cX10_feed 55 = .ok (.getfield 10, 3) := by decide +kernel
theorem dX10_feed_58 : decode cX10_feed 58 = .ok (.getfield 108, 3) := by decide +kernel
theorem dX10_feed_61 : decode cX10_feed 61 = .ok (.ireturn, 1) := by decide +kernel
theorem dX10_end_0 : decode cX10_end 0 = .ok (.iload_n 1, 1) := by decide +kernel
theorem dX10_end_1 : decode cX10_end 1 = .ok (.ifCond .lt 14, 3) := by decide +kernel
theorem dX10_end_4 : decode cX10_end 4 = .ok (.iload_n 1, 1) := by decide +kernel
theorem dX10_end_5 : decode cX10_end 5 = .ok (.aload_n 0, 1) := by decide +kernel
theorem dX10_end_6 : decode cX10_end 6 = .ok (.getfield 10, 3) := by decide +kernel
theorem dX10_end_9 : decode cX10_end 9 = .ok (.getfield 108, 3) := by decide +kernel
theorem dX10_end_12 : decode cX10_end 12 = .ok (.if_icmp .le 5, 3) := by decide +kernel
theorem dX10_end_15 : decode cX10_end 15 = .ok (.iconst 0, 1) := by decide +kernel
theorem dX10_end_16 : decode cX10_end 16 = .ok (.ireturn, 1) := by decide +kernel
theorem dX10_end_17 : decode cX10_end 17 = .ok (.aload_n 0, 1) := by decide +kernel
theorem dX10_end_18 : decode cX10_end 18 = .ok (.getfield 10, 3) := by decide +kernel
theorem dX10_end_21 : decode cX10_end 21 = .ok (.iload_n 1, 1) := by decide +kernel
theorem dX10_end_22 : decode cX10_end 22 = .ok (.putfield 108, 3) := by decide +kernel
theorem dX10_end_25 : decode cX10_end 25 = .ok (.iconst 1, 1) := by decide +kernel
theorem dX10_end_26 : decode cX10_end 26 = .ok (.ireturn, 1) := by decide +kernel
theorem dX10_field_0 : decode cX10_field 0 = .ok (.aload_n 0, 1) := by decide +kernel
theorem dX10_field_1 : decode cX10_field 1 = .ok (.getfield 19, 3) := by decide +kernel
theorem dX10_field_4 : decode cX10_field 4 = .ok (.aload_n 0, 1) := by decide +kernel
theorem dX10_field_5 : decode cX10_field 5 = .ok (.getfield 30, 3) := by decide +kernel
theorem dX10_field_8 : decode cX10_field 8 = .ok (.aload_n 0, 1) := by decide +kernel
theorem dX10_field_9 : decode cX10_field 9 = .ok (.getfield 10, 3) := by decide +kernel
theorem dX10_field_12 : decode cX10_field 12 = .ok (.invokevirtual 111, 3) := by decide +kernel
theorem dX10_field_15 : decode cX10_field 15 = .ok (.istore_n 1, 1) := by decide +kernel
theorem dX10_field_16 : decode cX10_field 16 = .ok (.aload_n 0, 1) := by decide +kernel
theorem dX10_field_17 : decode cX10_field 17 = .ok (.getfield 10, 3) := by decide +kernel
theorem dX10_field_20 : decode cX10_field 20 = .ok (.iconst 0, 1) := by decide +kernel
theorem dX10_field_21 : decode cX10_field 21 = .ok (.putfield 108, 3) := by decide +kernel
theorem dX10_field_24 : decode cX10_field 24 = .ok (.iload_n 1, 1) := by decide +kernel
theorem dX10_field_25 : decode cX10_field 25 = .ok (.iconst (-1), 1) := by decide +kernel
theorem dX10_field_26 : decode cX10_field 26 = .ok (.if_icmp .ne 13, 3) := by decide +kernel
theorem dX10_field_29 : decode cX10_field 29 = .ok (.iconst (-1), 1) := by decide +kernel
theorem dX10_field_30 : decode cX10_field 30 = .ok (.aload_n 0, 1) := by decide +kernel
theorem dX10_field_31 : decode cX10_field 31 = .ok (.getfield 19, 3) := by decide +kernel
theorem dX10_field_34 : decode cX10_field 34 = .ok (.getfield 115, 3) := by decide +kernel
theorem dX10_field_37 : decode cX10_field 37 = .ok (.isub, 1) := by decide +kernel
theorem dX10_field_38 : decode cX10_field 38 = .ok (.ireturn, 1) := by decide +kernel
theorem dX10_field_39 : decode cX10_field 39 = .ok (.aload_n 0, 1) := by decide +kernel
theorem dX10_field_40 : decode cX10_field 40 = .ok (.getfield 26, 3) := by decide +kernel
theorem dX10_field_43 : decode cX10_field 43 = .ok (.astore_n 2, 1) := by decide +kernel
theorem dX10_field_44 : decode cX10_field 44 = .ok (.aload_n 0, 1) := by decide +kernel
theorem dX10_field_45 : decode cX10_field 45 = .ok (.aload_n 0, 1) := by decide +kernel
theorem dX10_field_46 : decode cX10_field 46 = .ok (.getfield 30, 3) := by decide +kernel
theorem dX10_field_49 : decode cX10_field 49 = .ok (.putfield 26, 3) := by decide +kernel
theorem dX10_field_52 : decode cX10_field 52 = .ok (.aload_n 0, 1) := by decide +kernel
theorem dX10_field_53 : decode cX10_field 53 = .ok (.aload_n 2, 1) := by decide +kernel
theorem dX10_field_54 : decode cX10_field 54 = .ok (.putfield 30, 3) := by decide +kernel
theorem dX10_field_57 : decode cX10_field 57 = .ok (.iload_n 1, 1) := by decide +kernel
theorem dX10_field_58 : decode cX10_field 58 = .ok (.ireturn, 1) := by decide +kernel
theorem dX10_fault_0 : decode cX10_fault 0 = .ok (.aload_n 0, 1) := by decide +kernel
theorem dX10_fault_1 : decode cX10_fault 1 = .ok (.getfield 19, 3) := by decide +kernel
theorem dX10_fault_4 : decode cX10_fault 4 = .ok (.getfield 118, 3) := by decide +kernel
theorem dX10_fault_7 : decode cX10_fault 7 = .ok (.ireturn, 1) := by decide +kernel
theorem dX10_hearer_0 : decode cX10_hearer 0 = .ok (.aload_n 0, 1) := by decide +kernel
theorem dX10_hearer_1 : decode cX10_hearer 1 = .ok (.getfield 26, 3) := by decide +kernel
theorem dX10_hearer_4 : decode cX10_hearer 4 = .ok (.iload_n 1, 1) := by decide +kernel
theorem dX10_hearer_5 : decode cX10_hearer 5 = .ok (.invokevirtual 121, 3) := by decide +kernel
theorem dX10_hearer_8 : decode cX10_hearer 8 = .ok (.ifCond .eq 12, 3) := by decide +kernel
theorem dX10_hearer_11 : decode cX10_hearer 11 = .ok (.iload_n 2, 1) := by decide +kernel
theorem dX10_hearer_12 : decode cX10_hearer 12 = .ok (.ifCond .lt 8, 3) := by decide +kernel
theorem dX10_hearer_15 : decode cX10_hearer 15 = .ok (.iload_n 2, 1) := by decide +kernel
theorem dX10_hearer_16 : decode cX10_hearer 16 = .ok (.iconst 1, 1) := by decide +kernel
theorem dX10_hearer_17 : decode cX10_hearer 17 = .ok (.if_icmp .le 11, 3) := by decide +kernel
theorem dX10_hearer_20 : decode cX10_hearer 20 = .ok (.new 125, 3) := by decide +kernel
theorem dX10_hearer_23 : decode cX10_hearer 23 = .ok (.dup, 1) := by decide +kernel
theorem dX10_hearer_24 : decode cX10_hearer 24 = .ok (.invokespecial 127, 3) := by decide +kernel
theorem dX10_hearer_27 : decode cX10_hearer 27 = .ok (.athrow, 1) := by decide +kernel
theorem dX10_hearer_28 : decode cX10_hearer 28 = .ok (.iload_n 2, 1) := by decide +kernel
theorem dX10_hearer_29 : decode cX10_hearer 29 = .ok (.ifCond .ne 15, 3) := by decide +kernel
theorem dX10_hearer_32 : decode cX10_hearer 32 = .ok (.aload_n 0, 1) := by decide +kernel
theorem dX10_hearer_33 : decode cX10_hearer 33 = .ok (.getfield 26, 3) := by decide +kernel
theorem dX10_hearer_36 : decode cX10_hearer 36 = .ok (.getfield 128, 3) := by decide +kernel
theorem dX10_hearer_39 : decode cX10_hearer 39 = .ok (.iload_n 1, 1) := by decide +kernel
theorem dX10_hearer_40 : decode cX10_hearer 40 = .ok (.iaload, 1) := by decide +kernel
theorem dX10_hearer_41 : decode cX10_hearer 41 = .ok (.goto 12, 3) := by decide +kernel
theorem dX10_hearer_44 : decode cX10_hearer 44 = .ok (.aload_n 0, 1) := by decide +kernel
theorem dX10_hearer_45 : decode cX10_hearer 45 = .ok (.getfield 26, 3) := by decide +kernel
theorem dX10_hearer_48 : decode cX10_hearer 48 = .ok (.getfield 131, 3) := by decide +kernel
theorem dX10_hearer_51 : decode cX10_hearer 51 = .ok (.iload_n 1, 1) := by decide +kernel
theorem dX10_hearer_52 : decode cX10_hearer 52 = .ok (.iaload, 1) := by decide +kernel
theorem dX10_hearer_53 : decode cX10_hearer 53 = .ok (.ireturn, 1) := by decide +kernel
theorem dX10_sender_0 : decode cX10_sender 0 = .ok (.iload_n 1, 1) := by decide +kernel
theorem dX10_sender_1 : decode cX10_sender 1 = .ok (.ifCond .lt 23, 3) := by decide +kernel
theorem dX10_sender_4 : decode cX10_sender 4 = .ok (.iload_n 1, 1) := by decide +kernel
theorem dX10_sender_5 : decode cX10_sender 5 = .ok (.aload_n 0, 1) := by decide +kernel
theorem dX10_sender_6 : decode cX10_sender 6 = .ok (.getfield 26, 3) := by decide +kernel
theorem dX10_sender_9 : decode cX10_sender 9 = .ok (.getfield 134, 3) := by decide +kernel
theorem dX10_sender_12 : decode cX10_sender 12 = .ok (.if_icmp .ge 12, 3) := by decide +kernel
theorem dX10_sender_15 : decode cX10_sender 15 = .ok (.iload_n 2, 1) := by decide +kernel
theorem dX10_sender_16 : decode cX10_sender 16 = .ok (.ifCond .lt 8, 3) := by decide +kernel
theorem dX10_sender_19 : decode cX10_sender 19 = .ok (.iload_n 2, 1) := by decide +kernel
theorem dX10_sender_20 : decode cX10_sender 20 = .ok (.iconst 3, 1) := by decide +kernel
theorem dX10_sender_21 : decode cX10_sender 21 = .ok (.if_icmp .le 11, 3) := by decide +kernel
theorem dX10_sender_24 : decode cX10_sender 24 = .ok (.new 125, 3) := by decide +kernel
theorem dX10_sender_27 : decode cX10_sender 27 = .ok (.dup, 1) := by decide +kernel
theorem dX10_sender_28 : decode cX10_sender 28 = .ok (.invokespecial 127, 3) := by decide +kernel
theorem dX10_sender_31 : decode cX10_sender 31 = .ok (.athrow, 1) := by decide +kernel
theorem dX10_sender_32 : decode cX10_sender 32 = .ok (.iload_n 2, 1) := by decide +kernel
theorem dX10_sender_33 : decode cX10_sender 33 = .ok (.tableswitch 56 0 2 #[27, 36, 46], 27) := by decide +kernel
theorem dX10_sender_60 : decode cX10_sender 60 = .ok (.aload_n 0, 1) := by decide +kernel
theorem dX10_sender_61 : decode cX10_sender 61 = .ok (.getfield 26, 3) := by decide +kernel
theorem dX10_sender_64 : decode cX10_sender 64 = .ok (.iload_n 1, 1) := by decide +kernel
theorem dX10_sender_65 : decode cX10_sender 65 = .ok (.invokevirtual 137, 3) := by decide +kernel
theorem dX10_sender_68 : decode cX10_sender 68 = .ok (.ireturn, 1) := by decide +kernel
theorem dX10_sender_69 : decode cX10_sender 69 = .ok (.aload_n 0, 1) := by decide +kernel
theorem dX10_sender_70 : decode cX10_sender 70 = .ok (.getfield 26, 3) := by decide +kernel
theorem dX10_sender_73 : decode cX10_sender 73 = .ok (.getfield 141, 3) := by decide +kernel
theorem dX10_sender_76 : decode cX10_sender 76 = .ok (.iload_n 1, 1) := by decide +kernel
theorem dX10_sender_77 : decode cX10_sender 77 = .ok (.iaload, 1) := by decide +kernel
theorem dX10_sender_78 : decode cX10_sender 78 = .ok (.ireturn, 1) := by decide +kernel
theorem dX10_sender_79 : decode cX10_sender 79 = .ok (.aload_n 0, 1) := by decide +kernel
theorem dX10_sender_80 : decode cX10_sender 80 = .ok (.getfield 26, 3) := by decide +kernel
theorem dX10_sender_83 : decode cX10_sender 83 = .ok (.getfield 144, 3) := by decide +kernel
theorem dX10_sender_86 : decode cX10_sender 86 = .ok (.iload_n 1, 1) := by decide +kernel
theorem dX10_sender_87 : decode cX10_sender 87 = .ok (.iaload, 1) := by decide +kernel
theorem dX10_sender_88 : decode cX10_sender 88 = .ok (.ireturn, 1) := by decide +kernel
theorem dX10_sender_89 : decode cX10_sender 89 = .ok (.aload_n 0, 1) := by decide +kernel
theorem dX10_sender_90 : decode cX10_sender 90 = .ok (.getfield 26, 3) := by decide +kernel
theorem dX10_sender_93 : decode cX10_sender 93 = .ok (.getfield 147, 3) := by decide +kernel
theorem dX10_sender_96 : decode cX10_sender 96 = .ok (.iload_n 1, 1) := by decide +kernel
theorem dX10_sender_97 : decode cX10_sender 97 = .ok (.iaload, 1) := by decide +kernel
theorem dX10_sender_98 : decode cX10_sender 98 = .ok (.ireturn, 1) := by decide +kernel
theorem dX10_moment_0 : decode cX10_moment 0 = .ok (.iload_n 1, 1) := by decide +kernel
theorem dX10_moment_1 : decode cX10_moment 1 = .ok (.ifCond .lt 10, 3) := by decide +kernel
theorem dX10_moment_4 : decode cX10_moment 4 = .ok (.iload_n 1, 1) := by decide +kernel
theorem dX10_moment_5 : decode cX10_moment 5 = .ok (.sipush 999, 3) := by decide +kernel
theorem dX10_moment_8 : decode cX10_moment 8 = .ok (.if_icmp .le 5, 3) := by decide +kernel
theorem dX10_moment_11 : decode cX10_moment 11 = .ok (.iconst 0, 1) := by decide +kernel
theorem dX10_moment_12 : decode cX10_moment 12 = .ok (.ireturn, 1) := by decide +kernel
theorem dX10_moment_13 : decode cX10_moment 13 = .ok (.aload_n 0, 1) := by decide +kernel
theorem dX10_moment_14 : decode cX10_moment 14 = .ok (.getfield 26, 3) := by decide +kernel
theorem dX10_moment_17 : decode cX10_moment 17 = .ok (.iload_n 1, 1) := by decide +kernel
theorem dX10_moment_18 : decode cX10_moment 18 = .ok (.putfield 150, 3) := by decide +kernel
theorem dX10_moment_21 : decode cX10_moment 21 = .ok (.iconst 1, 1) := by decide +kernel
theorem dX10_moment_22 : decode cX10_moment 22 = .ok (.ireturn, 1) := by decide +kernel
theorem dX10_wave_0 : decode cX10_wave 0 = .ok (.aload_n 0, 1) := by decide +kernel
theorem dX10_wave_1 : decode cX10_wave 1 = .ok (.getfield 26, 3) := by decide +kernel
theorem dX10_wave_4 : decode cX10_wave 4 = .ok (.getfield 153, 3) := by decide +kernel
theorem dX10_wave_7 : decode cX10_wave 7 = .ok (.iload_n 1, 1) := by decide +kernel
theorem dX10_wave_8 : decode cX10_wave 8 = .ok (.invokevirtual 157, 3) := by decide +kernel
theorem dX10_wave_11 : decode cX10_wave 11 = .ok (.ifCond .eq 13, 3) := by decide +kernel
theorem dX10_wave_14 : decode cX10_wave 14 = .ok (.iload_n 2, 1) := by decide +kernel
theorem dX10_wave_15 : decode cX10_wave 15 = .ok (.ifCond .lt 9, 3) := by decide +kernel
theorem dX10_wave_18 : decode cX10_wave 18 = .ok (.iload_n 2, 1) := by decide +kernel
theorem dX10_wave_19 : decode cX10_wave 19 = .ok (.bipush 99, 2) := by decide +kernel
theorem dX10_wave_21 : decode cX10_wave 21 = .ok (.if_icmp .le 5, 3) := by decide +kernel
theorem dX10_wave_24 : decode cX10_wave 24 = .ok (.iconst (-1), 1) := by decide +kernel
theorem dX10_wave_25 : decode cX10_wave 25 = .ok (.ireturn, 1) := by decide +kernel
theorem dX10_wave_26 : decode cX10_wave 26 = .ok (.aload_n 0, 1) := by decide +kernel
theorem dX10_wave_27 : decode cX10_wave 27 = .ok (.getfield 26, 3) := by decide +kernel
theorem dX10_wave_30 : decode cX10_wave 30 = .ok (.getfield 153, 3) := by decide +kernel
theorem dX10_wave_33 : decode cX10_wave 33 = .ok (.iload_n 1, 1) := by decide +kernel
theorem dX10_wave_34 : decode cX10_wave 34 = .ok (.iload_n 2, 1) := by decide +kernel
theorem dX10_wave_35 : decode cX10_wave 35 = .ok (.invokevirtual 162, 3) := by decide +kernel
theorem dX10_wave_38 : decode cX10_wave 38 = .ok (.ireturn, 1) := by decide +kernel
theorem dX10_reading_0 : decode cX10_reading 0 = .ok (.aload_n 0, 1) := by decide +kernel
theorem dX10_reading_1 : decode cX10_reading 1 = .ok (.getfield 26, 3) := by decide +kernel
theorem dX10_reading_4 : decode cX10_reading 4 = .ok (.iload_n 1, 1) := by decide +kernel
theorem dX10_reading_5 : decode cX10_reading 5 = .ok (.invokevirtual 121, 3) := by decide +kernel
theorem dX10_reading_8 : decode cX10_reading 8 = .ok (.ifCond .eq 14, 3) := by decide +kernel
theorem dX10_reading_11 : decode cX10_reading 11 = .ok (.aload_n 0, 1) := by decide +kernel
theorem dX10_reading_12 : decode cX10_reading 12 = .ok (.getfield 26, 3) := by decide +kernel
theorem dX10_reading_15 : decode cX10_reading 15 = .ok (.iload_n 1, 1) := by decide +kernel
theorem dX10_reading_16 : decode cX10_reading 16 = .ok (.invokevirtual 166, 3) := by decide +kernel
theorem dX10_reading_19 : decode cX10_reading 19 = .ok (.goto 4, 3) := by decide +kernel
theorem dX10_reading_22 : decode cX10_reading 22 = .ok (.iconst (-1), 1) := by decide +kernel
theorem dX10_reading_23 : decode cX10_reading 23 = .ok (.ireturn, 1) := by decide +kernel
theorem dX10_cover_0 : decode cX10_cover 0 = .ok (.aload_n 0, 1) := by decide +kernel
theorem dX10_cover_1 : decode cX10_cover 1 = .ok (.getfield 26, 3) := by decide +kernel
theorem dX10_cover_4 : decode cX10_cover 4 = .ok (.iload_n 1, 1) := by decide +kernel
theorem dX10_cover_5 : decode cX10_cover 5 = .ok (.invokevirtual 121, 3) := by decide +kernel
theorem dX10_cover_8 : decode cX10_cover 8 = .ok (.ifCond .eq 26, 3) := by decide +kernel
theorem dX10_cover_11 : decode cX10_cover 11 = .ok (.aload_n 0, 1) := by decide +kernel
theorem dX10_cover_12 : decode cX10_cover 12 = .ok (.getfield 26, 3) := by decide +kernel
theorem dX10_cover_15 : decode cX10_cover 15 = .ok (.iload_n 2, 1) := by decide +kernel
theorem dX10_cover_16 : decode cX10_cover 16 = .ok (.invokevirtual 121, 3) := by decide +kernel
theorem dX10_cover_19 : decode cX10_cover 19 = .ok (.ifCond .eq 15, 3) := by decide +kernel
theorem dX10_cover_22 : decode cX10_cover 22 = .ok (.aload_n 0, 1) := by decide +kernel
theorem dX10_cover_23 : decode cX10_cover 23 = .ok (.getfield 26, 3) := by decide +kernel
theorem dX10_cover_26 : decode cX10_cover 26 = .ok (.iload_n 1, 1) := by decide +kernel
theorem dX10_cover_27 : decode cX10_cover 27 = .ok (.iload_n 2, 1) := by decide +kernel
theorem dX10_cover_28 : decode cX10_cover 28 = .ok (.invokevirtual 169, 3) := by decide +kernel
theorem dX10_cover_31 : decode cX10_cover 31 = .ok (.goto 4, 3) := by decide +kernel
theorem dX10_cover_34 : decode cX10_cover 34 = .ok (.iconst (-1), 1) := by decide +kernel
theorem dX10_cover_35 : decode cX10_cover 35 = .ok (.ireturn, 1) := by decide +kernel
theorem dX10_order_0 : decode cX10_order 0 = .ok (.aload_n 0, 1) := by decide +kernel
theorem dX10_order_1 : decode cX10_order 1 = .ok (.getfield 26, 3) := by decide +kernel
theorem dX10_order_4 : decode cX10_order 4 = .ok (.getfield 172, 3) := by decide +kernel
theorem dX10_order_7 : decode cX10_order 7 = .ok (.istore_n 1, 1) := by decide +kernel
theorem dX10_order_8 : decode cX10_order 8 = .ok (.aload_n 0, 1) := by decide +kernel
theorem dX10_order_9 : decode cX10_order 9 = .ok (.iload_n 1, 1) := by decide +kernel
theorem dX10_order_10 : decode cX10_order 10 = .ok (.invokevirtual 175, 3) := by decide +kernel
theorem dX10_order_13 : decode cX10_order 13 = .ok (.aload_n 0, 1) := by decide +kernel
theorem dX10_order_14 : decode cX10_order 14 = .ok (.getfield 44, 3) := by decide +kernel
theorem dX10_order_17 : decode cX10_order 17 = .ok (.iload_n 1, 1) := by decide +kernel
theorem dX10_order_18 : decode cX10_order 18 = .ok (.iload_n 1, 1) := by decide +kernel
theorem dX10_order_19 : decode cX10_order 19 = .ok (.iload_n 1, 1) := by decide +kernel
theorem dX10_order_20 : decode cX10_order 20 = .ok (.aload_n 0, 1) := by decide +kernel
theorem dX10_order_21 : decode cX10_order 21 = .ok (.getfield 26, 3) := by decide +kernel
theorem dX10_order_24 : decode cX10_order 24 = .ok (.getfield 153, 3) := by decide +kernel
theorem dX10_order_27 : decode cX10_order 27 = .ok (.getfield 178, 3) := by decide +kernel
theorem dX10_order_30 : decode cX10_order 30 = .ok (.invokevirtual 181, 3) := by decide +kernel
theorem dX10_order_33 : decode cX10_order 33 = .ok (.ireturn, 1) := by decide +kernel
theorem dX10_seen_0 : decode cX10_seen 0 = .ok (.aload_n 0, 1) := by decide +kernel
theorem dX10_seen_1 : decode cX10_seen 1 = .ok (.getfield 26, 3) := by decide +kernel
theorem dX10_seen_4 : decode cX10_seen 4 = .ok (.getfield 172, 3) := by decide +kernel
theorem dX10_seen_7 : decode cX10_seen 7 = .ok (.istore_n 1, 1) := by decide +kernel
theorem dX10_seen_8 : decode cX10_seen 8 = .ok (.aload_n 0, 1) := by decide +kernel
theorem dX10_seen_9 : decode cX10_seen 9 = .ok (.iload_n 1, 1) := by decide +kernel
theorem dX10_seen_10 : decode cX10_seen 10 = .ok (.invokevirtual 175, 3) := by decide +kernel
theorem dX10_seen_13 : decode cX10_seen 13 = .ok (.iconst 0, 1) := by decide +kernel
theorem dX10_seen_14 : decode cX10_seen 14 = .ok (.istore_n 2, 1) := by decide +kernel
theorem dX10_seen_15 : decode cX10_seen 15 = .ok (.iload_n 2, 1) := by decide +kernel
theorem dX10_seen_16 : decode cX10_seen 16 = .ok (.iload_n 1, 1) := by decide +kernel
theorem dX10_seen_17 : decode cX10_seen 17 = .ok (.if_icmp .ge 53, 3) := by decide +kernel
theorem dX10_seen_20 : decode cX10_seen 20 = .ok (.iconst 0, 1) := by decide +kernel
theorem dX10_seen_21 : decode cX10_seen 21 = .ok (.istore_n 3, 1) := by decide +kernel
theorem dX10_seen_22 : decode cX10_seen 22 = .ok (.iload_n 3, 1) := by decide +kernel
theorem dX10_seen_23 : decode cX10_seen 23 = .ok (.aload_n 0, 1) := by decide +kernel
theorem dX10_seen_24 : decode cX10_seen 24 = .ok (.getfield 26, 3) := by decide +kernel
theorem dX10_seen_27 : decode cX10_seen 27 = .ok (.getfield 153, 3) := by decide +kernel
theorem dX10_seen_30 : decode cX10_seen 30 = .ok (.getfield 185, 3) := by decide +kernel
theorem dX10_seen_33 : decode cX10_seen 33 = .ok (.if_icmp .ge 31, 3) := by decide +kernel
theorem dX10_seen_36 : decode cX10_seen 36 = .ok (.aload_n 0, 1) := by decide +kernel
theorem dX10_seen_37 : decode cX10_seen 37 = .ok (.getfield 44, 3) := by decide +kernel
theorem dX10_seen_40 : decode cX10_seen 40 = .ok (.getfield 188, 3) := by decide +kernel
theorem dX10_seen_43 : decode cX10_seen 43 = .ok (.iload_n 2, 1) := by decide +kernel
theorem dX10_seen_44 : decode cX10_seen 44 = .ok (.aaload, 1) := by decide +kernel
theorem dX10_seen_45 : decode cX10_seen 45 = .ok (.iload_n 1, 1) := by decide +kernel
theorem dX10_seen_46 : decode cX10_seen 46 = .ok (.iload_n 3, 1) := by decide +kernel
theorem dX10_seen_47 : decode cX10_seen 47 = .ok (.iadd, 1) := by decide +kernel
theorem dX10_seen_48 : decode cX10_seen 48 = .ok (.aload_n 0, 1) := by decide +kernel
theorem dX10_seen_49 : decode cX10_seen 49 = .ok (.getfield 26, 3) := by decide +kernel
theorem dX10_seen_52 : decode cX10_seen 52 = .ok (.iload_n 2, 1) := by decide +kernel
theorem dX10_seen_53 : decode cX10_seen 53 = .ok (.iload_n 3, 1) := by decide +kernel
theorem dX10_seen_54 : decode cX10_seen 54 = .ok (.invokevirtual 192, 3) := by decide +kernel
theorem dX10_seen_57 : decode cX10_seen 57 = .ok (.iastore, 1) := by decide +kernel
theorem dX10_seen_58 : decode cX10_seen 58 = .ok (.iinc 3 1, 3) := by decide +kernel
theorem dX10_seen_61 : decode cX10_seen 61 = .ok (.goto (-39), 3) := by decide +kernel
theorem dX10_seen_64 : decode cX10_seen 64 = .ok (.iinc 2 1, 3) := by decide +kernel
theorem dX10_seen_67 : decode cX10_seen 67 = .ok (.goto (-52), 3) := by decide +kernel
theorem dX10_seen_70 : decode cX10_seen 70 = .ok (.aload_n 0, 1) := by decide +kernel
theorem dX10_seen_71 : decode cX10_seen 71 = .ok (.getfield 44, 3) := by decide +kernel
theorem dX10_seen_74 : decode cX10_seen 74 = .ok (.iload_n 1, 1) := by decide +kernel
theorem dX10_seen_75 : decode cX10_seen 75 = .ok (.aload_n 0, 1) := by decide +kernel
theorem dX10_seen_76 : decode cX10_seen 76 = .ok (.getfield 26, 3) := by decide +kernel
theorem dX10_seen_79 : decode cX10_seen 79 = .ok (.getfield 153, 3) := by decide +kernel
theorem dX10_seen_82 : decode cX10_seen 82 = .ok (.invokevirtual 195, 3) := by decide +kernel
theorem dX10_seen_85 : decode cX10_seen 85 = .ok (.lreturn, 1) := by decide +kernel
theorem dX10_twins_0 : decode cX10_twins 0 = .ok (.aload_n 0, 1) := by decide +kernel
theorem dX10_twins_1 : decode cX10_twins 1 = .ok (.getfield 26, 3) := by decide +kernel
theorem dX10_twins_4 : decode cX10_twins 4 = .ok (.getfield 153, 3) := by decide +kernel
theorem dX10_twins_7 : decode cX10_twins 7 = .ok (.iload_n 1, 1) := by decide +kernel
theorem dX10_twins_8 : decode cX10_twins 8 = .ok (.invokevirtual 157, 3) := by decide +kernel
theorem dX10_twins_11 : decode cX10_twins 11 = .ok (.ifCond .eq 14, 3) := by decide +kernel
theorem dX10_twins_14 : decode cX10_twins 14 = .ok (.aload_n 0, 1) := by decide +kernel
theorem dX10_twins_15 : decode cX10_twins 15 = .ok (.getfield 26, 3) := by decide +kernel
theorem dX10_twins_18 : decode cX10_twins 18 = .ok (.iload_n 1, 1) := by decide +kernel
theorem dX10_twins_19 : decode cX10_twins 19 = .ok (.invokevirtual 199, 3) := by decide +kernel
theorem dX10_twins_22 : decode cX10_twins 22 = .ok (.goto 6, 3) := by decide +kernel
theorem dX10_twins_25 : decode cX10_twins 25 = .ok (.ldc2_w 203, 3) := by decide +kernel
theorem dX10_twins_28 : decode cX10_twins 28 = .ok (.lreturn, 1) := by decide +kernel
theorem dX10_smoothed_0 : decode cX10_smoothed 0 = .ok (.aload_n 0, 1) := by decide +kernel
theorem dX10_smoothed_1 : decode cX10_smoothed 1 = .ok (.iload_n 1, 1) := by decide +kernel
theorem dX10_smoothed_2 : decode cX10_smoothed 2 = .ok (.invokevirtual 205, 3) := by decide +kernel
theorem dX10_smoothed_5 : decode cX10_smoothed 5 = .ok (.ifCond .ne 5, 3) := by decide +kernel
theorem dX10_smoothed_8 : decode cX10_smoothed 8 = .ok (.iconst (-1), 1) := by decide +kernel
theorem dX10_smoothed_9 : decode cX10_smoothed 9 = .ok (.ireturn, 1) := by decide +kernel
theorem dX10_smoothed_10 : decode cX10_smoothed 10 = .ok (.aload_n 0, 1) := by decide +kernel
theorem dX10_smoothed_11 : decode cX10_smoothed 11 = .ok (.iload_n 1, 1) := by decide +kernel
theorem dX10_smoothed_12 : decode cX10_smoothed 12 = .ok (.invokevirtual 175, 3) := by decide +kernel
theorem dX10_smoothed_15 : decode cX10_smoothed 15 = .ok (.aload_n 0, 1) := by decide +kernel
theorem dX10_smoothed_16 : decode cX10_smoothed 16 = .ok (.getfield 44, 3) := by decide +kernel
theorem dX10_smoothed_19 : decode cX10_smoothed 19 = .ok (.iload_n 1, 1) := by decide +kernel
theorem dX10_smoothed_20 : decode cX10_smoothed 20 = .ok (.iload_n 1, 1) := by decide +kernel
theorem dX10_smoothed_21 : decode cX10_smoothed 21 = .ok (.iload_n 1, 1) := by decide +kernel
theorem dX10_smoothed_22 : decode cX10_smoothed 22 = .ok (.aload_n 0, 1) := by decide +kernel
theorem dX10_smoothed_23 : decode cX10_smoothed 23 = .ok (.getfield 26, 3) := by decide +kernel
theorem dX10_smoothed_26 : decode cX10_smoothed 26 = .ok (.getfield 153, 3) := by decide +kernel
theorem dX10_smoothed_29 : decode cX10_smoothed 29 = .ok (.getfield 178, 3) := by decide +kernel
theorem dX10_smoothed_32 : decode cX10_smoothed 32 = .ok (.invokevirtual 181, 3) := by decide +kernel
theorem dX10_smoothed_35 : decode cX10_smoothed 35 = .ok (.ireturn, 1) := by decide +kernel
theorem dX10_smoothSeen_0 : decode cX10_smoothSeen 0 = .ok (.aload_n 0, 1) := by decide +kernel
theorem dX10_smoothSeen_1 : decode cX10_smoothSeen 1 = .ok (.iload_n 1, 1) := by decide +kernel
theorem dX10_smoothSeen_2 : decode cX10_smoothSeen 2 = .ok (.invokevirtual 205, 3) := by decide +kernel
theorem dX10_smoothSeen_5 : decode cX10_smoothSeen 5 = .ok (.ifCond .ne 7, 3) := by decide +kernel
theorem dX10_smoothSeen_8 : decode cX10_smoothSeen 8 = .ok (.ldc2_w 203, 3) := by decide +kernel
theorem dX10_smoothSeen_11 : decode cX10_smoothSeen 11 = .ok (.lreturn, 1) := by decide +kernel
theorem dX10_smoothSeen_12 : decode cX10_smoothSeen 12 = .ok (.aload_n 0, 1) := by decide +kernel
theorem dX10_smoothSeen_13 : decode cX10_smoothSeen 13 = .ok (.iload_n 1, 1) := by decide +kernel
theorem dX10_smoothSeen_14 : decode cX10_smoothSeen 14 = .ok (.invokevirtual 175, 3) := by decide +kernel
theorem dX10_smoothSeen_17 : decode cX10_smoothSeen 17 = .ok (.iconst 0, 1) := by decide +kernel
theorem dX10_smoothSeen_18 : decode cX10_smoothSeen 18 = .ok (.istore_n 2, 1) := by decide +kernel
theorem dX10_smoothSeen_19 : decode cX10_smoothSeen 19 = .ok (.iload_n 2, 1) := by decide +kernel
theorem dX10_smoothSeen_20 : decode cX10_smoothSeen 20 = .ok (.iload_n 1, 1) := by decide +kernel
theorem dX10_smoothSeen_21 : decode cX10_smoothSeen 21 = .ok (.if_icmp .ge 56, 3) := by decide +kernel
theorem dX10_smoothSeen_24 : decode cX10_smoothSeen 24 = .ok (.iconst 0, 1) := by decide +kernel
theorem dX10_smoothSeen_25 : decode cX10_smoothSeen 25 = .ok (.istore_n 3, 1) := by decide +kernel
theorem dX10_smoothSeen_26 : decode cX10_smoothSeen 26 = .ok (.iload_n 3, 1) := by decide +kernel
theorem dX10_smoothSeen_27 : decode cX10_smoothSeen 27 = .ok (.aload_n 0, 1) := by decide +kernel
theorem dX10_smoothSeen_28 : decode cX10_smoothSeen 28 = .ok (.getfield 26, 3) := by decide +kernel
theorem dX10_smoothSeen_31 : decode cX10_smoothSeen 31 = .ok (.getfield 153, 3) := by decide +kernel
theorem dX10_smoothSeen_34 : decode cX10_smoothSeen 34 = .ok (.getfield 185, 3) := by decide +kernel
theorem dX10_smoothSeen_37 : decode cX10_smoothSeen 37 = .ok (.if_icmp .ge 34, 3) := by decide +kernel
theorem dX10_smoothSeen_40 : decode cX10_smoothSeen 40 = .ok (.aload_n 0, 1) := by decide +kernel
theorem dX10_smoothSeen_41 : decode cX10_smoothSeen 41 = .ok (.getfield 44, 3) := by decide +kernel
theorem dX10_smoothSeen_44 : decode cX10_smoothSeen 44 = .ok (.getfield 188, 3) := by decide +kernel
theorem dX10_smoothSeen_47 : decode cX10_smoothSeen 47 = .ok (.iload_n 2, 1) := by decide +kernel
theorem dX10_smoothSeen_48 : decode cX10_smoothSeen 48 = .ok (.aaload, 1) := by decide +kernel
theorem dX10_smoothSeen_49 : decode cX10_smoothSeen 49 = .ok (.iload_n 1, 1) := by decide +kernel
theorem dX10_smoothSeen_50 : decode cX10_smoothSeen 50 = .ok (.iload_n 3, 1) := by decide +kernel
theorem dX10_smoothSeen_51 : decode cX10_smoothSeen 51 = .ok (.iadd, 1) := by decide +kernel
theorem dX10_smoothSeen_52 : decode cX10_smoothSeen 52 = .ok (.aload_n 0, 1) := by decide +kernel
theorem dX10_smoothSeen_53 : decode cX10_smoothSeen 53 = .ok (.getfield 26, 3) := by decide +kernel
theorem dX10_smoothSeen_56 : decode cX10_smoothSeen 56 = .ok (.getfield 153, 3) := by decide +kernel
theorem dX10_smoothSeen_59 : decode cX10_smoothSeen 59 = .ok (.iload_n 3, 1) := by decide +kernel
theorem dX10_smoothSeen_60 : decode cX10_smoothSeen 60 = .ok (.iload_n 2, 1) := by decide +kernel
theorem dX10_smoothSeen_61 : decode cX10_smoothSeen 61 = .ok (.invokevirtual 162, 3) := by decide +kernel
theorem dX10_smoothSeen_64 : decode cX10_smoothSeen 64 = .ok (.iastore, 1) := by decide +kernel
theorem dX10_smoothSeen_65 : decode cX10_smoothSeen 65 = .ok (.iinc 3 1, 3) := by decide +kernel
theorem dX10_smoothSeen_68 : decode cX10_smoothSeen 68 = .ok (.goto (-42), 3) := by decide +kernel
theorem dX10_smoothSeen_71 : decode cX10_smoothSeen 71 = .ok (.iinc 2 1, 3) := by decide +kernel
theorem dX10_smoothSeen_74 : decode cX10_smoothSeen 74 = .ok (.goto (-55), 3) := by decide +kernel
theorem dX10_smoothSeen_77 : decode cX10_smoothSeen 77 = .ok (.aload_n 0, 1) := by decide +kernel
theorem dX10_smoothSeen_78 : decode cX10_smoothSeen 78 = .ok (.getfield 44, 3) := by decide +kernel
theorem dX10_smoothSeen_81 : decode cX10_smoothSeen 81 = .ok (.iload_n 1, 1) := by decide +kernel
theorem dX10_smoothSeen_82 : decode cX10_smoothSeen 82 = .ok (.aload_n 0, 1) := by decide +kernel
theorem dX10_smoothSeen_83 : decode cX10_smoothSeen 83 = .ok (.getfield 26, 3) := by decide +kernel
theorem dX10_smoothSeen_86 : decode cX10_smoothSeen 86 = .ok (.getfield 153, 3) := by decide +kernel
theorem dX10_smoothSeen_89 : decode cX10_smoothSeen 89 = .ok (.invokevirtual 195, 3) := by decide +kernel
theorem dX10_smoothSeen_92 : decode cX10_smoothSeen 92 = .ok (.lreturn, 1) := by decide +kernel
theorem dX10_apart_0 : decode cX10_apart 0 = .ok (.iload_n 1, 1) := by decide +kernel
theorem dX10_apart_1 : decode cX10_apart 1 = .ok (.ifCond .lt 9, 3) := by decide +kernel
theorem dX10_apart_4 : decode cX10_apart 4 = .ok (.iload_n 1, 1) := by decide +kernel
theorem dX10_apart_5 : decode cX10_apart 5 = .ok (.bipush 99, 2) := by decide +kernel
theorem dX10_apart_7 : decode cX10_apart 7 = .ok (.if_icmp .le 7, 3) := by decide +kernel
theorem dX10_apart_10 : decode cX10_apart 10 = .ok (.iconst (-1), 1) := by decide +kernel
theorem dX10_apart_11 : decode cX10_apart 11 = .ok (.goto 11, 3) := by decide +kernel
theorem dX10_apart_14 : decode cX10_apart 14 = .ok (.aload_n 0, 1) := by decide +kernel
theorem dX10_apart_15 : decode cX10_apart 15 = .ok (.getfield 26, 3) := by decide +kernel
theorem dX10_apart_18 : decode cX10_apart 18 = .ok (.iload_n 1, 1) := by decide +kernel
theorem dX10_apart_19 : decode cX10_apart 19 = .ok (.invokevirtual 208, 3) := by decide +kernel
theorem dX10_apart_22 : decode cX10_apart 22 = .ok (.ireturn, 1) := by decide +kernel
theorem dX10_run_0 : decode cX10_run 0 = .ok (.aload_n 0, 1) := by decide +kernel
theorem dX10_run_1 : decode cX10_run 1 = .ok (.getfield 26, 3) := by decide +kernel
theorem dX10_run_4 : decode cX10_run 4 = .ok (.invokevirtual 211, 3) := by decide +kernel
theorem dX10_run_7 : decode cX10_run 7 = .ok (.ireturn, 1) := by decide +kernel
theorem dX10_lag_0 : decode cX10_lag 0 = .ok (.iload_n 1, 1) := by decide +kernel
theorem dX10_lag_1 : decode cX10_lag 1 = .ok (.ifCond .lt 20, 3) := by decide +kernel
theorem dX10_lag_4 : decode cX10_lag 4 = .ok (.iload_n 1, 1) := by decide +kernel
theorem dX10_lag_5 : decode cX10_lag 5 = .ok (.bipush 99, 2) := by decide +kernel
theorem dX10_lag_7 : decode cX10_lag 7 = .ok (.if_icmp .gt 14, 3) := by decide +kernel
theorem dX10_lag_10 : decode cX10_lag 10 = .ok (.aload_n 0, 1) := by decide +kernel
theorem dX10_lag_11 : decode cX10_lag 11 = .ok (.getfield 26, 3) := by decide +kernel
theorem dX10_lag_14 : decode cX10_lag 14 = .ok (.iload_n 1, 1) := by decide +kernel
theorem dX10_lag_15 : decode cX10_lag 15 = .ok (.invokevirtual 208, 3) := by decide +kernel
theorem dX10_lag_18 : decode cX10_lag 18 = .ok (.ifCond .ne 7, 3) := by decide +kernel
theorem dX10_lag_21 : decode cX10_lag 21 = .ok (.iconst (-1), 1) := by decide +kernel
theorem dX10_lag_22 : decode cX10_lag 22 = .ok (.goto 11, 3) := by decide +kernel
theorem dX10_lag_25 : decode cX10_lag 25 = .ok (.aload_n 0, 1) := by decide +kernel
theorem dX10_lag_26 : decode cX10_lag 26 = .ok (.getfield 26, 3) := by decide +kernel
theorem dX10_lag_29 : decode cX10_lag 29 = .ok (.iload_n 1, 1) := by decide +kernel
theorem dX10_lag_30 : decode cX10_lag 30 = .ok (.invokevirtual 215, 3) := by decide +kernel
theorem dX10_lag_33 : decode cX10_lag 33 = .ok (.ireturn, 1) := by decide +kernel
theorem dX10_rule_0 : decode cX10_rule 0 = .ok (.aload_n 0, 1) := by decide +kernel
theorem dX10_rule_1 : decode cX10_rule 1 = .ok (.getfield 26, 3) := by decide +kernel
theorem dX10_rule_4 : decode cX10_rule 4 = .ok (.getfield 172, 3) := by decide +kernel
theorem dX10_rule_7 : decode cX10_rule 7 = .ok (.ifCond .eq 12, 3) := by decide +kernel
theorem dX10_rule_10 : decode cX10_rule 10 = .ok (.iload_n 1, 1) := by decide +kernel
theorem dX10_rule_11 : decode cX10_rule 11 = .ok (.ifCond .lt 8, 3) := by decide +kernel
theorem dX10_rule_14 : decode cX10_rule 14 = .ok (.iload_n 1, 1) := by decide +kernel
theorem dX10_rule_15 : decode cX10_rule 15 = .ok (.iconst 1, 1) := by decide +kernel
theorem dX10_rule_16 : decode cX10_rule 16 = .ok (.if_icmp .le 5, 3) := by decide +kernel
theorem dX10_rule_19 : decode cX10_rule 19 = .ok (.iconst (-1), 1) := by decide +kernel
theorem dX10_rule_20 : decode cX10_rule 20 = .ok (.ireturn, 1) := by decide +kernel
theorem dX10_rule_21 : decode cX10_rule 21 = .ok (.iload_n 1, 1) := by decide +kernel
theorem dX10_rule_22 : decode cX10_rule 22 = .ok (.ifCond .ne 15, 3) := by decide +kernel
theorem dX10_rule_25 : decode cX10_rule 25 = .ok (.aload_n 0, 1) := by decide +kernel
theorem dX10_rule_26 : decode cX10_rule 26 = .ok (.getfield 26, 3) := by decide +kernel
theorem dX10_rule_29 : decode cX10_rule 29 = .ok (.invokevirtual 218, 3) := by decide +kernel
theorem dX10_rule_32 : decode cX10_rule 32 = .ok (.ifCond .ne 5, 3) := by decide +kernel
theorem dX10_rule_35 : decode cX10_rule 35 = .ok (.iconst (-1), 1) := by decide +kernel
theorem dX10_rule_36 : decode cX10_rule 36 = .ok (.ireturn, 1) := by decide +kernel
theorem dX10_rule_37 : decode cX10_rule 37 = .ok (.iload_n 1, 1) := by decide +kernel
theorem dX10_rule_38 : decode cX10_rule 38 = .ok (.ifCond .ne 13, 3) := by decide +kernel
theorem dX10_rule_41 : decode cX10_rule 41 = .ok (.aload_n 0, 1) := by decide +kernel
theorem dX10_rule_42 : decode cX10_rule 42 = .ok (.getfield 26, 3) := by decide +kernel
theorem dX10_rule_45 : decode cX10_rule 45 = .ok (.getfield 172, 3) := by decide +kernel
theorem dX10_rule_48 : decode cX10_rule 48 = .ok (.goto 12, 3) := by decide +kernel
theorem dX10_rule_51 : decode cX10_rule 51 = .ok (.aload_n 0, 1) := by decide +kernel
theorem dX10_rule_52 : decode cX10_rule 52 = .ok (.getfield 26, 3) := by decide +kernel
theorem dX10_rule_55 : decode cX10_rule 55 = .ok (.invokevirtual 211, 3) := by decide +kernel
theorem dX10_rule_58 : decode cX10_rule 58 = .ok (.iconst 1, 1) := by decide +kernel
theorem dX10_rule_59 : decode cX10_rule 59 = .ok (.iadd, 1) := by decide +kernel
theorem dX10_rule_60 : decode cX10_rule 60 = .ok (.istore_n 2, 1) := by decide +kernel
theorem dX10_rule_61 : decode cX10_rule 61 = .ok (.iconst 0, 1) := by decide +kernel
theorem dX10_rule_62 : decode cX10_rule 62 = .ok (.istore_n 3, 1) := by decide +kernel
theorem dX10_rule_63 : decode cX10_rule 63 = .ok (.iload_n 3, 1) := by decide +kernel
theorem dX10_rule_64 : decode cX10_rule 64 = .ok (.iload_n 2, 1) := by decide +kernel
theorem dX10_rule_65 : decode cX10_rule 65 = .ok (.if_icmp .ge 47, 3) := by decide +kernel
theorem dX10_rule_68 : decode cX10_rule 68 = .ok (.iload_n 3, 1) := by decide +kernel
theorem dX10_rule_69 : decode cX10_rule 69 = .ok (.bipush 46, 2) := by decide +kernel
theorem dX10_rule_71 : decode cX10_rule 71 = .ok (.if_icmp .ge 41, 3) := by decide +kernel
theorem dX10_rule_74 : decode cX10_rule 74 = .ok (.aload_n 0, 1) := by decide +kernel
theorem dX10_rule_75 : decode cX10_rule 75 = .ok (.getfield 51, 3) := by decide +kernel
theorem dX10_rule_78 : decode cX10_rule 78 = .ok (.getfield 221, 3) := by decide +kernel
theorem dX10_rule_81 : decode cX10_rule 81 = .ok (.iload_n 3, 1) := by decide +kernel
theorem dX10_rule_82 : decode cX10_rule 82 = .ok (.iload_n 1, 1) := by decide +kernel
theorem dX10_rule_83 : decode cX10_rule 83 = .ok (.ifCond .ne 14, 3) := by decide +kernel
theorem dX10_rule_86 : decode cX10_rule 86 = .ok (.aload_n 0, 1) := by decide +kernel
theorem dX10_rule_87 : decode cX10_rule 87 = .ok (.getfield 26, 3) := by decide +kernel
theorem dX10_rule_90 : decode cX10_rule 90 = .ok (.iload_n 3, 1) := by decide +kernel
theorem dX10_rule_91 : decode cX10_rule 91 = .ok (.invokevirtual 166, 3) := by decide +kernel
theorem dX10_rule_94 : decode cX10_rule 94 = .ok (.goto 11, 3) := by decide +kernel
theorem dX10_rule_97 : decode cX10_rule 97 = .ok (.aload_n 0, 1) := by decide +kernel
theorem dX10_rule_98 : decode cX10_rule 98 = .ok (.getfield 26, 3) := by decide +kernel
theorem dX10_rule_101 : decode cX10_rule 101 = .ok (.iload_n 3, 1) := by decide +kernel
theorem dX10_rule_102 : decode cX10_rule 102 = .ok (.invokevirtual 215, 3) := by decide +kernel
theorem dX10_rule_105 : decode cX10_rule 105 = .ok (.iastore, 1) := by decide +kernel
theorem dX10_rule_106 : decode cX10_rule 106 = .ok (.iinc 3 1, 3) := by decide +kernel
theorem dX10_rule_109 : decode cX10_rule 109 = .ok (.goto (-46), 3) := by decide +kernel
theorem dX10_rule_112 : decode cX10_rule 112 = .ok (.aload_n 0, 1) := by decide +kernel
theorem dX10_rule_113 : decode cX10_rule 113 = .ok (.getfield 51, 3) := by decide +kernel
theorem dX10_rule_116 : decode cX10_rule 116 = .ok (.iload_n 2, 1) := by decide +kernel
theorem dX10_rule_117 : decode cX10_rule 117 = .ok (.aload_n 0, 1) := by decide +kernel
theorem dX10_rule_118 : decode cX10_rule 118 = .ok (.getfield 26, 3) := by decide +kernel
theorem dX10_rule_121 : decode cX10_rule 121 = .ok (.getfield 153, 3) := by decide +kernel
theorem dX10_rule_124 : decode cX10_rule 124 = .ok (.aload_n 0, 1) := by decide +kernel
theorem dX10_rule_125 : decode cX10_rule 125 = .ok (.getfield 44, 3) := by decide +kernel
theorem dX10_rule_128 : decode cX10_rule 128 = .ok (.invokevirtual 224, 3) := by decide +kernel
theorem dX10_rule_131 : decode cX10_rule 131 = .ok (.aload_n 0, 1) := by decide +kernel
theorem dX10_rule_132 : decode cX10_rule 132 = .ok (.getfield 51, 3) := by decide +kernel
theorem dX10_rule_135 : decode cX10_rule 135 = .ok (.getfield 228, 3) := by decide +kernel
theorem dX10_rule_138 : decode cX10_rule 138 = .ok (.getfield 231, 3) := by decide +kernel
theorem dX10_rule_141 : decode cX10_rule 141 = .ok (.ireturn, 1) := by decide +kernel
theorem dX10_ruleAt_0 : decode cX10_ruleAt 0 = .ok (.iload_n 1, 1) := by decide +kernel
theorem dX10_ruleAt_1 : decode cX10_ruleAt 1 = .ok (.iconst 1, 1) := by decide +kernel
theorem dX10_ruleAt_2 : decode cX10_ruleAt 2 = .ok (.if_icmp .ge 7, 3) := by decide +kernel
theorem dX10_ruleAt_5 : decode cX10_ruleAt 5 = .ok (.iconst (-1), 1) := by decide +kernel
theorem dX10_ruleAt_6 : decode cX10_ruleAt 6 = .ok (.goto 16, 3) := by decide +kernel
theorem dX10_ruleAt_9 : decode cX10_ruleAt 9 = .ok (.aload_n 0, 1) := by decide +kernel
theorem dX10_ruleAt_10 : decode cX10_ruleAt 10 = .ok (.getfield 51, 3) := by decide +kernel
theorem dX10_ruleAt_13 : decode cX10_ruleAt 13 = .ok (.getfield 228, 3) := by decide +kernel
theorem dX10_ruleAt_16 : decode cX10_ruleAt 16 = .ok (.iload_n 1, 1) := by decide +kernel
theorem dX10_ruleAt_17 : decode cX10_ruleAt 17 = .ok (.iconst 1, 1) := by decide +kernel
theorem dX10_ruleAt_18 : decode cX10_ruleAt 18 = .ok (.isub, 1) := by decide +kernel
theorem dX10_ruleAt_19 : decode cX10_ruleAt 19 = .ok (.invokevirtual 234, 3) := by decide +kernel
theorem dX10_ruleAt_22 : decode cX10_ruleAt 22 = .ok (.ireturn, 1) := by decide +kernel
theorem dX10_roots_0 : decode cX10_roots 0 = .ok (.aload_n 0, 1) := by decide +kernel
theorem dX10_roots_1 : decode cX10_roots 1 = .ok (.getfield 51, 3) := by decide +kernel
theorem dX10_roots_4 : decode cX10_roots 4 = .ok (.getfield 237, 3) := by decide +kernel
theorem dX10_roots_7 : decode cX10_roots 7 = .ok (.lreturn, 1) := by decide +kernel
theorem dX10_strength_0 : decode cX10_strength 0 = .ok (.aload_n 0, 1) := by decide +kernel
theorem dX10_strength_1 : decode cX10_strength 1 = .ok (.getfield 51, 3) := by decide +kernel
theorem dX10_strength_4 : decode cX10_strength 4 = .ok (.getfield 241, 3) := by decide +kernel
theorem dX10_strength_7 : decode cX10_strength 7 = .ok (.iload_n 1, 1) := by decide +kernel
theorem dX10_strength_8 : decode cX10_strength 8 = .ok (.invokevirtual 234, 3) := by decide +kernel
theorem dX10_strength_11 : decode cX10_strength 11 = .ok (.ireturn, 1) := by decide +kernel
theorem dX10_tracks_0 : decode cX10_tracks 0 = .ok (.aload_n 0, 1) := by decide +kernel
theorem dX10_tracks_1 : decode cX10_tracks 1 = .ok (.invokevirtual 244, 3) := by decide +kernel
theorem dX10_tracks_4 : decode cX10_tracks 4 = .ok (.istore_n 2, 1) := by decide +kernel
theorem dX10_tracks_5 : decode cX10_tracks 5 = .ok (.aload_n 0, 1) := by decide +kernel
theorem dX10_tracks_6 : decode cX10_tracks 6 = .ok (.getfield 26, 3) := by decide +kernel
theorem dX10_tracks_9 : decode cX10_tracks 9 = .ok (.iload_n 1, 1) := by decide +kernel
theorem dX10_tracks_10 : decode cX10_tracks 10 = .ok (.invokevirtual 121, 3) := by decide +kernel
theorem dX10_tracks_13 : decode cX10_tracks 13 = .ok (.ifCond .eq 14, 3) := by decide +kernel
theorem dX10_tracks_16 : decode cX10_tracks 16 = .ok (.iload_n 2, 1) := by decide +kernel
theorem dX10_tracks_17 : decode cX10_tracks 17 = .ok (.iconst 1, 1) := by decide +kernel
theorem dX10_tracks_18 : decode cX10_tracks 18 = .ok (.if_icmp .lt 9, 3) := by decide +kernel
theorem dX10_tracks_21 : decode cX10_tracks 21 = .ok (.iload_n 2, 1) := by decide +kernel
theorem dX10_tracks_22 : decode cX10_tracks 22 = .ok (.bipush 8, 2) := by decide +kernel
theorem dX10_tracks_24 : decode cX10_tracks 24 = .ok (.if_icmp .le 5, 3) := by decide +kernel
theorem dX10_tracks_27 : decode cX10_tracks 27 = .ok (.iconst (-1), 1) := by decide +kernel
theorem dX10_tracks_28 : decode cX10_tracks 28 = .ok (.ireturn, 1) := by decide +kernel
theorem dX10_tracks_29 : decode cX10_tracks 29 = .ok (.aload_n 0, 1) := by decide +kernel
theorem dX10_tracks_30 : decode cX10_tracks 30 = .ok (.getfield 26, 3) := by decide +kernel
theorem dX10_tracks_33 : decode cX10_tracks 33 = .ok (.getfield 153, 3) := by decide +kernel
theorem dX10_tracks_36 : decode cX10_tracks 36 = .ok (.astore_n 3, 1) := by decide +kernel
theorem dX10_tracks_37 : decode cX10_tracks 37 = .ok (.aload_n 0, 1) := by decide +kernel
theorem dX10_tracks_38 : decode cX10_tracks 38 = .ok (.getfield 26, 3) := by decide +kernel
theorem dX10_tracks_41 : decode cX10_tracks 41 = .ok (.getfield 131, 3) := by decide +kernel
theorem dX10_tracks_44 : decode cX10_tracks 44 = .ok (.iload_n 1, 1) := by decide +kernel
theorem dX10_tracks_45 : decode cX10_tracks 45 = .ok (.iaload, 1) := by decide +kernel
theorem dX10_tracks_46 : decode cX10_tracks 46 = .ok (.ifCond .ne 9, 3) := by decide +kernel
theorem dX10_tracks_49 : decode cX10_tracks 49 = .ok (.aload_n 0, 1) := by decide +kernel
theorem dX10_tracks_50 : decode cX10_tracks 50 = .ok (.iload_n 2, 1) := by decide +kernel
theorem dX10_tracks_51 : decode cX10_tracks 51 = .ok (.invokevirtual 247, 3) := by decide +kernel
theorem dX10_tracks_54 : decode cX10_tracks 54 = .ok (.ireturn, 1) := by decide +kernel
theorem dX10_tracks_55 : decode cX10_tracks 55 = .ok (.iconst 0, 1) := by decide +kernel
theorem dX10_tracks_56 : decode cX10_tracks 56 = .ok (.istore 4, 2) := by decide +kernel
theorem dX10_tracks_58 : decode cX10_tracks 58 = .ok (.iconst (-1), 1) := by decide +kernel
theorem dX10_tracks_59 : decode cX10_tracks 59 = .ok (.istore 5, 2) := by decide +kernel
theorem dX10_tracks_61 : decode cX10_tracks 61 = .ok (.iconst 0, 1) := by decide +kernel
theorem dX10_tracks_62 : decode cX10_tracks 62 = .ok (.istore 6, 2) := by decide +kernel
theorem dX10_tracks_64 : decode cX10_tracks 64 = .ok (.iload 6, 2) := by decide +kernel
theorem dX10_tracks_66 : decode cX10_tracks 66 = .ok (.aload_n 3, 1) := by decide +kernel
theorem dX10_tracks_67 : decode cX10_tracks 67 = .ok (.getfield 185, 3) := by decide +kernel
theorem dX10_tracks_70 : decode cX10_tracks 70 = .ok (.if_icmp .ge 46, 3) := by decide +kernel
theorem dX10_tracks_73 : decode cX10_tracks 73 = .ok (.aload_n 0, 1) := by decide +kernel
theorem dX10_tracks_74 : decode cX10_tracks 74 = .ok (.iload 6, 2) := by decide +kernel
theorem dX10_tracks_76 : decode cX10_tracks 76 = .ok (.aload_n 0, 1) := by decide +kernel
theorem dX10_tracks_77 : decode cX10_tracks 77 = .ok (.getfield 26, 3) := by decide +kernel
theorem dX10_tracks_80 : decode cX10_tracks 80 = .ok (.getfield 128, 3) := by decide +kernel
theorem dX10_tracks_83 : decode cX10_tracks 83 = .ok (.iload_n 1, 1) := by decide +kernel
theorem dX10_tracks_84 : decode cX10_tracks 84 = .ok (.iaload, 1) := by decide +kernel
theorem dX10_tracks_85 : decode cX10_tracks 85 = .ok (.iload_n 2, 1) := by decide +kernel
theorem dX10_tracks_86 : decode cX10_tracks 86 = .ok (.invokevirtual 250, 3) := by decide +kernel
theorem dX10_tracks_89 : decode cX10_tracks 89 = .ok (.ifCond .eq 21, 3) := by decide +kernel
theorem dX10_tracks_92 : decode cX10_tracks 92 = .ok (.iinc 4 1, 3) := by decide +kernel
theorem dX10_tracks_95 : decode cX10_tracks 95 = .ok (.iload 5, 2) := by decide +kernel
theorem dX10_tracks_97 : decode cX10_tracks 97 = .ok (.iconst (-1), 1) := by decide +kernel
theorem dX10_tracks_98 : decode cX10_tracks 98 = .ok (.if_icmp .ne 8, 3) := by decide +kernel
theorem dX10_tracks_101 : decode cX10_tracks 101 = .ok (.iload 6, 2) := by decide +kernel
theorem dX10_tracks_103 : decode cX10_tracks 103 = .ok (.goto 5, 3) := by decide +kernel
theorem dX10_tracks_106 : decode cX10_tracks 106 = .ok (.iload 5, 2) := by decide +kernel
theorem dX10_tracks_108 : decode cX10_tracks 108 = .ok (.istore 5, 2) := by decide +kernel
theorem dX10_tracks_110 : decode cX10_tracks 110 = .ok (.iinc 6 1, 3) := by decide +kernel
theorem dX10_tracks_113 : decode cX10_tracks 113 = .ok (.goto (-49), 3) := by decide +kernel
theorem dX10_tracks_116 : decode cX10_tracks 116 = .ok (.iload 4, 2) := by decide +kernel
theorem dX10_tracks_118 : decode cX10_tracks 118 = .ok (.ifCond .le 42, 3) := by decide +kernel
theorem dX10_tracks_121 : decode cX10_tracks 121 = .ok (.aload_n 0, 1) := by decide +kernel
theorem dX10_tracks_122 : decode cX10_tracks 122 = .ok (.getfield 69, 3) := by decide +kernel
theorem dX10_tracks_125 : decode cX10_tracks 125 = .ok (.iconst 0, 1) := by decide +kernel
theorem dX10_tracks_126 : decode cX10_tracks 126 = .ok (.iaload, 1) := by decide +kernel
theorem dX10_tracks_127 : decode cX10_tracks 127 = .ok (.aload_n 0, 1) := by decide +kernel
theorem dX10_tracks_128 : decode cX10_tracks 128 = .ok (.getfield 26, 3) := by decide +kernel
theorem dX10_tracks_131 : decode cX10_tracks 131 = .ok (.getfield 131, 3) := by decide +kernel
theorem dX10_tracks_134 : decode cX10_tracks 134 = .ok (.iload_n 1, 1) := by decide +kernel
theorem dX10_tracks_135 : decode cX10_tracks 135 = .ok (.iaload, 1) := by decide +kernel
theorem dX10_tracks_136 : decode cX10_tracks 136 = .ok (.aload_n 3, 1) := by decide +kernel
theorem dX10_tracks_137 : decode cX10_tracks 137 = .ok (.getfield 178, 3) := by decide +kernel
theorem dX10_tracks_140 : decode cX10_tracks 140 = .ok (.invokestatic 254, 3) := by decide +kernel
theorem dX10_tracks_143 : decode cX10_tracks 143 = .ok (.aload_n 3, 1) := by decide +kernel
theorem dX10_tracks_144 : decode cX10_tracks 144 = .ok (.getfield 178, 3) := by decide +kernel
theorem dX10_tracks_147 : decode cX10_tracks 147 = .ok (.invokestatic 257, 3) := by decide +kernel
theorem dX10_tracks_150 : decode cX10_tracks 150 = .ok (.istore 6, 2) := by decide +kernel
theorem dX10_tracks_152 : decode cX10_tracks 152 = .ok (.aload_n 0, 1) := by decide +kernel
theorem dX10_tracks_153 : decode cX10_tracks 153 = .ok (.iload 5, 2) := by decide +kernel
theorem dX10_tracks_155 : decode cX10_tracks 155 = .ok (.iload 6, 2) := by decide +kernel
theorem dX10_tracks_157 : decode cX10_tracks 157 = .ok (.invokevirtual 261, 3) := by decide +kernel
theorem dX10_tracks_160 : decode cX10_tracks 160 = .ok (.iload 4, 2) := by decide +kernel
theorem dX10_tracks_162 : decode cX10_tracks 162 = .ok (.aload_n 3, 1) := by decide +kernel
theorem dX10_tracks_163 : decode cX10_tracks 163 = .ok (.getfield 185, 3) := by decide +kernel
theorem dX10_tracks_166 : decode cX10_tracks 166 = .ok (.imul, 1) := by decide +kernel
theorem dX10_tracks_167 : decode cX10_tracks 167 = .ok (.ireturn, 1) := by decide +kernel
theorem dX10_track_0 : decode cX10_track 0 = .ok (.aload_n 0, 1) := by decide +kernel
theorem dX10_track_1 : decode cX10_track 1 = .ok (.getfield 78, 3) := by decide +kernel
theorem dX10_track_4 : decode cX10_track 4 = .ok (.iload_n 1, 1) := by decide +kernel
theorem dX10_track_5 : decode cX10_track 5 = .ok (.invokevirtual 234, 3) := by decide +kernel
theorem dX10_track_8 : decode cX10_track 8 = .ok (.ireturn, 1) := by decide +kernel
theorem dX10_enough_0 : decode cX10_enough 0 = .ok (.iconst (-1), 1) := by decide +kernel
theorem dX10_enough_1 : decode cX10_enough 1 = .ok (.istore_n 1, 1) := by decide +kernel
theorem dX10_enough_2 : decode cX10_enough 2 = .ok (.bipush 11, 2) := by decide +kernel
theorem dX10_enough_4 : decode cX10_enough 4 = .ok (.istore_n 2, 1) := by decide +kernel
theorem dX10_enough_5 : decode cX10_enough 5 = .ok (.iconst 0, 1) := by decide +kernel
theorem dX10_enough_6 : decode cX10_enough 6 = .ok (.istore_n 3, 1) := by decide +kernel
theorem dX10_enough_7 : decode cX10_enough 7 = .ok (.iload_n 3, 1) := by decide +kernel
theorem dX10_enough_8 : decode cX10_enough 8 = .ok (.iconst 1, 1) := by decide +kernel
theorem dX10_enough_9 : decode cX10_enough 9 = .ok (.aload_n 0, 1) := by decide +kernel
theorem dX10_enough_10 : decode cX10_enough 10 = .ok (.getfield 26, 3) := by decide +kernel
theorem dX10_enough_13 : decode cX10_enough 13 = .ok (.getfield 172, 3) := by decide +kernel
theorem dX10_enough_16 : decode cX10_enough 16 = .ok (.ishl, 1) := by decide +kernel
theorem dX10_enough_17 : decode cX10_enough 17 = .ok (.if_icmp .ge 37, 3) := by decide +kernel
theorem dX10_enough_20 : decode cX10_enough 20 = .ok (.iload_n 3, 1) := by decide +kernel
theorem dX10_enough_21 : decode cX10_enough 21 = .ok (.invokestatic 265, 3) := by decide +kernel
theorem dX10_enough_24 : decode cX10_enough 24 = .ok (.istore 4, 2) := by decide +kernel
theorem dX10_enough_26 : decode cX10_enough 26 = .ok (.iload 4, 2) := by decide +kernel
theorem dX10_enough_28 : decode cX10_enough 28 = .ok (.iload_n 2, 1) := by decide +kernel
theorem dX10_enough_29 : decode cX10_enough 29 = .ok (.if_icmp .ge 19, 3) := by decide +kernel
theorem dX10_enough_32 : decode cX10_enough 32 = .ok (.aload_n 0, 1) := by decide +kernel
theorem dX10_enough_33 : decode cX10_enough 33 = .ok (.getfield 26, 3) := by decide +kernel
theorem dX10_enough_36 : decode cX10_enough 36 = .ok (.iload_n 3, 1) := by decide +kernel
theorem dX10_enough_37 : decode cX10_enough 37 = .ok (.invokevirtual 270, 3) := by decide +kernel
theorem dX10_enough_40 : decode cX10_enough 40 = .ok (.ifCond .eq 8, 3) := by decide +kernel
theorem dX10_enough_43 : decode cX10_enough 43 = .ok (.iload_n 3, 1) := by decide +kernel
theorem dX10_enough_44 : decode cX10_enough 44 = .ok (.istore_n 1, 1) := by decide +kernel
theorem dX10_enough_45 : decode cX10_enough 45 = .ok (.iload 4, 2) := by decide +kernel
theorem dX10_enough_47 : decode cX10_enough 47 = .ok (.istore_n 2, 1) := by decide +kernel
theorem dX10_enough_48 : decode cX10_enough 48 = .ok (.iinc 3 1, 3) := by decide +kernel
theorem dX10_enough_51 : decode cX10_enough 51 = .ok (.goto (-44), 3) := by decide +kernel
theorem dX10_enough_54 : decode cX10_enough 54 = .ok (.iload_n 1, 1) := by decide +kernel
theorem dX10_enough_55 : decode cX10_enough 55 = .ok (.ireturn, 1) := by decide +kernel
theorem dX10_lose_0 : decode cX10_lose 0 = .ok (.aload_n 0, 1) := by decide +kernel
theorem dX10_lose_1 : decode cX10_lose 1 = .ok (.getfield 26, 3) := by decide +kernel
theorem dX10_lose_4 : decode cX10_lose 4 = .ok (.iload_n 1, 1) := by decide +kernel
theorem dX10_lose_5 : decode cX10_lose 5 = .ok (.invokevirtual 121, 3) := by decide +kernel
theorem dX10_lose_8 : decode cX10_lose 8 = .ok (.ifCond .ne 5, 3) := by decide +kernel
theorem dX10_lose_11 : decode cX10_lose 11 = .ok (.iconst (-1), 1) := by decide +kernel
theorem dX10_lose_12 : decode cX10_lose 12 = .ok (.ireturn, 1) := by decide +kernel
theorem dX10_lose_13 : decode cX10_lose 13 = .ok (.aload_n 0, 1) := by decide +kernel
theorem dX10_lose_14 : decode cX10_lose 14 = .ok (.getfield 26, 3) := by decide +kernel
theorem dX10_lose_17 : decode cX10_lose 17 = .ok (.iload_n 1, 1) := by decide +kernel
theorem dX10_lose_18 : decode cX10_lose 18 = .ok (.invokevirtual 273, 3) := by decide +kernel
theorem dX10_lose_21 : decode cX10_lose 21 = .ok (.aload_n 0, 1) := by decide +kernel
theorem dX10_lose_22 : decode cX10_lose 22 = .ok (.getfield 26, 3) := by decide +kernel
theorem dX10_lose_25 : decode cX10_lose 25 = .ok (.getfield 172, 3) := by decide +kernel
theorem dX10_lose_28 : decode cX10_lose 28 = .ok (.ireturn, 1) := by decide +kernel
theorem dX10_fewest_0 : decode cX10_fewest 0 = .ok (.aload_n 0, 1) := by decide +kernel
theorem dX10_fewest_1 : decode cX10_fewest 1 = .ok (.invokevirtual 244, 3) := by decide +kernel
theorem dX10_fewest_4 : decode cX10_fewest 4 = .ok (.aload_n 0, 1) := by decide +kernel
theorem dX10_fewest_5 : decode cX10_fewest 5 = .ok (.getfield 26, 3) := by decide +kernel
theorem dX10_fewest_8 : decode cX10_fewest 8 = .ok (.getfield 172, 3) := by decide +kernel
theorem dX10_fewest_11 : decode cX10_fewest 11 = .ok (.if_icmp .eq 6, 3) := by decide +kernel
theorem dX10_fewest_14 : decode cX10_fewest 14 = .ok (.bipush (-2), 2) := by decide +kernel
theorem dX10_fewest_16 : decode cX10_fewest 16 = .ok (.ireturn, 1) := by decide +kernel
theorem dX10_fewest_17 : decode cX10_fewest 17 = .ok (.aload_n 0, 1) := by decide +kernel
theorem dX10_fewest_18 : decode cX10_fewest 18 = .ok (.getfield 58, 3) := by decide +kernel
theorem dX10_fewest_21 : decode cX10_fewest 21 = .ok (.aload_n 0, 1) := by decide +kernel
theorem dX10_fewest_22 : decode cX10_fewest 22 = .ok (.getfield 26, 3) := by decide +kernel
theorem dX10_fewest_25 : decode cX10_fewest 25 = .ok (.aload_n 0, 1) := by decide +kernel
theorem dX10_fewest_26 : decode cX10_fewest 26 = .ok (.getfield 69, 3) := by decide +kernel
theorem dX10_fewest_29 : decode cX10_fewest 29 = .ok (.invokevirtual 276, 3) := by decide +kernel
theorem dX10_fewest_32 : decode cX10_fewest 32 = .ok (.aload_n 0, 1) := by decide +kernel
theorem dX10_fewest_33 : decode cX10_fewest 33 = .ok (.getfield 58, 3) := by decide +kernel
theorem dX10_fewest_36 : decode cX10_fewest 36 = .ok (.iconst (-1), 1) := by decide +kernel
theorem dX10_fewest_37 : decode cX10_fewest 37 = .ok (.iconst (-1), 1) := by decide +kernel
theorem dX10_fewest_38 : decode cX10_fewest 38 = .ok (.invokevirtual 280, 3) := by decide +kernel
theorem dX10_fewest_41 : decode cX10_fewest 41 = .ok (.aload_n 0, 1) := by decide +kernel
theorem dX10_fewest_42 : decode cX10_fewest 42 = .ok (.getfield 58, 3) := by decide +kernel
theorem dX10_fewest_45 : decode cX10_fewest 45 = .ok (.iconst 3, 1) := by decide +kernel
theorem dX10_fewest_46 : decode cX10_fewest 46 = .ok (.iconst 0, 1) := by decide +kernel
theorem dX10_fewest_47 : decode cX10_fewest 47 = .ok (.invokevirtual 283, 3) := by decide +kernel
theorem dX10_fewest_50 : decode cX10_fewest 50 = .ok (.istore_n 1, 1) := by decide +kernel
theorem dX10_fewest_51 : decode cX10_fewest 51 = .ok (.iload_n 1, 1) := by decide +kernel
theorem dX10_fewest_52 : decode cX10_fewest 52 = .ok (.iconst (-1), 1) := by decide +kernel
theorem dX10_fewest_53 : decode cX10_fewest 53 = .ok (.if_icmp .ne 5, 3) := by decide +kernel
theorem dX10_fewest_56 : decode cX10_fewest 56 = .ok (.iconst (-1), 1) := by decide +kernel
theorem dX10_fewest_57 : decode cX10_fewest 57 = .ok (.ireturn, 1) := by decide +kernel
theorem dX10_fewest_58 : decode cX10_fewest 58 = .ok (.aload_n 0, 1) := by decide +kernel
theorem dX10_fewest_59 : decode cX10_fewest 59 = .ok (.aload_n 0, 1) := by decide +kernel
theorem dX10_fewest_60 : decode cX10_fewest 60 = .ok (.getfield 58, 3) := by decide +kernel
theorem dX10_fewest_63 : decode cX10_fewest 63 = .ok (.getfield 287, 3) := by decide +kernel
theorem dX10_fewest_66 : decode cX10_fewest 66 = .ok (.putfield 88, 3) := by decide +kernel
theorem dX10_fewest_69 : decode cX10_fewest 69 = .ok (.aload_n 0, 1) := by decide +kernel
theorem dX10_fewest_70 : decode cX10_fewest 70 = .ok (.getfield 82, 3) := by decide +kernel
theorem dX10_fewest_73 : decode cX10_fewest 73 = .ok (.iload_n 1, 1) := by decide +kernel
theorem dX10_fewest_74 : decode cX10_fewest 74 = .ok (.putfield 231, 3) := by decide +kernel
theorem dX10_fewest_77 : decode cX10_fewest 77 = .ok (.iconst 0, 1) := by decide +kernel
theorem dX10_fewest_78 : decode cX10_fewest 78 = .ok (.istore_n 2, 1) := by decide +kernel
theorem dX10_fewest_79 : decode cX10_fewest 79 = .ok (.iload_n 2, 1) := by decide +kernel
theorem dX10_fewest_80 : decode cX10_fewest 80 = .ok (.iload_n 1, 1) := by decide +kernel
theorem dX10_fewest_81 : decode cX10_fewest 81 = .ok (.if_icmp .ge 27, 3) := by decide +kernel
theorem dX10_fewest_84 : decode cX10_fewest 84 = .ok (.aload_n 0, 1) := by decide +kernel
theorem dX10_fewest_85 : decode cX10_fewest 85 = .ok (.getfield 82, 3) := by decide +kernel
theorem dX10_fewest_88 : decode cX10_fewest 88 = .ok (.getfield 290, 3) := by decide +kernel
theorem dX10_fewest_91 : decode cX10_fewest 91 = .ok (.iload_n 2, 1) := by decide +kernel
theorem dX10_fewest_92 : decode cX10_fewest 92 = .ok (.aload_n 0, 1) := by decide +kernel
theorem dX10_fewest_93 : decode cX10_fewest 93 = .ok (.getfield 58, 3) := by decide +kernel
theorem dX10_fewest_96 : decode cX10_fewest 96 = .ok (.getfield 293, 3) := by decide +kernel
theorem dX10_fewest_99 : decode cX10_fewest 99 = .ok (.iload_n 2, 1) := by decide +kernel
theorem dX10_fewest_100 : decode cX10_fewest 100 = .ok (.iaload, 1) := by decide +kernel
theorem dX10_fewest_101 : decode cX10_fewest 101 = .ok (.iastore, 1) := by decide +kernel
theorem dX10_fewest_102 : decode cX10_fewest 102 = .ok (.iinc 2 1, 3) := by decide +kernel
theorem dX10_fewest_105 : decode cX10_fewest 105 = .ok (.goto (-26), 3) := by decide +kernel
theorem dX10_fewest_108 : decode cX10_fewest 108 = .ok (.aload_n 0, 1) := by decide +kernel
theorem dX10_fewest_109 : decode cX10_fewest 109 = .ok (.iload_n 1, 1) := by decide +kernel
theorem dX10_fewest_110 : decode cX10_fewest 110 = .ok (.invokevirtual 296, 3) := by decide +kernel
theorem dX10_fewest_113 : decode cX10_fewest 113 = .ok (.iload_n 1, 1) := by decide +kernel
theorem dX10_fewest_114 : decode cX10_fewest 114 = .ok (.ireturn, 1) := by decide +kernel
theorem dX10_made_0 : decode cX10_made 0 = .ok (.iload_n 1, 1) := by decide +kernel
theorem dX10_made_1 : decode cX10_made 1 = .ok (.iconst (-1), 1) := by decide +kernel
theorem dX10_made_2 : decode cX10_made 2 = .ok (.if_icmp .ne 10, 3) := by decide +kernel
theorem dX10_made_5 : decode cX10_made 5 = .ok (.aload_n 0, 1) := by decide +kernel
theorem dX10_made_6 : decode cX10_made 6 = .ok (.getfield 88, 3) := by decide +kernel
theorem dX10_made_9 : decode cX10_made 9 = .ok (.goto 11, 3) := by decide +kernel
theorem dX10_made_12 : decode cX10_made 12 = .ok (.aload_n 0, 1) := by decide +kernel
theorem dX10_made_13 : decode cX10_made 13 = .ok (.getfield 82, 3) := by decide +kernel
theorem dX10_made_16 : decode cX10_made 16 = .ok (.iload_n 1, 1) := by decide +kernel
theorem dX10_made_17 : decode cX10_made 17 = .ok (.invokevirtual 234, 3) := by decide +kernel
theorem dX10_made_20 : decode cX10_made 20 = .ok (.ireturn, 1) := by decide +kernel
theorem dX10_madeBy_0 : decode cX10_madeBy 0 = .ok (.aload_n 0, 1) := by decide +kernel
theorem dX10_madeBy_1 : decode cX10_madeBy 1 = .ok (.getfield 85, 3) := by decide +kernel
theorem dX10_madeBy_4 : decode cX10_madeBy 4 = .ok (.iload_n 1, 1) := by decide +kernel
theorem dX10_madeBy_5 : decode cX10_madeBy 5 = .ok (.invokevirtual 234, 3) := by decide +kernel
theorem dX10_madeBy_8 : decode cX10_madeBy 8 = .ok (.ireturn, 1) := by decide +kernel
theorem dX10_liars_0 : decode cX10_liars 0 = .ok (.aload_n 0, 1) := by decide +kernel
theorem dX10_liars_1 : decode cX10_liars 1 = .ok (.invokevirtual 244, 3) := by decide +kernel
theorem dX10_liars_4 : decode cX10_liars 4 = .ok (.aload_n 0, 1) := by decide +kernel
theorem dX10_liars_5 : decode cX10_liars 5 = .ok (.getfield 26, 3) := by decide +kernel
theorem dX10_liars_8 : decode cX10_liars 8 = .ok (.getfield 172, 3) := by decide +kernel
theorem dX10_liars_11 : decode cX10_liars 11 = .ok (.if_icmp .ne 12, 3) := by decide +kernel
theorem dX10_liars_14 : decode cX10_liars 14 = .ok (.iload_n 1, 1) := by decide +kernel
theorem dX10_liars_15 : decode cX10_liars 15 = .ok (.ifCond .lt 8, 3) := by decide +kernel
theorem dX10_liars_18 : decode cX10_liars 18 = .ok (.iload_n 1, 1) := by decide +kernel
theorem dX10_liars_19 : decode cX10_liars 19 = .ok (.iconst 2, 1) := by decide +kernel
theorem dX10_liars_20 : decode cX10_liars 20 = .ok (.if_icmp .le 6, 3) := by decide +kernel
theorem dX10_liars_23 : decode cX10_liars 23 = .ok (.bipush (-2), 2) := by decide +kernel
theorem dX10_liars_25 : decode cX10_liars 25 = .ok (.ireturn, 1) := by decide +kernel
theorem dX10_liars_26 : decode cX10_liars 26 = .ok (.aload_n 0, 1) := by decide +kernel
theorem dX10_liars_27 : decode cX10_liars 27 = .ok (.getfield 58, 3) := by decide +kernel
theorem dX10_liars_30 : decode cX10_liars 30 = .ok (.aload_n 0, 1) := by decide +kernel
theorem dX10_liars_31 : decode cX10_liars 31 = .ok (.getfield 26, 3) := by decide +kernel
theorem dX10_liars_34 : decode cX10_liars 34 = .ok (.aload_n 0, 1) := by decide +kernel
theorem dX10_liars_35 : decode cX10_liars 35 = .ok (.getfield 69, 3) := by decide +kernel
theorem dX10_liars_38 : decode cX10_liars 38 = .ok (.invokevirtual 276, 3) := by decide +kernel
theorem dX10_liars_41 : decode cX10_liars 41 = .ok (.iconst 0, 1) := by decide +kernel
theorem dX10_liars_42 : decode cX10_liars 42 = .ok (.istore_n 2, 1) := by decide +kernel
theorem dX10_liars_43 : decode cX10_liars 43 = .ok (.iload_n 2, 1) := by decide +kernel
theorem dX10_liars_44 : decode cX10_liars 44 = .ok (.iconst 2, 1) := by decide +kernel
theorem dX10_liars_45 : decode cX10_liars 45 = .ok (.if_icmp .gt 20, 3) := by decide +kernel
theorem dX10_liars_48 : decode cX10_liars 48 = .ok (.aload_n 0, 1) := by decide +kernel
theorem dX10_liars_49 : decode cX10_liars 49 = .ok (.iload_n 2, 1) := by decide +kernel
theorem dX10_liars_50 : decode cX10_liars 50 = .ok (.iload_n 1, 1) := by decide +kernel
theorem dX10_liars_51 : decode cX10_liars 51 = .ok (.invokevirtual 299, 3) := by decide +kernel
theorem dX10_liars_54 : decode cX10_liars 54 = .ok (.ifCond .eq 5, 3) := by decide +kernel
theorem dX10_liars_57 : decode cX10_liars 57 = .ok (.iload_n 2, 1) := by decide +kernel
theorem dX10_liars_58 : decode cX10_liars 58 = .ok (.ireturn, 1) := by decide +kernel
theorem dX10_liars_59 : decode cX10_liars 59 = .ok (.iinc 2 1, 3) := by decide +kernel
theorem dX10_liars_62 : decode cX10_liars 62 = .ok (.goto (-19), 3) := by decide +kernel
theorem dX10_liars_65 : decode cX10_liars 65 = .ok (.iconst (-1), 1) := by decide +kernel
theorem dX10_liars_66 : decode cX10_liars 66 = .ok (.ireturn, 1) := by decide +kernel
theorem dX10_liar_0 : decode cX10_liar 0 = .ok (.iload_n 1, 1) := by decide +kernel
theorem dX10_liar_1 : decode cX10_liar 1 = .ok (.iconst (-1), 1) := by decide +kernel
theorem dX10_liar_2 : decode cX10_liar 2 = .ok (.if_icmp .ne 10, 3) := by decide +kernel
theorem dX10_liar_5 : decode cX10_liar 5 = .ok (.aload_n 0, 1) := by decide +kernel
theorem dX10_liar_6 : decode cX10_liar 6 = .ok (.getfield 95, 3) := by decide +kernel
theorem dX10_liar_9 : decode cX10_liar 9 = .ok (.goto 11, 3) := by decide +kernel
theorem dX10_liar_12 : decode cX10_liar 12 = .ok (.aload_n 0, 1) := by decide +kernel
theorem dX10_liar_13 : decode cX10_liar 13 = .ok (.getfield 92, 3) := by decide +kernel
theorem dX10_liar_16 : decode cX10_liar 16 = .ok (.iload_n 1, 1) := by decide +kernel
theorem dX10_liar_17 : decode cX10_liar 17 = .ok (.invokevirtual 234, 3) := by decide +kernel
theorem dX10_liar_20 : decode cX10_liar 20 = .ok (.ireturn, 1) := by decide +kernel
theorem dX10_nulled_0 : decode cX10_nulled 0 = .ok (.aload_n 0, 1) := by decide +kernel
theorem dX10_nulled_1 : decode cX10_nulled 1 = .ok (.getfield 10, 3) := by decide +kernel
theorem dX10_nulled_4 : decode cX10_nulled 4 = .ok (.getfield 108, 3) := by decide +kernel
theorem dX10_nulled_7 : decode cX10_nulled 7 = .ok (.istore_n 1, 1) := by decide +kernel
theorem dX10_nulled_8 : decode cX10_nulled 8 = .ok (.aload_n 0, 1) := by decide +kernel
theorem dX10_nulled_9 : decode cX10_nulled 9 = .ok (.getfield 10, 3) := by decide +kernel
theorem dX10_nulled_12 : decode cX10_nulled 12 = .ok (.iconst 0, 1) := by decide +kernel
theorem dX10_nulled_13 : decode cX10_nulled 13 = .ok (.putfield 108, 3) := by decide +kernel
theorem dX10_nulled_16 : decode cX10_nulled 16 = .ok (.iload_n 1, 1) := by decide +kernel
theorem dX10_nulled_17 : decode cX10_nulled 17 = .ok (.iconst 1, 1) := by decide +kernel
theorem dX10_nulled_18 : decode cX10_nulled 18 = .ok (.if_icmp .lt 17, 3) := by decide +kernel
theorem dX10_nulled_21 : decode cX10_nulled 21 = .ok (.iload_n 1, 1) := by decide +kernel
theorem dX10_nulled_22 : decode cX10_nulled 22 = .ok (.bipush 7, 2) := by decide +kernel
theorem dX10_nulled_24 : decode cX10_nulled 24 = .ok (.if_icmp .gt 11, 3) := by decide +kernel
theorem dX10_nulled_27 : decode cX10_nulled 27 = .ok (.aload_n 0, 1) := by decide +kernel
theorem dX10_nulled_28 : decode cX10_nulled 28 = .ok (.iload_n 1, 1) := by decide +kernel
theorem dX10_nulled_29 : decode cX10_nulled 29 = .ok (.invokevirtual 303, 3) := by decide +kernel
theorem dX10_nulled_32 : decode cX10_nulled 32 = .ok (.ifCond .ne 5, 3) := by decide +kernel
theorem dX10_nulled_35 : decode cX10_nulled 35 = .ok (.iconst 0, 1) := by decide +kernel
theorem dX10_nulled_36 : decode cX10_nulled 36 = .ok (.ireturn, 1) := by decide +kernel
theorem dX10_nulled_37 : decode cX10_nulled 37 = .ok (.iconst 0, 1) := by decide +kernel
theorem dX10_nulled_38 : decode cX10_nulled 38 = .ok (.istore_n 2, 1) := by decide +kernel
theorem dX10_nulled_39 : decode cX10_nulled 39 = .ok (.iload_n 2, 1) := by decide +kernel
theorem dX10_nulled_40 : decode cX10_nulled 40 = .ok (.iload_n 1, 1) := by decide +kernel
theorem dX10_nulled_41 : decode cX10_nulled 41 = .ok (.if_icmp .ge 82, 3) := by decide +kernel
theorem dX10_nulled_44 : decode cX10_nulled 44 = .ok (.iconst 0, 1) := by decide +kernel
theorem dX10_nulled_45 : decode cX10_nulled 45 = .ok (.istore_n 3, 1) := by decide +kernel
theorem dX10_nulled_46 : decode cX10_nulled 46 = .ok (.iload_n 3, 1) := by decide +kernel
theorem dX10_nulled_47 : decode cX10_nulled 47 = .ok (.aload_n 0, 1) := by decide +kernel
theorem dX10_nulled_48 : decode cX10_nulled 48 = .ok (.getfield 26, 3) := by decide +kernel
theorem dX10_nulled_51 : decode cX10_nulled 51 = .ok (.getfield 172, 3) := by decide +kernel
theorem dX10_nulled_54 : decode cX10_nulled 54 = .ok (.if_icmp .ge 37, 3) := by decide +kernel
theorem dX10_nulled_57 : decode cX10_nulled 57 = .ok (.aload_n 0, 1) := by decide +kernel
theorem dX10_nulled_58 : decode cX10_nulled 58 = .ok (.getfield 44, 3) := by decide +kernel
theorem dX10_nulled_61 : decode cX10_nulled 61 = .ok (.getfield 188, 3) := by decide +kernel
theorem dX10_nulled_64 : decode cX10_nulled 64 = .ok (.iload_n 2, 1) := by decide +kernel
theorem dX10_nulled_65 : decode cX10_nulled 65 = .ok (.aaload, 1) := by decide +kernel
theorem dX10_nulled_66 : decode cX10_nulled 66 = .ok (.iload_n 3, 1) := by decide +kernel
theorem dX10_nulled_67 : decode cX10_nulled 67 = .ok (.aload_n 0, 1) := by decide +kernel
theorem dX10_nulled_68 : decode cX10_nulled 68 = .ok (.getfield 26, 3) := by decide +kernel
theorem dX10_nulled_71 : decode cX10_nulled 71 = .ok (.iload_n 3, 1) := by decide +kernel
theorem dX10_nulled_72 : decode cX10_nulled 72 = .ok (.aload_n 0, 1) := by decide +kernel
theorem dX10_nulled_73 : decode cX10_nulled 73 = .ok (.getfield 10, 3) := by decide +kernel
theorem dX10_nulled_76 : decode cX10_nulled 76 = .ok (.getfield 306, 3) := by decide +kernel
theorem dX10_nulled_79 : decode cX10_nulled 79 = .ok (.iload_n 2, 1) := by decide +kernel
theorem dX10_nulled_80 : decode cX10_nulled 80 = .ok (.iaload, 1) := by decide +kernel
theorem dX10_nulled_81 : decode cX10_nulled 81 = .ok (.invokevirtual 192, 3) := by decide +kernel
theorem dX10_nulled_84 : decode cX10_nulled 84 = .ok (.iastore, 1) := by decide +kernel
theorem dX10_nulled_85 : decode cX10_nulled 85 = .ok (.iinc 3 1, 3) := by decide +kernel
theorem dX10_nulled_88 : decode cX10_nulled 88 = .ok (.goto (-42), 3) := by decide +kernel
theorem dX10_nulled_91 : decode cX10_nulled 91 = .ok (.aload_n 0, 1) := by decide +kernel
theorem dX10_nulled_92 : decode cX10_nulled 92 = .ok (.getfield 44, 3) := by decide +kernel
theorem dX10_nulled_95 : decode cX10_nulled 95 = .ok (.getfield 188, 3) := by decide +kernel
theorem dX10_nulled_98 : decode cX10_nulled 98 = .ok (.iload_n 2, 1) := by decide +kernel
theorem dX10_nulled_99 : decode cX10_nulled 99 = .ok (.aaload, 1) := by decide +kernel
theorem dX10_nulled_100 : decode cX10_nulled 100 = .ok (.aload_n 0, 1) := by decide +kernel
theorem dX10_nulled_101 : decode cX10_nulled 101 = .ok (.getfield 26, 3) := by decide +kernel
theorem dX10_nulled_104 : decode cX10_nulled 104 = .ok (.getfield 172, 3) := by decide +kernel
theorem dX10_nulled_107 : decode cX10_nulled 107 = .ok (.iload_n 2, 1) := by decide +kernel
theorem dX10_nulled_108 : decode cX10_nulled 108 = .ok (.ifCond .ne 7, 3) := by decide +kernel
theorem dX10_nulled_111 : decode cX10_nulled 111 = .ok (.iconst 1, 1) := by decide +kernel
theorem dX10_nulled_112 : decode cX10_nulled 112 = .ok (.goto 4, 3) := by decide +kernel
theorem dX10_nulled_115 : decode cX10_nulled 115 = .ok (.iconst 0, 1) := by decide +kernel
theorem dX10_nulled_116 : decode cX10_nulled 116 = .ok (.iastore, 1) := by decide +kernel
theorem dX10_nulled_117 : decode cX10_nulled 117 = .ok (.iinc 2 1, 3) := by decide +kernel
theorem dX10_nulled_120 : decode cX10_nulled 120 = .ok (.goto (-81), 3) := by decide +kernel
theorem dX10_nulled_123 : decode cX10_nulled 123 = .ok (.aload_n 0, 1) := by decide +kernel
theorem dX10_nulled_124 : decode cX10_nulled 124 = .ok (.getfield 44, 3) := by decide +kernel
theorem dX10_nulled_127 : decode cX10_nulled 127 = .ok (.iload_n 1, 1) := by decide +kernel
theorem dX10_nulled_128 : decode cX10_nulled 128 = .ok (.aload_n 0, 1) := by decide +kernel
theorem dX10_nulled_129 : decode cX10_nulled 129 = .ok (.getfield 26, 3) := by decide +kernel
theorem dX10_nulled_132 : decode cX10_nulled 132 = .ok (.getfield 172, 3) := by decide +kernel
theorem dX10_nulled_135 : decode cX10_nulled 135 = .ok (.aload_n 0, 1) := by decide +kernel
theorem dX10_nulled_136 : decode cX10_nulled 136 = .ok (.getfield 26, 3) := by decide +kernel
theorem dX10_nulled_139 : decode cX10_nulled 139 = .ok (.getfield 153, 3) := by decide +kernel
theorem dX10_nulled_142 : decode cX10_nulled 142 = .ok (.getfield 178, 3) := by decide +kernel
theorem dX10_nulled_145 : decode cX10_nulled 145 = .ok (.aload_n 0, 1) := by decide +kernel
theorem dX10_nulled_146 : decode cX10_nulled 146 = .ok (.getfield 98, 3) := by decide +kernel
theorem dX10_nulled_149 : decode cX10_nulled 149 = .ok (.invokevirtual 309, 3) := by decide +kernel
theorem dX10_nulled_152 : decode cX10_nulled 152 = .ok (.ireturn, 1) := by decide +kernel
theorem dX10_number_0 : decode cX10_number 0 = .ok (.aload_n 0, 1) := by decide +kernel
theorem dX10_number_1 : decode cX10_number 1 = .ok (.getfield 98, 3) := by decide +kernel
theorem dX10_number_4 : decode cX10_number 4 = .ok (.iload_n 1, 1) := by decide +kernel
theorem dX10_number_5 : decode cX10_number 5 = .ok (.invokevirtual 234, 3) := by decide +kernel
theorem dX10_number_8 : decode cX10_number 8 = .ok (.ireturn, 1) := by decide +kernel
theorem dX10_comes_0 : decode cX10_comes 0 = .ok (.aload_n 0, 1) := by decide +kernel
theorem dX10_comes_1 : decode cX10_comes 1 = .ok (.getfield 26, 3) := by decide +kernel
theorem dX10_comes_4 : decode cX10_comes 4 = .ok (.getfield 153, 3) := by decide +kernel
theorem dX10_comes_7 : decode cX10_comes 7 = .ok (.iload_n 1, 1) := by decide +kernel
theorem dX10_comes_8 : decode cX10_comes 8 = .ok (.invokevirtual 157, 3) := by decide +kernel
theorem dX10_comes_11 : decode cX10_comes 11 = .ok (.ifCond .eq 30, 3) := by decide +kernel
theorem dX10_comes_14 : decode cX10_comes 14 = .ok (.aload_n 0, 1) := by decide +kernel
theorem dX10_comes_15 : decode cX10_comes 15 = .ok (.getfield 98, 3) := by decide +kernel
theorem dX10_comes_18 : decode cX10_comes 18 = .ok (.getfield 231, 3) := by decide +kernel
theorem dX10_comes_21 : decode cX10_comes 21 = .ok (.ifCond .eq 20, 3) := by decide +kernel
theorem dX10_comes_24 : decode cX10_comes 24 = .ok (.aload_n 0, 1) := by decide +kernel
theorem dX10_comes_25 : decode cX10_comes 25 = .ok (.getfield 98, 3) := by decide +kernel
theorem dX10_comes_28 : decode cX10_comes 28 = .ok (.getfield 231, 3) := by decide +kernel
theorem dX10_comes_31 : decode cX10_comes 31 = .ok (.aload_n 0, 1) := by decide +kernel
theorem dX10_comes_32 : decode cX10_comes 32 = .ok (.getfield 26, 3) := by decide +kernel
theorem dX10_comes_35 : decode cX10_comes 35 = .ok (.getfield 172, 3) := by decide +kernel
theorem dX10_comes_38 : decode cX10_comes 38 = .ok (.if_icmp .eq 5, 3) := by decide +kernel
theorem dX10_comes_41 : decode cX10_comes 41 = .ok (.iconst (-1), 1) := by decide +kernel
theorem dX10_comes_42 : decode cX10_comes 42 = .ok (.ireturn, 1) := by decide +kernel
theorem dX10_comes_43 : decode cX10_comes 43 = .ok (.aload_n 0, 1) := by decide +kernel
theorem dX10_comes_44 : decode cX10_comes 44 = .ok (.getfield 26, 3) := by decide +kernel
theorem dX10_comes_47 : decode cX10_comes 47 = .ok (.getfield 153, 3) := by decide +kernel
theorem dX10_comes_50 : decode cX10_comes 50 = .ok (.getfield 178, 3) := by decide +kernel
theorem dX10_comes_53 : decode cX10_comes 53 = .ok (.istore_n 2, 1) := by decide +kernel
theorem dX10_comes_54 : decode cX10_comes 54 = .ok (.iconst 0, 1) := by decide +kernel
theorem dX10_comes_55 : decode cX10_comes 55 = .ok (.istore_n 3, 1) := by decide +kernel
theorem dX10_comes_56 : decode cX10_comes 56 = .ok (.iconst 0, 1) := by decide +kernel
theorem dX10_comes_57 : decode cX10_comes 57 = .ok (.istore 4, 2) := by decide +kernel
theorem dX10_comes_59 : decode cX10_comes 59 = .ok (.iload 4, 2) := by decide +kernel
theorem dX10_comes_61 : decode cX10_comes 61 = .ok (.aload_n 0, 1) := by decide +kernel
theorem dX10_comes_62 : decode cX10_comes 62 = .ok (.getfield 26, 3) := by decide +kernel
theorem dX10_comes_65 : decode cX10_comes 65 = .ok (.getfield 172, 3) := by decide +kernel
theorem dX10_comes_68 : decode cX10_comes 68 = .ok (.if_icmp .ge 38, 3) := by decide +kernel
theorem dX10_comes_71 : decode cX10_comes 71 = .ok (.iload_n 3, 1) := by decide +kernel
theorem dX10_comes_72 : decode cX10_comes 72 = .ok (.aload_n 0, 1) := by decide +kernel
theorem dX10_comes_73 : decode cX10_comes 73 = .ok (.getfield 98, 3) := by decide +kernel
theorem dX10_comes_76 : decode cX10_comes 76 = .ok (.getfield 290, 3) := by decide +kernel
theorem dX10_comes_79 : decode cX10_comes 79 = .ok (.iload 4, 2) := by decide +kernel
theorem dX10_comes_81 : decode cX10_comes 81 = .ok (.iaload, 1) := by decide +kernel
theorem dX10_comes_82 : decode cX10_comes 82 = .ok (.aload_n 0, 1) := by decide +kernel
theorem dX10_comes_83 : decode cX10_comes 83 = .ok (.getfield 26, 3) := by decide +kernel
theorem dX10_comes_86 : decode cX10_comes 86 = .ok (.iload 4, 2) := by decide +kernel
theorem dX10_comes_88 : decode cX10_comes 88 = .ok (.iload_n 1, 1) := by decide +kernel
theorem dX10_comes_89 : decode cX10_comes 89 = .ok (.invokevirtual 192, 3) := by decide +kernel
theorem dX10_comes_92 : decode cX10_comes 92 = .ok (.iload_n 2, 1) := by decide +kernel
theorem dX10_comes_93 : decode cX10_comes 93 = .ok (.invokestatic 257, 3) := by decide +kernel
theorem dX10_comes_96 : decode cX10_comes 96 = .ok (.iadd, 1) := by decide +kernel
theorem dX10_comes_97 : decode cX10_comes 97 = .ok (.iload_n 2, 1) := by decide +kernel
theorem dX10_comes_98 : decode cX10_comes 98 = .ok (.irem, 1) := by decide +kernel
theorem dX10_comes_99 : decode cX10_comes 99 = .ok (.istore_n 3, 1) := by decide +kernel
theorem dX10_comes_100 : decode cX10_comes 100 = .ok (.iinc 4 1, 3) := by decide +kernel
theorem dX10_comes_103 : decode cX10_comes 103 = .ok (.goto (-44), 3) := by decide +kernel
theorem dX10_comes_106 : decode cX10_comes 106 = .ok (.iload_n 3, 1) := by decide +kernel
theorem dX10_comes_107 : decode cX10_comes 107 = .ok (.ireturn, 1) := by decide +kernel
theorem dX10_mend_0 : decode cX10_mend 0 = .ok (.aload_n 0, 1) := by decide +kernel
theorem dX10_mend_1 : decode cX10_mend 1 = .ok (.invokevirtual 244, 3) := by decide +kernel
theorem dX10_mend_4 : decode cX10_mend 4 = .ok (.istore_n 2, 1) := by decide +kernel
theorem dX10_mend_5 : decode cX10_mend 5 = .ok (.iload_n 2, 1) := by decide +kernel
theorem dX10_mend_6 : decode cX10_mend 6 = .ok (.aload_n 0, 1) := by decide +kernel
theorem dX10_mend_7 : decode cX10_mend 7 = .ok (.getfield 26, 3) := by decide +kernel
theorem dX10_mend_10 : decode cX10_mend 10 = .ok (.getfield 172, 3) := by decide +kernel
theorem dX10_mend_13 : decode cX10_mend 13 = .ok (.if_icmp .ne 30, 3) := by decide +kernel
theorem dX10_mend_16 : decode cX10_mend 16 = .ok (.iload_n 2, 1) := by decide +kernel
theorem dX10_mend_17 : decode cX10_mend 17 = .ok (.ifCond .eq 26, 3) := by decide +kernel
theorem dX10_mend_20 : decode cX10_mend 20 = .ok (.aload_n 0, 1) := by decide +kernel
theorem dX10_mend_21 : decode cX10_mend 21 = .ok (.getfield 26, 3) := by decide +kernel
theorem dX10_mend_24 : decode cX10_mend 24 = .ok (.getfield 153, 3) := by decide +kernel
theorem dX10_mend_27 : decode cX10_mend 27 = .ok (.iload_n 1, 1) := by decide +kernel
theorem dX10_mend_28 : decode cX10_mend 28 = .ok (.invokevirtual 157, 3) := by decide +kernel
theorem dX10_mend_31 : decode cX10_mend 31 = .ok (.ifCond .eq 12, 3) := by decide +kernel
theorem dX10_mend_34 : decode cX10_mend 34 = .ok (.aload_n 0, 1) := by decide +kernel
theorem dX10_mend_35 : decode cX10_mend 35 = .ok (.getfield 69, 3) := by decide +kernel
theorem dX10_mend_38 : decode cX10_mend 38 = .ok (.iconst 0, 1) := by decide +kernel
theorem dX10_mend_39 : decode cX10_mend 39 = .ok (.iaload, 1) := by decide +kernel
theorem dX10_mend_40 : decode cX10_mend 40 = .ok (.ifCond .ne 5, 3) := by decide +kernel
theorem dX10_mend_43 : decode cX10_mend 43 = .ok (.iconst 0, 1) := by decide +kernel
theorem dX10_mend_44 : decode cX10_mend 44 = .ok (.ireturn, 1) := by decide +kernel
theorem dX10_mend_45 : decode cX10_mend 45 = .ok (.aload_n 0, 1) := by decide +kernel
theorem dX10_mend_46 : decode cX10_mend 46 = .ok (.getfield 26, 3) := by decide +kernel
theorem dX10_mend_49 : decode cX10_mend 49 = .ok (.getfield 153, 3) := by decide +kernel
theorem dX10_mend_52 : decode cX10_mend 52 = .ok (.getfield 178, 3) := by decide +kernel
theorem dX10_mend_55 : decode cX10_mend 55 = .ok (.istore_n 3, 1) := by decide +kernel
theorem dX10_mend_56 : decode cX10_mend 56 = .ok (.aload_n 0, 1) := by decide +kernel
theorem dX10_mend_57 : decode cX10_mend 57 = .ok (.getfield 69, 3) := by decide +kernel
theorem dX10_mend_60 : decode cX10_mend 60 = .ok (.iconst 0, 1) := by decide +kernel
theorem dX10_mend_61 : decode cX10_mend 61 = .ok (.iaload, 1) := by decide +kernel
theorem dX10_mend_62 : decode cX10_mend 62 = .ok (.aload_n 0, 1) := by decide +kernel
theorem dX10_mend_63 : decode cX10_mend 63 = .ok (.getfield 26, 3) := by decide +kernel
theorem dX10_mend_66 : decode cX10_mend 66 = .ok (.getfield 153, 3) := by decide +kernel
theorem dX10_mend_69 : decode cX10_mend 69 = .ok (.iload_n 1, 1) := by decide +kernel
theorem dX10_mend_70 : decode cX10_mend 70 = .ok (.aload_n 0, 1) := by decide +kernel
theorem dX10_mend_71 : decode cX10_mend 71 = .ok (.getfield 26, 3) := by decide +kernel
theorem dX10_mend_74 : decode cX10_mend 74 = .ok (.getfield 128, 3) := by decide +kernel
theorem dX10_mend_77 : decode cX10_mend 77 = .ok (.iconst 0, 1) := by decide +kernel
theorem dX10_mend_78 : decode cX10_mend 78 = .ok (.iaload, 1) := by decide +kernel
theorem dX10_mend_79 : decode cX10_mend 79 = .ok (.invokevirtual 313, 3) := by decide +kernel
theorem dX10_mend_82 : decode cX10_mend 82 = .ok (.iload_n 3, 1) := by decide +kernel
theorem dX10_mend_83 : decode cX10_mend 83 = .ok (.invokestatic 257, 3) := by decide +kernel
theorem dX10_mend_86 : decode cX10_mend 86 = .ok (.istore 4, 2) := by decide +kernel
theorem dX10_mend_88 : decode cX10_mend 88 = .ok (.aload_n 0, 1) := by decide +kernel
theorem dX10_mend_89 : decode cX10_mend 89 = .ok (.getfield 26, 3) := by decide +kernel
theorem dX10_mend_92 : decode cX10_mend 92 = .ok (.getfield 131, 3) := by decide +kernel
theorem dX10_mend_95 : decode cX10_mend 95 = .ok (.iconst 0, 1) := by decide +kernel
theorem dX10_mend_96 : decode cX10_mend 96 = .ok (.iaload, 1) := by decide +kernel
theorem dX10_mend_97 : decode cX10_mend 97 = .ok (.iload 4, 2) := by decide +kernel
theorem dX10_mend_99 : decode cX10_mend 99 = .ok (.iload_n 3, 1) := by decide +kernel
theorem dX10_mend_100 : decode cX10_mend 100 = .ok (.invokestatic 254, 3) := by decide +kernel
theorem dX10_mend_103 : decode cX10_mend 103 = .ok (.iload_n 3, 1) := by decide +kernel
theorem dX10_mend_104 : decode cX10_mend 104 = .ok (.invokestatic 257, 3) := by decide +kernel
theorem dX10_mend_107 : decode cX10_mend 107 = .ok (.istore 5, 2) := by decide +kernel
theorem dX10_mend_109 : decode cX10_mend 109 = .ok (.iconst 0, 1) := by decide +kernel
theorem dX10_mend_110 : decode cX10_mend 110 = .ok (.istore 6, 2) := by decide +kernel
theorem dX10_mend_112 : decode cX10_mend 112 = .ok (.iload 6, 2) := by decide +kernel
theorem dX10_mend_114 : decode cX10_mend 114 = .ok (.iload_n 2, 1) := by decide +kernel
theorem dX10_mend_115 : decode cX10_mend 115 = .ok (.if_icmp .ge 61, 3) := by decide +kernel
theorem dX10_mend_118 : decode cX10_mend 118 = .ok (.aload_n 0, 1) := by decide +kernel
theorem dX10_mend_119 : decode cX10_mend 119 = .ok (.getfield 69, 3) := by decide +kernel
theorem dX10_mend_122 : decode cX10_mend 122 = .ok (.iload 6, 2) := by decide +kernel
theorem dX10_mend_124 : decode cX10_mend 124 = .ok (.iaload, 1) := by decide +kernel
theorem dX10_mend_125 : decode cX10_mend 125 = .ok (.aload_n 0, 1) := by decide +kernel
theorem dX10_mend_126 : decode cX10_mend 126 = .ok (.getfield 26, 3) := by decide +kernel
theorem dX10_mend_129 : decode cX10_mend 129 = .ok (.getfield 153, 3) := by decide +kernel
theorem dX10_mend_132 : decode cX10_mend 132 = .ok (.iload_n 1, 1) := by decide +kernel
theorem dX10_mend_133 : decode cX10_mend 133 = .ok (.aload_n 0, 1) := by decide +kernel
theorem dX10_mend_134 : decode cX10_mend 134 = .ok (.getfield 26, 3) := by decide +kernel
theorem dX10_mend_137 : decode cX10_mend 137 = .ok (.getfield 128, 3) := by decide +kernel
theorem dX10_mend_140 : decode cX10_mend 140 = .ok (.iload 6, 2) := by decide +kernel
theorem dX10_mend_142 : decode cX10_mend 142 = .ok (.iaload, 1) := by decide +kernel
theorem dX10_mend_143 : decode cX10_mend 143 = .ok (.invokevirtual 313, 3) := by decide +kernel
theorem dX10_mend_146 : decode cX10_mend 146 = .ok (.iload_n 3, 1) := by decide +kernel
theorem dX10_mend_147 : decode cX10_mend 147 = .ok (.invokestatic 257, 3) := by decide +kernel
theorem dX10_mend_150 : decode cX10_mend 150 = .ok (.istore 7, 2) := by decide +kernel
theorem dX10_mend_152 : decode cX10_mend 152 = .ok (.aload_n 0, 1) := by decide +kernel
theorem dX10_mend_153 : decode cX10_mend 153 = .ok (.getfield 26, 3) := by decide +kernel
theorem dX10_mend_156 : decode cX10_mend 156 = .ok (.getfield 131, 3) := by decide +kernel
theorem dX10_mend_159 : decode cX10_mend 159 = .ok (.iload 6, 2) := by decide +kernel
theorem dX10_mend_161 : decode cX10_mend 161 = .ok (.iload 7, 2) := by decide +kernel
theorem dX10_mend_163 : decode cX10_mend 163 = .ok (.iload 5, 2) := by decide +kernel
theorem dX10_mend_165 : decode cX10_mend 165 = .ok (.iload_n 3, 1) := by decide +kernel
theorem dX10_mend_166 : decode cX10_mend 166 = .ok (.invokestatic 257, 3) := by decide +kernel
theorem dX10_mend_169 : decode cX10_mend 169 = .ok (.iastore, 1) := by decide +kernel
theorem dX10_mend_170 : decode cX10_mend 170 = .ok (.iinc 6 1, 3) := by decide +kernel
theorem dX10_mend_173 : decode cX10_mend 173 = .ok (.goto (-61), 3) := by decide +kernel
theorem dX10_mend_176 : decode cX10_mend 176 = .ok (.iconst 1, 1) := by decide +kernel
theorem dX10_mend_177 : decode cX10_mend 177 = .ok (.ireturn, 1) := by decide +kernel
theorem dX10_cross_0 : decode cX10_cross 0 = .ok (.iload_n 3, 1) := by decide +kernel
theorem dX10_cross_1 : decode cX10_cross 1 = .ok (.ifCond .lt 23, 3) := by decide +kernel
theorem dX10_cross_4 : decode cX10_cross 4 = .ok (.iload_n 3, 1) := by decide +kernel
theorem dX10_cross_5 : decode cX10_cross 5 = .ok (.iconst 3, 1) := by decide +kernel
theorem dX10_cross_6 : decode cX10_cross 6 = .ok (.if_icmp .gt 18, 3) := by decide +kernel
theorem dX10_cross_9 : decode cX10_cross 9 = .ok (.aload_n 0, 1) := by decide +kernel
theorem dX10_cross_10 : decode cX10_cross 10 = .ok (.getfield 26, 3) := by decide +kernel
theorem dX10_cross_13 : decode cX10_cross 13 = .ok (.getfield 316, 3) := by decide +kernel
theorem dX10_cross_16 : decode cX10_cross 16 = .ok (.iload_n 1, 1) := by decide +kernel
theorem dX10_cross_17 : decode cX10_cross 17 = .ok (.iload_n 2, 1) := by decide +kernel
theorem dX10_cross_18 : decode cX10_cross 18 = .ok (.invokevirtual 320, 3) := by decide +kernel
theorem dX10_cross_21 : decode cX10_cross 21 = .ok (.ifCond .ne 11, 3) := by decide +kernel
theorem dX10_cross_24 : decode cX10_cross 24 = .ok (.new 125, 3) := by decide +kernel
theorem dX10_cross_27 : decode cX10_cross 27 = .ok (.dup, 1) := by decide +kernel
theorem dX10_cross_28 : decode cX10_cross 28 = .ok (.invokespecial 127, 3) := by decide +kernel
theorem dX10_cross_31 : decode cX10_cross 31 = .ok (.athrow, 1) := by decide +kernel
theorem dX10_cross_32 : decode cX10_cross 32 = .ok (.iload_n 3, 1) := by decide +kernel
theorem dX10_cross_33 : decode cX10_cross 33 = .ok (.iconst 2, 1) := by decide +kernel
theorem dX10_cross_34 : decode cX10_cross 34 = .ok (.if_icmp .ge 16, 3) := by decide +kernel
theorem dX10_cross_37 : decode cX10_cross 37 = .ok (.aload_n 0, 1) := by decide +kernel
theorem dX10_cross_38 : decode cX10_cross 38 = .ok (.getfield 26, 3) := by decide +kernel
theorem dX10_cross_41 : decode cX10_cross 41 = .ok (.getfield 316, 3) := by decide +kernel
theorem dX10_cross_44 : decode cX10_cross 44 = .ok (.getfield 325, 3) := by decide +kernel
theorem dX10_cross_47 : decode cX10_cross 47 = .ok (.goto 13, 3) := by decide +kernel
theorem dX10_cross_50 : decode cX10_cross 50 = .ok (.aload_n 0, 1) := by decide +kernel
theorem dX10_cross_51 : decode cX10_cross 51 = .ok (.getfield 26, 3) := by decide +kernel
theorem dX10_cross_54 : decode cX10_cross 54 = .ok (.getfield 316, 3) := by decide +kernel
theorem dX10_cross_57 : decode cX10_cross 57 = .ok (.getfield 328, 3) := by decide +kernel
theorem dX10_cross_60 : decode cX10_cross 60 = .ok (.lstore 4, 2) := by decide +kernel
theorem dX10_cross_62 : decode cX10_cross 62 = .ok (.lload 4, 2) := by decide +kernel
theorem dX10_cross_64 : decode cX10_cross 64 = .ok (.aload_n 0, 1) := by decide +kernel
theorem dX10_cross_65 : decode cX10_cross 65 = .ok (.getfield 26, 3) := by decide +kernel
theorem dX10_cross_68 : decode cX10_cross 68 = .ok (.getfield 316, 3) := by decide +kernel
theorem dX10_cross_71 : decode cX10_cross 71 = .ok (.getfield 331, 3) := by decide +kernel
theorem dX10_cross_74 : decode cX10_cross 74 = .ok (.invokestatic 334, 3) := by decide +kernel
theorem dX10_cross_77 : decode cX10_cross 77 = .ok (.lstore 6, 2) := by decide +kernel
theorem dX10_cross_79 : decode cX10_cross 79 = .ok (.iload_n 3, 1) := by decide +kernel
theorem dX10_cross_80 : decode cX10_cross 80 = .ok (.iconst 1, 1) := by decide +kernel
theorem dX10_cross_81 : decode cX10_cross 81 = .ok (.iand, 1) := by decide +kernel
theorem dX10_cross_82 : decode cX10_cross 82 = .ok (.ifCond .ne 11, 3) := by decide +kernel
theorem dX10_cross_85 : decode cX10_cross 85 = .ok (.lload 4, 2) := by decide +kernel
theorem dX10_cross_87 : decode cX10_cross 87 = .ok (.lload 6, 2) := by decide +kernel
theorem dX10_cross_89 : decode cX10_cross 89 = .ok (.ldiv, 1) := by decide +kernel
theorem dX10_cross_90 : decode cX10_cross 90 = .ok (.goto 16, 3) := by decide +kernel
theorem dX10_cross_93 : decode cX10_cross 93 = .ok (.aload_n 0, 1) := by decide +kernel
theorem dX10_cross_94 : decode cX10_cross 94 = .ok (.getfield 26, 3) := by decide +kernel
theorem dX10_cross_97 : decode cX10_cross 97 = .ok (.getfield 316, 3) := by decide +kernel
theorem dX10_cross_100 : decode cX10_cross 100 = .ok (.getfield 331, 3) := by decide +kernel
theorem dX10_cross_103 : decode cX10_cross 103 = .ok (.lload 6, 2) := by decide +kernel
theorem dX10_cross_105 : decode cX10_cross 105 = .ok (.ldiv, 1) := by decide +kernel
theorem dX10_cross_106 : decode cX10_cross 106 = .ok (.lreturn, 1) := by decide +kernel
theorem dX10_fix_0 : decode cX10_fix 0 = .ok (.aload_n 0, 1) := by decide +kernel
theorem dX10_fix_1 : decode cX10_fix 1 = .ok (.getfield 65, 3) := by decide +kernel
theorem dX10_fix_4 : decode cX10_fix 4 = .ok (.aload_n 0, 1) := by decide +kernel
theorem dX10_fix_5 : decode cX10_fix 5 = .ok (.getfield 26, 3) := by decide +kernel
theorem dX10_fix_8 : decode cX10_fix 8 = .ok (.getfield 316, 3) := by decide +kernel
theorem dX10_fix_11 : decode cX10_fix 11 = .ok (.invokevirtual 338, 3) := by decide +kernel
theorem dX10_fix_14 : decode cX10_fix 14 = .ok (.ireturn, 1) := by decide +kernel
theorem dX10_fixAt_0 : decode cX10_fixAt 0 = .ok (.aload_n 0, 1) := by decide +kernel
theorem dX10_fixAt_1 : decode cX10_fixAt 1 = .ok (.getfield 65, 3) := by decide +kernel
theorem dX10_fixAt_4 : decode cX10_fixAt 4 = .ok (.getfield 341, 3) := by decide +kernel
theorem dX10_fixAt_7 : decode cX10_fixAt 7 = .ok (.iload_n 1, 1) := by decide +kernel
theorem dX10_fixAt_8 : decode cX10_fixAt 8 = .ok (.invokevirtual 234, 3) := by decide +kernel
theorem dX10_fixAt_11 : decode cX10_fixAt 11 = .ok (.ireturn, 1) := by decide +kernel
theorem dX10_through_0 : decode cX10_through 0 = .ok (.aload_n 0, 1) := by decide +kernel
theorem dX10_through_1 : decode cX10_through 1 = .ok (.getfield 26, 3) := by decide +kernel
theorem dX10_through_4 : decode cX10_through 4 = .ok (.getfield 316, 3) := by decide +kernel
theorem dX10_through_7 : decode cX10_through 7 = .ok (.iload_n 1, 1) := by decide +kernel
theorem dX10_through_8 : decode cX10_through 8 = .ok (.iload_n 2, 1) := by decide +kernel
theorem dX10_through_9 : decode cX10_through 9 = .ok (.invokevirtual 320, 3) := by decide +kernel
theorem dX10_through_12 : decode cX10_through 12 = .ok (.ifCond .eq 16, 3) := by decide +kernel
theorem dX10_through_15 : decode cX10_through 15 = .ok (.aload_n 0, 1) := by decide +kernel
theorem dX10_through_16 : decode cX10_through 16 = .ok (.getfield 26, 3) := by decide +kernel
theorem dX10_through_19 : decode cX10_through 19 = .ok (.getfield 316, 3) := by decide +kernel
theorem dX10_through_22 : decode cX10_through 22 = .ok (.invokevirtual 344, 3) := by decide +kernel
theorem dX10_through_25 : decode cX10_through 25 = .ok (.goto 4, 3) := by decide +kernel
theorem dX10_through_28 : decode cX10_through 28 = .ok (.iconst (-1), 1) := by decide +kernel
theorem dX10_through_29 : decode cX10_through 29 = .ok (.ireturn, 1) := by decide +kernel
theorem dX10_image_0 : decode cX10_image 0 = .ok (.iload_n 1, 1) := by decide +kernel
theorem dX10_image_1 : decode cX10_image 1 = .ok (.ifCond .lt 8, 3) := by decide +kernel
theorem dX10_image_4 : decode cX10_image 4 = .ok (.iload_n 1, 1) := by decide +kernel
theorem dX10_image_5 : decode cX10_image 5 = .ok (.iconst 2, 1) := by decide +kernel
theorem dX10_image_6 : decode cX10_image 6 = .ok (.if_icmp .lt 5, 3) := by decide +kernel
theorem dX10_image_9 : decode cX10_image 9 = .ok (.iconst 0, 1) := by decide +kernel
theorem dX10_image_10 : decode cX10_image 10 = .ok (.ireturn, 1) := by decide +kernel
theorem dX10_image_11 : decode cX10_image 11 = .ok (.aload_n 0, 1) := by decide +kernel
theorem dX10_image_12 : decode cX10_image 12 = .ok (.getfield 33, 3) := by decide +kernel
theorem dX10_image_15 : decode cX10_image 15 = .ok (.iload_n 1, 1) := by decide +kernel
theorem dX10_image_16 : decode cX10_image 16 = .ok (.aaload, 1) := by decide +kernel
theorem dX10_image_17 : decode cX10_image 17 = .ok (.aload_n 0, 1) := by decide +kernel
theorem dX10_image_18 : decode cX10_image 18 = .ok (.getfield 26, 3) := by decide +kernel
theorem dX10_image_21 : decode cX10_image 21 = .ok (.invokevirtual 347, 3) := by decide +kernel
theorem dX10_image_24 : decode cX10_image 24 = .ok (.aload_n 0, 1) := by decide +kernel
theorem dX10_image_25 : decode cX10_image 25 = .ok (.getfield 37, 3) := by decide +kernel
theorem dX10_image_28 : decode cX10_image 28 = .ok (.iload_n 1, 1) := by decide +kernel
theorem dX10_image_29 : decode cX10_image 29 = .ok (.iconst 1, 1) := by decide +kernel
theorem dX10_image_30 : decode cX10_image 30 = .ok (.bastore, 1) := by decide +kernel
theorem dX10_image_31 : decode cX10_image 31 = .ok (.iconst 1, 1) := by decide +kernel
theorem dX10_image_32 : decode cX10_image 32 = .ok (.ireturn, 1) := by decide +kernel
theorem dX10_restore_0 : decode cX10_restore 0 = .ok (.iload_n 1, 1) := by decide +kernel
theorem dX10_restore_1 : decode cX10_restore 1 = .ok (.ifCond .lt 17, 3) := by decide +kernel
theorem dX10_restore_4 : decode cX10_restore 4 = .ok (.iload_n 1, 1) := by decide +kernel
theorem dX10_restore_5 : decode cX10_restore 5 = .ok (.iconst 2, 1) := by decide +kernel
theorem dX10_restore_6 : decode cX10_restore 6 = .ok (.if_icmp .ge 12, 3) := by decide +kernel
theorem dX10_restore_9 : decode cX10_restore 9 = .ok (.aload_n 0, 1) := by decide +kernel
theorem dX10_restore_10 : decode cX10_restore 10 = .ok (.getfield 37, 3) := by decide +kernel
theorem dX10_restore_13 : decode cX10_restore 13 = .ok (.iload_n 1, 1) := by decide +kernel
theorem dX10_restore_14 : decode cX10_restore 14 = .ok (.baload, 1) := by decide +kernel
theorem dX10_restore_15 : decode cX10_restore 15 = .ok (.ifCond .ne 5, 3) := by decide +kernel
theorem dX10_restore_18 : decode cX10_restore 18 = .ok (.iconst 0, 1) := by decide +kernel
theorem dX10_restore_19 : decode cX10_restore 19 = .ok (.ireturn, 1) := by decide +kernel
theorem dX10_restore_20 : decode cX10_restore 20 = .ok (.aload_n 0, 1) := by decide +kernel
theorem dX10_restore_21 : decode cX10_restore 21 = .ok (.getfield 26, 3) := by decide +kernel
theorem dX10_restore_24 : decode cX10_restore 24 = .ok (.aload_n 0, 1) := by decide +kernel
theorem dX10_restore_25 : decode cX10_restore 25 = .ok (.getfield 33, 3) := by decide +kernel
theorem dX10_restore_28 : decode cX10_restore 28 = .ok (.iload_n 1, 1) := by decide +kernel
theorem dX10_restore_29 : decode cX10_restore 29 = .ok (.aaload, 1) := by decide +kernel
theorem dX10_restore_30 : decode cX10_restore 30 = .ok (.invokevirtual 347, 3) := by decide +kernel
theorem dX10_restore_33 : decode cX10_restore 33 = .ok (.iconst 1, 1) := by decide +kernel
theorem dX10_restore_34 : decode cX10_restore 34 = .ok (.ireturn, 1) := by decide +kernel
theorem dX10_count_0 : decode cX10_count 0 = .ok (.iload_n 1, 1) := by decide +kernel
theorem dX10_count_1 : decode cX10_count 1 = .ok (.tableswitch 138 0 8 #[51, 62, 73, 84, 92, 100, 111, 122, 130], 51) := by decide +kernel
theorem dX10_count_52 : decode cX10_count 52 = .ok (.aload_n 0, 1) := by decide +kernel
theorem dX10_count_53 : decode cX10_count 53 = .ok (.getfield 26, 3) := by decide +kernel
theorem dX10_count_56 : decode cX10_count 56 = .ok (.getfield 153, 3) := by decide +kernel
theorem dX10_count_59 : decode cX10_count 59 = .ok (.getfield 185, 3) := by decide +kernel
theorem dX10_count_62 : decode cX10_count 62 = .ok (.ireturn, 1) := by decide +kernel
theorem dX10_count_63 : decode cX10_count 63 = .ok (.aload_n 0, 1) := by decide +kernel
theorem dX10_count_64 : decode cX10_count 64 = .ok (.getfield 26, 3) := by decide +kernel
theorem dX10_count_67 : decode cX10_count 67 = .ok (.getfield 153, 3) := by decide +kernel
theorem dX10_count_70 : decode cX10_count 70 = .ok (.getfield 178, 3) := by decide +kernel
theorem dX10_count_73 : decode cX10_count 73 = .ok (.ireturn, 1) := by decide +kernel
theorem dX10_count_74 : decode cX10_count 74 = .ok (.aload_n 0, 1) := by decide +kernel
theorem dX10_count_75 : decode cX10_count 75 = .ok (.getfield 26, 3) := by decide +kernel
theorem dX10_count_78 : decode cX10_count 78 = .ok (.getfield 153, 3) := by decide +kernel
theorem dX10_count_81 : decode cX10_count 81 = .ok (.getfield 351, 3) := by decide +kernel
theorem dX10_count_84 : decode cX10_count 84 = .ok (.ireturn, 1) := by decide +kernel
theorem dX10_count_85 : decode cX10_count 85 = .ok (.aload_n 0, 1) := by decide +kernel
theorem dX10_count_86 : decode cX10_count 86 = .ok (.getfield 26, 3) := by decide +kernel
theorem dX10_count_89 : decode cX10_count 89 = .ok (.getfield 172, 3) := by decide +kernel
theorem dX10_count_92 : decode cX10_count 92 = .ok (.ireturn, 1) := by decide +kernel
theorem dX10_count_93 : decode cX10_count 93 = .ok (.aload_n 0, 1) := by decide +kernel
theorem dX10_count_94 : decode cX10_count 94 = .ok (.getfield 26, 3) := by decide +kernel
theorem dX10_count_97 : decode cX10_count 97 = .ok (.getfield 134, 3) := by decide +kernel
theorem dX10_count_100 : decode cX10_count 100 = .ok (.ireturn, 1) := by decide +kernel
theorem dX10_count_101 : decode cX10_count 101 = .ok (.aload_n 0, 1) := by decide +kernel
theorem dX10_count_102 : decode cX10_count 102 = .ok (.getfield 26, 3) := by decide +kernel
theorem dX10_count_105 : decode cX10_count 105 = .ok (.getfield 316, 3) := by decide +kernel
theorem dX10_count_108 : decode cX10_count 108 = .ok (.getfield 354, 3) := by decide +kernel
theorem dX10_count_111 : decode cX10_count 111 = .ok (.ireturn, 1) := by decide +kernel
theorem dX10_count_112 : decode cX10_count 112 = .ok (.aload_n 0, 1) := by decide +kernel
theorem dX10_count_113 : decode cX10_count 113 = .ok (.getfield 26, 3) := by decide +kernel
theorem dX10_count_116 : decode cX10_count 116 = .ok (.getfield 316, 3) := by decide +kernel
theorem dX10_count_119 : decode cX10_count 119 = .ok (.getfield 357, 3) := by decide +kernel
theorem dX10_count_122 : decode cX10_count 122 = .ok (.ireturn, 1) := by decide +kernel
theorem dX10_count_123 : decode cX10_count 123 = .ok (.aload_n 0, 1) := by decide +kernel
theorem dX10_count_124 : decode cX10_count 124 = .ok (.getfield 26, 3) := by decide +kernel
theorem dX10_count_127 : decode cX10_count 127 = .ok (.getfield 150, 3) := by decide +kernel
theorem dX10_count_130 : decode cX10_count 130 = .ok (.ireturn, 1) := by decide +kernel
theorem dX10_count_131 : decode cX10_count 131 = .ok (.aload_n 0, 1) := by decide +kernel
theorem dX10_count_132 : decode cX10_count 132 = .ok (.getfield 10, 3) := by decide +kernel
theorem dX10_count_135 : decode cX10_count 135 = .ok (.getfield 108, 3) := by decide +kernel
theorem dX10_count_138 : decode cX10_count 138 = .ok (.ireturn, 1) := by decide +kernel
theorem dX10_count_139 : decode cX10_count 139 = .ok (.iconst (-1), 1) := by decide +kernel
theorem dX10_count_140 : decode cX10_count 140 = .ok (.ireturn, 1) := by decide +kernel
theorem dX10_fillCover_0 : decode cX10_fillCover 0 = .ok (.aload_n 0, 1) := by decide +kernel
theorem dX10_fillCover_1 : decode cX10_fillCover 1 = .ok (.getfield 26, 3) := by decide +kernel
theorem dX10_fillCover_4 : decode cX10_fillCover 4 = .ok (.getfield 153, 3) := by decide +kernel
theorem dX10_fillCover_7 : decode cX10_fillCover 7 = .ok (.getfield 178, 3) := by decide +kernel
theorem dX10_fillCover_10 : decode cX10_fillCover 10 = .ok (.istore_n 2, 1) := by decide +kernel
theorem dX10_fillCover_11 : decode cX10_fillCover 11 = .ok (.iconst 0, 1) := by decide +kernel
theorem dX10_fillCover_12 : decode cX10_fillCover 12 = .ok (.istore_n 3, 1) := by decide +kernel
theorem dX10_fillCover_13 : decode cX10_fillCover 13 = .ok (.iload_n 3, 1) := by decide +kernel
theorem dX10_fillCover_14 : decode cX10_fillCover 14 = .ok (.iload_n 1, 1) := by decide +kernel
theorem dX10_fillCover_15 : decode cX10_fillCover 15 = .ok (.if_icmp .ge 87, 3) := by decide +kernel
theorem dX10_fillCover_18 : decode cX10_fillCover 18 = .ok (.iconst 0, 1) := by decide +kernel
theorem dX10_fillCover_19 : decode cX10_fillCover 19 = .ok (.istore 4, 2) := by decide +kernel
theorem dX10_fillCover_21 : decode cX10_fillCover 21 = .ok (.iload 4, 2) := by decide +kernel
theorem dX10_fillCover_23 : decode cX10_fillCover 23 = .ok (.iload_n 1, 1) := by decide +kernel
theorem dX10_fillCover_24 : decode cX10_fillCover 24 = .ok (.if_icmp .ge 72, 3) := by decide +kernel
theorem dX10_fillCover_27 : decode cX10_fillCover 27 = .ok (.iconst 0, 1) := by decide +kernel
theorem dX10_fillCover_28 : decode cX10_fillCover 28 = .ok (.istore 5, 2) := by decide +kernel
theorem dX10_fillCover_30 : decode cX10_fillCover 30 = .ok (.iconst 0, 1) := by decide +kernel
theorem dX10_fillCover_31 : decode cX10_fillCover 31 = .ok (.istore 6, 2) := by decide +kernel
theorem dX10_fillCover_33 : decode cX10_fillCover 33 = .ok (.iload 6, 2) := by decide +kernel
theorem dX10_fillCover_35 : decode cX10_fillCover 35 = .ok (.iload_n 1, 1) := by decide +kernel
theorem dX10_fillCover_36 : decode cX10_fillCover 36 = .ok (.iadd, 1) := by decide +kernel
theorem dX10_fillCover_37 : decode cX10_fillCover 37 = .ok (.aload_n 0, 1) := by decide +kernel
theorem dX10_fillCover_38 : decode cX10_fillCover 38 = .ok (.getfield 26, 3) := by decide +kernel
theorem dX10_fillCover_41 : decode cX10_fillCover 41 = .ok (.getfield 172, 3) := by decide +kernel
theorem dX10_fillCover_44 : decode cX10_fillCover 44 = .ok (.if_icmp .gt 32, 3) := by decide +kernel
theorem dX10_fillCover_47 : decode cX10_fillCover 47 = .ok (.iload 5, 2) := by decide +kernel
theorem dX10_fillCover_49 : decode cX10_fillCover 49 = .ok (.aload_n 0, 1) := by decide +kernel
theorem dX10_fillCover_50 : decode cX10_fillCover 50 = .ok (.getfield 26, 3) := by decide +kernel
theorem dX10_fillCover_53 : decode cX10_fillCover 53 = .ok (.iload_n 3, 1) := by decide +kernel
theorem dX10_fillCover_54 : decode cX10_fillCover 54 = .ok (.iload 6, 2) := by decide +kernel
theorem dX10_fillCover_56 : decode cX10_fillCover 56 = .ok (.iadd, 1) := by decide +kernel
theorem dX10_fillCover_57 : decode cX10_fillCover 57 = .ok (.iload 4, 2) := by decide +kernel
theorem dX10_fillCover_59 : decode cX10_fillCover 59 = .ok (.iload 6, 2) := by decide +kernel
theorem dX10_fillCover_61 : decode cX10_fillCover 61 = .ok (.iadd, 1) := by decide +kernel
theorem dX10_fillCover_62 : decode cX10_fillCover 62 = .ok (.invokevirtual 169, 3) := by decide +kernel
theorem dX10_fillCover_65 : decode cX10_fillCover 65 = .ok (.iadd, 1) := by decide +kernel
theorem dX10_fillCover_66 : decode cX10_fillCover 66 = .ok (.iload_n 2, 1) := by decide +kernel
theorem dX10_fillCover_67 : decode cX10_fillCover 67 = .ok (.irem, 1) := by decide +kernel
theorem dX10_fillCover_68 : decode cX10_fillCover 68 = .ok (.istore 5, 2) := by decide +kernel
theorem dX10_fillCover_70 : decode cX10_fillCover 70 = .ok (.iinc 6 1, 3) := by decide +kernel
theorem dX10_fillCover_73 : decode cX10_fillCover 73 = .ok (.goto (-40), 3) := by decide +kernel
theorem dX10_fillCover_76 : decode cX10_fillCover 76 = .ok (.aload_n 0, 1) := by decide +kernel
theorem dX10_fillCover_77 : decode cX10_fillCover 77 = .ok (.getfield 44, 3) := by decide +kernel
theorem dX10_fillCover_80 : decode cX10_fillCover 80 = .ok (.getfield 188, 3) := by decide +kernel
theorem dX10_fillCover_83 : decode cX10_fillCover 83 = .ok (.iload_n 3, 1) := by decide +kernel
theorem dX10_fillCover_84 : decode cX10_fillCover 84 = .ok (.aaload, 1) := by decide +kernel
theorem dX10_fillCover_85 : decode cX10_fillCover 85 = .ok (.iload 4, 2) := by decide +kernel
theorem dX10_fillCover_87 : decode cX10_fillCover 87 = .ok (.iload 5, 2) := by decide +kernel
theorem dX10_fillCover_89 : decode cX10_fillCover 89 = .ok (.iastore, 1) := by decide +kernel
theorem dX10_fillCover_90 : decode cX10_fillCover 90 = .ok (.iinc 4 1, 3) := by decide +kernel
theorem dX10_fillCover_93 : decode cX10_fillCover 93 = .ok (.goto (-72), 3) := by decide +kernel
theorem dX10_fillCover_96 : decode cX10_fillCover 96 = .ok (.iinc 3 1, 3) := by decide +kernel
theorem dX10_fillCover_99 : decode cX10_fillCover 99 = .ok (.goto (-86), 3) := by decide +kernel
theorem dX10_fillCover_102 : decode cX10_fillCover 102 = .ok (.return_, 1) := by decide +kernel
theorem dX10_canSmooth_0 : decode cX10_canSmooth 0 = .ok (.iload_n 1, 1) := by decide +kernel
theorem dX10_canSmooth_1 : decode cX10_canSmooth 1 = .ok (.iconst 1, 1) := by decide +kernel
theorem dX10_canSmooth_2 : decode cX10_canSmooth 2 = .ok (.if_icmp .lt 28, 3) := by decide +kernel
theorem dX10_canSmooth_5 : decode cX10_canSmooth 5 = .ok (.iload_n 1, 1) := by decide +kernel
theorem dX10_canSmooth_6 : decode cX10_canSmooth 6 = .ok (.aload_n 0, 1) := by decide +kernel
theorem dX10_canSmooth_7 : decode cX10_canSmooth 7 = .ok (.getfield 26, 3) := by decide +kernel
theorem dX10_canSmooth_10 : decode cX10_canSmooth 10 = .ok (.getfield 172, 3) := by decide +kernel
theorem dX10_canSmooth_13 : decode cX10_canSmooth 13 = .ok (.if_icmp .gt 17, 3) := by decide +kernel
theorem dX10_canSmooth_16 : decode cX10_canSmooth 16 = .ok (.aload_n 0, 1) := by decide +kernel
theorem dX10_canSmooth_17 : decode cX10_canSmooth 17 = .ok (.getfield 26, 3) := by decide +kernel
theorem dX10_canSmooth_20 : decode cX10_canSmooth 20 = .ok (.invokevirtual 218, 3) := by decide +kernel
theorem dX10_canSmooth_23 : decode cX10_canSmooth 23 = .ok (.ifCond .eq 7, 3) := by decide +kernel
theorem dX10_canSmooth_26 : decode cX10_canSmooth 26 = .ok (.iconst 1, 1) := by decide +kernel
theorem dX10_canSmooth_27 : decode cX10_canSmooth 27 = .ok (.goto 4, 3) := by decide +kernel
theorem dX10_canSmooth_30 : decode cX10_canSmooth 30 = .ok (.iconst 0, 1) := by decide +kernel
theorem dX10_canSmooth_31 : decode cX10_canSmooth 31 = .ok (.ireturn, 1) := by decide +kernel
theorem dX10_takeReadings_0 : decode cX10_takeReadings 0 = .ok (.aload_n 0, 1) := by decide +kernel
theorem dX10_takeReadings_1 : decode cX10_takeReadings 1 = .ok (.getfield 10, 3) := by decide +kernel
theorem dX10_takeReadings_4 : decode cX10_takeReadings 4 = .ok (.getfield 108, 3) := by decide +kernel
theorem dX10_takeReadings_7 : decode cX10_takeReadings 7 = .ok (.istore_n 1, 1) := by decide +kernel
theorem dX10_takeReadings_8 : decode cX10_takeReadings 8 = .ok (.aload_n 0, 1) := by decide +kernel
theorem dX10_takeReadings_9 : decode cX10_takeReadings 9 = .ok (.getfield 10, 3) := by decide +kernel
theorem dX10_takeReadings_12 : decode cX10_takeReadings 12 = .ok (.iconst 0, 1) := by decide +kernel
theorem dX10_takeReadings_13 : decode cX10_takeReadings 13 = .ok (.putfield 108, 3) := by decide +kernel
theorem dX10_takeReadings_16 : decode cX10_takeReadings 16 = .ok (.iload_n 1, 1) := by decide +kernel
theorem dX10_takeReadings_17 : decode cX10_takeReadings 17 = .ok (.iconst 2, 1) := by decide +kernel
theorem dX10_takeReadings_18 : decode cX10_takeReadings 18 = .ok (.irem, 1) := by decide +kernel
theorem dX10_takeReadings_19 : decode cX10_takeReadings 19 = .ok (.ifCond .ne 11, 3) := by decide +kernel
theorem dX10_takeReadings_22 : decode cX10_takeReadings 22 = .ok (.iload_n 1, 1) := by decide +kernel
theorem dX10_takeReadings_23 : decode cX10_takeReadings 23 = .ok (.iconst 2, 1) := by decide +kernel
theorem dX10_takeReadings_24 : decode cX10_takeReadings 24 = .ok (.idiv, 1) := by decide +kernel
theorem dX10_takeReadings_25 : decode cX10_takeReadings 25 = .ok (.bipush 10, 2) := by decide +kernel
theorem dX10_takeReadings_27 : decode cX10_takeReadings 27 = .ok (.if_icmp .le 5, 3) := by decide +kernel
theorem dX10_takeReadings_30 : decode cX10_takeReadings 30 = .ok (.iconst (-1), 1) := by decide +kernel
theorem dX10_takeReadings_31 : decode cX10_takeReadings 31 = .ok (.ireturn, 1) := by decide +kernel
theorem dX10_takeReadings_32 : decode cX10_takeReadings 32 = .ok (.iconst 0, 1) := by decide +kernel
theorem dX10_takeReadings_33 : decode cX10_takeReadings 33 = .ok (.istore_n 2, 1) := by decide +kernel
theorem dX10_takeReadings_34 : decode cX10_takeReadings 34 = .ok (.iload_n 2, 1) := by decide +kernel
theorem dX10_takeReadings_35 : decode cX10_takeReadings 35 = .ok (.iload_n 1, 1) := by decide +kernel
theorem dX10_takeReadings_36 : decode cX10_takeReadings 36 = .ok (.iconst 2, 1) := by decide +kernel
theorem dX10_takeReadings_37 : decode cX10_takeReadings 37 = .ok (.idiv, 1) := by decide +kernel
theorem dX10_takeReadings_38 : decode cX10_takeReadings 38 = .ok (.if_icmp .ge 55, 3) := by decide +kernel
theorem dX10_takeReadings_41 : decode cX10_takeReadings 41 = .ok (.aload_n 0, 1) := by decide +kernel
theorem dX10_takeReadings_42 : decode cX10_takeReadings 42 = .ok (.getfield 69, 3) := by decide +kernel
theorem dX10_takeReadings_45 : decode cX10_takeReadings 45 = .ok (.iload_n 2, 1) := by decide +kernel
theorem dX10_takeReadings_46 : decode cX10_takeReadings 46 = .ok (.aload_n 0, 1) := by decide +kernel
theorem dX10_takeReadings_47 : decode cX10_takeReadings 47 = .ok (.getfield 10, 3) := by decide +kernel
theorem dX10_takeReadings_50 : decode cX10_takeReadings 50 = .ok (.getfield 306, 3) := by decide +kernel
theorem dX10_takeReadings_53 : decode cX10_takeReadings 53 = .ok (.iconst 2, 1) := by decide +kernel
theorem dX10_takeReadings_54 : decode cX10_takeReadings 54 = .ok (.iload_n 2, 1) := by decide +kernel
theorem dX10_takeReadings_55 : decode cX10_takeReadings 55 = .ok (.imul, 1) := by decide +kernel
theorem dX10_takeReadings_56 : decode cX10_takeReadings 56 = .ok (.iaload, 1) := by decide +kernel
theorem dX10_takeReadings_57 : decode cX10_takeReadings 57 = .ok (.sipush 256, 3) := by decide +kernel
theorem dX10_takeReadings_60 : decode cX10_takeReadings 60 = .ok (.imul, 1) := by decide +kernel
theorem dX10_takeReadings_61 : decode cX10_takeReadings 61 = .ok (.aload_n 0, 1) := by decide +kernel
theorem dX10_takeReadings_62 : decode cX10_takeReadings 62 = .ok (.getfield 10, 3) := by decide +kernel
theorem dX10_takeReadings_65 : decode cX10_takeReadings 65 = .ok (.getfield 306, 3) := by decide +kernel
theorem dX10_takeReadings_68 : decode cX10_takeReadings 68 = .ok (.iconst 2, 1) := by decide +kernel
theorem dX10_takeReadings_69 : decode cX10_takeReadings 69 = .ok (.iload_n 2, 1) := by decide +kernel
theorem dX10_takeReadings_70 : decode cX10_takeReadings 70 = .ok (.imul, 1) := by decide +kernel
theorem dX10_takeReadings_71 : decode cX10_takeReadings 71 = .ok (.iconst 1, 1) := by decide +kernel
theorem dX10_takeReadings_72 : decode cX10_takeReadings 72 = .ok (.iadd, 1) := by decide +kernel
theorem dX10_takeReadings_73 : decode cX10_takeReadings 73 = .ok (.iaload, 1) := by decide +kernel
theorem dX10_takeReadings_74 : decode cX10_takeReadings 74 = .ok (.iadd, 1) := by decide +kernel
theorem dX10_takeReadings_75 : decode cX10_takeReadings 75 = .ok (.aload_n 0, 1) := by decide +kernel
theorem dX10_takeReadings_76 : decode cX10_takeReadings 76 = .ok (.getfield 26, 3) := by decide +kernel
theorem dX10_takeReadings_79 : decode cX10_takeReadings 79 = .ok (.getfield 153, 3) := by decide +kernel
theorem dX10_takeReadings_82 : decode cX10_takeReadings 82 = .ok (.getfield 178, 3) := by decide +kernel
theorem dX10_takeReadings_85 : decode cX10_takeReadings 85 = .ok (.irem, 1) := by decide +kernel
theorem dX10_takeReadings_86 : decode cX10_takeReadings 86 = .ok (.iastore, 1) := by decide +kernel
theorem dX10_takeReadings_87 : decode cX10_takeReadings 87 = .ok (.iinc 2 1, 3) := by decide +kernel
theorem dX10_takeReadings_90 : decode cX10_takeReadings 90 = .ok (.goto (-56), 3) := by decide +kernel
theorem dX10_takeReadings_93 : decode cX10_takeReadings 93 = .ok (.iload_n 1, 1) := by decide +kernel
theorem dX10_takeReadings_94 : decode cX10_takeReadings 94 = .ok (.iconst 2, 1) := by decide +kernel
theorem dX10_takeReadings_95 : decode cX10_takeReadings 95 = .ok (.idiv, 1) := by decide +kernel
theorem dX10_takeReadings_96 : decode cX10_takeReadings 96 = .ok (.ireturn, 1) := by decide +kernel
theorem dX10_driftFits_0 : decode cX10_driftFits 0 = .ok (.aload_n 0, 1) := by decide +kernel
theorem dX10_driftFits_1 : decode cX10_driftFits 1 = .ok (.getfield 26, 3) := by decide +kernel
theorem dX10_driftFits_4 : decode cX10_driftFits 4 = .ok (.getfield 153, 3) := by decide +kernel
theorem dX10_driftFits_7 : decode cX10_driftFits 7 = .ok (.astore 4, 2) := by decide +kernel
theorem dX10_driftFits_9 : decode cX10_driftFits 9 = .ok (.iconst 1, 1) := by decide +kernel
theorem dX10_driftFits_10 : decode cX10_driftFits 10 = .ok (.istore 5, 2) := by decide +kernel
theorem dX10_driftFits_12 : decode cX10_driftFits 12 = .ok (.iload 5, 2) := by decide +kernel
theorem dX10_driftFits_14 : decode cX10_driftFits 14 = .ok (.iload_n 3, 1) := by decide +kernel
theorem dX10_driftFits_15 : decode cX10_driftFits 15 = .ok (.if_icmp .ge 55, 3) := by decide +kernel
theorem dX10_driftFits_18 : decode cX10_driftFits 18 = .ok (.aload 4, 2) := by decide +kernel
theorem dX10_driftFits_20 : decode cX10_driftFits 20 = .ok (.iload_n 1, 1) := by decide +kernel
theorem dX10_driftFits_21 : decode cX10_driftFits 21 = .ok (.iload 5, 2) := by decide +kernel
theorem dX10_driftFits_23 : decode cX10_driftFits 23 = .ok (.imul, 1) := by decide +kernel
theorem dX10_driftFits_24 : decode cX10_driftFits 24 = .ok (.aload 4, 2) := by decide +kernel
theorem dX10_driftFits_26 : decode cX10_driftFits 26 = .ok (.getfield 185, 3) := by decide +kernel
theorem dX10_driftFits_29 : decode cX10_driftFits 29 = .ok (.irem, 1) := by decide +kernel
theorem dX10_driftFits_30 : decode cX10_driftFits 30 = .ok (.iload_n 2, 1) := by decide +kernel
theorem dX10_driftFits_31 : decode cX10_driftFits 31 = .ok (.invokevirtual 162, 3) := by decide +kernel
theorem dX10_driftFits_34 : decode cX10_driftFits 34 = .ok (.istore 6, 2) := by decide +kernel
theorem dX10_driftFits_36 : decode cX10_driftFits 36 = .ok (.aload_n 0, 1) := by decide +kernel
theorem dX10_driftFits_37 : decode cX10_driftFits 37 = .ok (.getfield 69, 3) := by decide +kernel
theorem dX10_driftFits_40 : decode cX10_driftFits 40 = .ok (.iload 5, 2) := by decide +kernel
theorem dX10_driftFits_42 : decode cX10_driftFits 42 = .ok (.iaload, 1) := by decide +kernel
theorem dX10_driftFits_43 : decode cX10_driftFits 43 = .ok (.aload_n 0, 1) := by decide +kernel
theorem dX10_driftFits_44 : decode cX10_driftFits 44 = .ok (.getfield 69, 3) := by decide +kernel
theorem dX10_driftFits_47 : decode cX10_driftFits 47 = .ok (.iconst 0, 1) := by decide +kernel
theorem dX10_driftFits_48 : decode cX10_driftFits 48 = .ok (.iaload, 1) := by decide +kernel
theorem dX10_driftFits_49 : decode cX10_driftFits 49 = .ok (.iload 6, 2) := by decide +kernel
theorem dX10_driftFits_51 : decode cX10_driftFits 51 = .ok (.aload 4, 2) := by decide +kernel
theorem dX10_driftFits_53 : decode cX10_driftFits 53 = .ok (.getfield 178, 3) := by decide +kernel
theorem dX10_driftFits_56 : decode cX10_driftFits 56 = .ok (.invokestatic 257, 3) := by decide +kernel
theorem dX10_driftFits_59 : decode cX10_driftFits 59 = .ok (.if_icmp .eq 5, 3) := by decide +kernel
theorem dX10_driftFits_62 : decode cX10_driftFits 62 = .ok (.iconst 0, 1) := by decide +kernel
theorem dX10_driftFits_63 : decode cX10_driftFits 63 = .ok (.ireturn, 1) := by decide +kernel
theorem dX10_driftFits_64 : decode cX10_driftFits 64 = .ok (.iinc 5 1, 3) := by decide +kernel
theorem dX10_driftFits_67 : decode cX10_driftFits 67 = .ok (.goto (-55), 3) := by decide +kernel
theorem dX10_driftFits_70 : decode cX10_driftFits 70 = .ok (.iconst 1, 1) := by decide +kernel
theorem dX10_driftFits_71 : decode cX10_driftFits 71 = .ok (.ireturn, 1) := by decide +kernel
theorem dX10_tracksOfDeaf_0 : decode cX10_tracksOfDeaf 0 = .ok (.iconst 0, 1) := by decide +kernel
theorem dX10_tracksOfDeaf_1 : decode cX10_tracksOfDeaf 1 = .ok (.istore_n 2, 1) := by decide +kernel
theorem dX10_tracksOfDeaf_2 : decode cX10_tracksOfDeaf 2 = .ok (.iload_n 2, 1) := by decide +kernel
theorem dX10_tracksOfDeaf_3 : decode cX10_tracksOfDeaf 3 = .ok (.iload_n 1, 1) := by decide +kernel
theorem dX10_tracksOfDeaf_4 : decode cX10_tracksOfDeaf 4 = .ok (.if_icmp .ge 20, 3) := by decide +kernel
theorem dX10_tracksOfDeaf_7 : decode cX10_tracksOfDeaf 7 = .ok (.aload_n 0, 1) := by decide +kernel
theorem dX10_tracksOfDeaf_8 : decode cX10_tracksOfDeaf 8 = .ok (.getfield 69, 3) := by decide +kernel
theorem dX10_tracksOfDeaf_11 : decode cX10_tracksOfDeaf 11 = .ok (.iload_n 2, 1) := by decide +kernel
theorem dX10_tracksOfDeaf_12 : decode cX10_tracksOfDeaf 12 = .ok (.iaload, 1) := by decide +kernel
theorem dX10_tracksOfDeaf_13 : decode cX10_tracksOfDeaf 13 = .ok (.ifCond .eq 5, 3) := by decide +kernel
theorem dX10_tracksOfDeaf_16 : decode cX10_tracksOfDeaf 16 = .ok (.iconst 0, 1) := by decide +kernel
theorem dX10_tracksOfDeaf_17 : decode cX10_tracksOfDeaf 17 = .ok (.ireturn, 1) := by decide +kernel
theorem dX10_tracksOfDeaf_18 : decode cX10_tracksOfDeaf 18 = .ok (.iinc 2 1, 3) := by decide +kernel
theorem dX10_tracksOfDeaf_21 : decode cX10_tracksOfDeaf 21 = .ok (.goto (-19), 3) := by decide +kernel
theorem dX10_tracksOfDeaf_24 : decode cX10_tracksOfDeaf 24 = .ok (.aload_n 0, 1) := by decide +kernel
theorem dX10_tracksOfDeaf_25 : decode cX10_tracksOfDeaf 25 = .ok (.iconst 0, 1) := by decide +kernel
theorem dX10_tracksOfDeaf_26 : decode cX10_tracksOfDeaf 26 = .ok (.iconst 0, 1) := by decide +kernel
theorem dX10_tracksOfDeaf_27 : decode cX10_tracksOfDeaf 27 = .ok (.invokevirtual 261, 3) := by decide +kernel
theorem dX10_tracksOfDeaf_30 : decode cX10_tracksOfDeaf 30 = .ok (.aload_n 0, 1) := by decide +kernel
theorem dX10_tracksOfDeaf_31 : decode cX10_tracksOfDeaf 31 = .ok (.getfield 26, 3) := by decide +kernel
theorem dX10_tracksOfDeaf_34 : decode cX10_tracksOfDeaf 34 = .ok (.getfield 153, 3) := by decide +kernel
theorem dX10_tracksOfDeaf_37 : decode cX10_tracksOfDeaf 37 = .ok (.getfield 185, 3) := by decide +kernel
theorem dX10_tracksOfDeaf_40 : decode cX10_tracksOfDeaf 40 = .ok (.aload_n 0, 1) := by decide +kernel
theorem dX10_tracksOfDeaf_41 : decode cX10_tracksOfDeaf 41 = .ok (.getfield 26, 3) := by decide +kernel
theorem dX10_tracksOfDeaf_44 : decode cX10_tracksOfDeaf 44 = .ok (.getfield 153, 3) := by decide +kernel
theorem dX10_tracksOfDeaf_47 : decode cX10_tracksOfDeaf 47 = .ok (.getfield 185, 3) := by decide +kernel
theorem dX10_tracksOfDeaf_50 : decode cX10_tracksOfDeaf 50 = .ok (.imul, 1) := by decide +kernel
theorem dX10_tracksOfDeaf_51 : decode cX10_tracksOfDeaf 51 = .ok (.ireturn, 1) := by decide +kernel
theorem dX10_tellTrack_0 : decode cX10_tellTrack 0 = .ok (.aload_n 0, 1) := by decide +kernel
theorem dX10_tellTrack_1 : decode cX10_tellTrack 1 = .ok (.getfield 78, 3) := by decide +kernel
theorem dX10_tellTrack_4 : decode cX10_tellTrack 4 = .ok (.iconst 3, 1) := by decide +kernel
theorem dX10_tellTrack_5 : decode cX10_tellTrack 5 = .ok (.putfield 231, 3) := by decide +kernel
theorem dX10_tellTrack_8 : decode cX10_tellTrack 8 = .ok (.aload_n 0, 1) := by decide +kernel
theorem dX10_tellTrack_9 : decode cX10_tellTrack 9 = .ok (.getfield 78, 3) := by decide +kernel
theorem dX10_tellTrack_12 : decode cX10_tellTrack 12 = .ok (.getfield 290, 3) := by decide +kernel
theorem dX10_tellTrack_15 : decode cX10_tellTrack 15 = .ok (.iconst 0, 1) := by decide +kernel
theorem dX10_tellTrack_16 : decode cX10_tellTrack 16 = .ok (.iconst 0, 1) := by decide +kernel
theorem dX10_tellTrack_17 : decode cX10_tellTrack 17 = .ok (.iastore, 1) := by decide +kernel
theorem dX10_tellTrack_18 : decode cX10_tellTrack 18 = .ok (.aload_n 0, 1) := by decide +kernel
theorem dX10_tellTrack_19 : decode cX10_tellTrack 19 = .ok (.getfield 78, 3) := by decide +kernel
theorem dX10_tellTrack_22 : decode cX10_tellTrack 22 = .ok (.getfield 290, 3) := by decide +kernel
theorem dX10_tellTrack_25 : decode cX10_tellTrack 25 = .ok (.iconst 1, 1) := by decide +kernel
theorem dX10_tellTrack_26 : decode cX10_tellTrack 26 = .ok (.iload_n 1, 1) := by decide +kernel
theorem dX10_tellTrack_27 : decode cX10_tellTrack 27 = .ok (.iastore, 1) := by decide +kernel
theorem dX10_tellTrack_28 : decode cX10_tellTrack 28 = .ok (.aload_n 0, 1) := by decide +kernel
theorem dX10_tellTrack_29 : decode cX10_tellTrack 29 = .ok (.getfield 78, 3) := by decide +kernel
theorem dX10_tellTrack_32 : decode cX10_tellTrack 32 = .ok (.getfield 290, 3) := by decide +kernel
theorem dX10_tellTrack_35 : decode cX10_tellTrack 35 = .ok (.iconst 2, 1) := by decide +kernel
theorem dX10_tellTrack_36 : decode cX10_tellTrack 36 = .ok (.iload_n 2, 1) := by decide +kernel
theorem dX10_tellTrack_37 : decode cX10_tellTrack 37 = .ok (.iastore, 1) := by decide +kernel
theorem dX10_tellTrack_38 : decode cX10_tellTrack 38 = .ok (.return_, 1) := by decide +kernel
theorem dX10_findMakerNumbers_0 : decode cX10_findMakerNumbers 0 = .ok (.iconst 0, 1) := by decide +kernel
theorem dX10_findMakerNumbers_1 : decode cX10_findMakerNumbers 1 = .ok (.istore_n 2, 1) := by decide +kernel
theorem dX10_findMakerNumbers_2 : decode cX10_findMakerNumbers 2 = .ok (.iload_n 2, 1) := by decide +kernel
theorem dX10_findMakerNumbers_3 : decode cX10_findMakerNumbers 3 = .ok (.aload_n 0, 1) := by decide +kernel
theorem dX10_findMakerNumbers_4 : decode cX10_findMakerNumbers 4 = .ok (.getfield 26, 3) := by decide +kernel
theorem dX10_findMakerNumbers_7 : decode cX10_findMakerNumbers 7 = .ok (.getfield 172, 3) := by decide +kernel
theorem dX10_findMakerNumbers_10 : decode cX10_findMakerNumbers 10 = .ok (.if_icmp .ge 67, 3) := by decide +kernel
theorem dX10_findMakerNumbers_13 : decode cX10_findMakerNumbers 13 = .ok (.iconst 0, 1) := by decide +kernel
theorem dX10_findMakerNumbers_14 : decode cX10_findMakerNumbers 14 = .ok (.istore_n 3, 1) := by decide +kernel
theorem dX10_findMakerNumbers_15 : decode cX10_findMakerNumbers 15 = .ok (.iload_n 3, 1) := by decide +kernel
theorem dX10_findMakerNumbers_16 : decode cX10_findMakerNumbers 16 = .ok (.iload_n 1, 1) := by decide +kernel
theorem dX10_findMakerNumbers_17 : decode cX10_findMakerNumbers 17 = .ok (.if_icmp .ge 37, 3) := by decide +kernel
theorem dX10_findMakerNumbers_20 : decode cX10_findMakerNumbers 20 = .ok (.aload_n 0, 1) := by decide +kernel
theorem dX10_findMakerNumbers_21 : decode cX10_findMakerNumbers 21 = .ok (.getfield 44, 3) := by decide +kernel
theorem dX10_findMakerNumbers_24 : decode cX10_findMakerNumbers 24 = .ok (.getfield 188, 3) := by decide +kernel
theorem dX10_findMakerNumbers_27 : decode cX10_findMakerNumbers 27 = .ok (.iload_n 2, 1) := by decide +kernel
theorem dX10_findMakerNumbers_28 : decode cX10_findMakerNumbers 28 = .ok (.aaload, 1) := by decide +kernel
theorem dX10_findMakerNumbers_29 : decode cX10_findMakerNumbers 29 = .ok (.iload_n 3, 1) := by decide +kernel
theorem dX10_findMakerNumbers_30 : decode cX10_findMakerNumbers 30 = .ok (.aload_n 0, 1) := by decide +kernel
theorem dX10_findMakerNumbers_31 : decode cX10_findMakerNumbers 31 = .ok (.getfield 26, 3) := by decide +kernel
theorem dX10_findMakerNumbers_34 : decode cX10_findMakerNumbers 34 = .ok (.iload_n 2, 1) := by decide +kernel
theorem dX10_findMakerNumbers_35 : decode cX10_findMakerNumbers 35 = .ok (.aload_n 0, 1) := by decide +kernel
theorem dX10_findMakerNumbers_36 : decode cX10_findMakerNumbers 36 = .ok (.getfield 82, 3) := by decide +kernel
theorem dX10_findMakerNumbers_39 : decode cX10_findMakerNumbers 39 = .ok (.getfield 290, 3) := by decide +kernel
theorem dX10_findMakerNumbers_42 : decode cX10_findMakerNumbers 42 = .ok (.iload_n 3, 1) := by decide +kernel
theorem dX10_findMakerNumbers_43 : decode cX10_findMakerNumbers 43 = .ok (.iaload, 1) := by decide +kernel
theorem dX10_findMakerNumbers_44 : decode cX10_findMakerNumbers 44 = .ok (.invokevirtual 192, 3) := by decide +kernel
theorem dX10_findMakerNumbers_47 : decode cX10_findMakerNumbers 47 = .ok (.iastore, 1) := by decide +kernel
theorem dX10_findMakerNumbers_48 : decode cX10_findMakerNumbers 48 = .ok (.iinc 3 1, 3) := by decide +kernel
theorem dX10_findMakerNumbers_51 : decode cX10_findMakerNumbers 51 = .ok (.goto (-36), 3) := by decide +kernel
theorem dX10_findMakerNumbers_54 : decode cX10_findMakerNumbers 54 = .ok (.aload_n 0, 1) := by decide +kernel
theorem dX10_findMakerNumbers_55 : decode cX10_findMakerNumbers 55 = .ok (.getfield 44, 3) := by decide +kernel
theorem dX10_findMakerNumbers_58 : decode cX10_findMakerNumbers 58 = .ok (.getfield 188, 3) := by decide +kernel
theorem dX10_findMakerNumbers_61 : decode cX10_findMakerNumbers 61 = .ok (.iload_n 2, 1) := by decide +kernel
theorem dX10_findMakerNumbers_62 : decode cX10_findMakerNumbers 62 = .ok (.aaload, 1) := by decide +kernel
theorem dX10_findMakerNumbers_63 : decode cX10_findMakerNumbers 63 = .ok (.iload_n 1, 1) := by decide +kernel
theorem dX10_findMakerNumbers_64 : decode cX10_findMakerNumbers 64 = .ok (.aload_n 0, 1) := by decide +kernel
theorem dX10_findMakerNumbers_65 : decode cX10_findMakerNumbers 65 = .ok (.getfield 69, 3) := by decide +kernel
theorem dX10_findMakerNumbers_68 : decode cX10_findMakerNumbers 68 = .ok (.iload_n 2, 1) := by decide +kernel
theorem dX10_findMakerNumbers_69 : decode cX10_findMakerNumbers 69 = .ok (.iaload, 1) := by decide +kernel
theorem dX10_findMakerNumbers_70 : decode cX10_findMakerNumbers 70 = .ok (.iastore, 1) := by decide +kernel
theorem dX10_findMakerNumbers_71 : decode cX10_findMakerNumbers 71 = .ok (.iinc 2 1, 3) := by decide +kernel
theorem dX10_findMakerNumbers_74 : decode cX10_findMakerNumbers 74 = .ok (.goto (-72), 3) := by decide +kernel
theorem dX10_findMakerNumbers_77 : decode cX10_findMakerNumbers 77 = .ok (.aload_n 0, 1) := by decide +kernel
theorem dX10_findMakerNumbers_78 : decode cX10_findMakerNumbers 78 = .ok (.getfield 44, 3) := by decide +kernel
theorem dX10_findMakerNumbers_81 : decode cX10_findMakerNumbers 81 = .ok (.aload_n 0, 1) := by decide +kernel
theorem dX10_findMakerNumbers_82 : decode cX10_findMakerNumbers 82 = .ok (.getfield 26, 3) := by decide +kernel
theorem dX10_findMakerNumbers_85 : decode cX10_findMakerNumbers 85 = .ok (.getfield 172, 3) := by decide +kernel
theorem dX10_findMakerNumbers_88 : decode cX10_findMakerNumbers 88 = .ok (.iload_n 1, 1) := by decide +kernel
theorem dX10_findMakerNumbers_89 : decode cX10_findMakerNumbers 89 = .ok (.aload_n 0, 1) := by decide +kernel
theorem dX10_findMakerNumbers_90 : decode cX10_findMakerNumbers 90 = .ok (.getfield 26, 3) := by decide +kernel
theorem dX10_findMakerNumbers_93 : decode cX10_findMakerNumbers 93 = .ok (.getfield 153, 3) := by decide +kernel
theorem dX10_findMakerNumbers_96 : decode cX10_findMakerNumbers 96 = .ok (.getfield 178, 3) := by decide +kernel
theorem dX10_findMakerNumbers_99 : decode cX10_findMakerNumbers 99 = .ok (.aload_n 0, 1) := by decide +kernel
theorem dX10_findMakerNumbers_100 : decode cX10_findMakerNumbers 100 = .ok (.getfield 85, 3) := by decide +kernel
theorem dX10_findMakerNumbers_103 : decode cX10_findMakerNumbers 103 = .ok (.invokevirtual 309, 3) := by decide +kernel
theorem dX10_findMakerNumbers_106 : decode cX10_findMakerNumbers 106 = .ok (.pop, 1) := by decide +kernel
theorem dX10_findMakerNumbers_107 : decode cX10_findMakerNumbers 107 = .ok (.return_, 1) := by decide +kernel
theorem dX10_findLiars_0 : decode cX10_findLiars 0 = .ok (.iconst 0, 1) := by decide +kernel
theorem dX10_findLiars_1 : decode cX10_findLiars 1 = .ok (.istore_n 3, 1) := by decide +kernel
theorem dX10_findLiars_2 : decode cX10_findLiars 2 = .ok (.iload_n 1, 1) := by decide +kernel
theorem dX10_findLiars_3 : decode cX10_findLiars 3 = .ok (.ifCond .le 13, 3) := by decide +kernel
theorem dX10_findLiars_6 : decode cX10_findLiars 6 = .ok (.aload_n 0, 1) := by decide +kernel
theorem dX10_findLiars_7 : decode cX10_findLiars 7 = .ok (.getfield 26, 3) := by decide +kernel
theorem dX10_findLiars_10 : decode cX10_findLiars 10 = .ok (.getfield 172, 3) := by decide +kernel
theorem dX10_findLiars_13 : decode cX10_findLiars 13 = .ok (.goto 4, 3) := by decide +kernel
theorem dX10_findLiars_16 : decode cX10_findLiars 16 = .ok (.iconst 1, 1) := by decide +kernel
theorem dX10_findLiars_17 : decode cX10_findLiars 17 = .ok (.istore 4, 2) := by decide +kernel
theorem dX10_findLiars_19 : decode cX10_findLiars 19 = .ok (.iconst 0, 1) := by decide +kernel
theorem dX10_findLiars_20 : decode cX10_findLiars 20 = .ok (.istore 5, 2) := by decide +kernel
theorem dX10_findLiars_22 : decode cX10_findLiars 22 = .ok (.iload 5, 2) := by decide +kernel
theorem dX10_findLiars_24 : decode cX10_findLiars 24 = .ok (.iload 4, 2) := by decide +kernel
theorem dX10_findLiars_26 : decode cX10_findLiars 26 = .ok (.if_icmp .ge 107, 3) := by decide +kernel
theorem dX10_findLiars_29 : decode cX10_findLiars 29 = .ok (.iload_n 1, 1) := by decide +kernel
theorem dX10_findLiars_30 : decode cX10_findLiars 30 = .ok (.iconst 1, 1) := by decide +kernel
theorem dX10_findLiars_31 : decode cX10_findLiars 31 = .ok (.if_icmp .le 13, 3) := by decide +kernel
theorem dX10_findLiars_34 : decode cX10_findLiars 34 = .ok (.aload_n 0, 1) := by decide +kernel
theorem dX10_findLiars_35 : decode cX10_findLiars 35 = .ok (.getfield 26, 3) := by decide +kernel
theorem dX10_findLiars_38 : decode cX10_findLiars 38 = .ok (.getfield 172, 3) := by decide +kernel
theorem dX10_findLiars_41 : decode cX10_findLiars 41 = .ok (.goto 7, 3) := by decide +kernel
theorem dX10_findLiars_44 : decode cX10_findLiars 44 = .ok (.iload 5, 2) := by decide +kernel
theorem dX10_findLiars_46 : decode cX10_findLiars 46 = .ok (.iconst 2, 1) := by decide +kernel
theorem dX10_findLiars_47 : decode cX10_findLiars 47 = .ok (.iadd, 1) := by decide +kernel
theorem dX10_findLiars_48 : decode cX10_findLiars 48 = .ok (.istore 6, 2) := by decide +kernel
theorem dX10_findLiars_50 : decode cX10_findLiars 50 = .ok (.iload 5, 2) := by decide +kernel
theorem dX10_findLiars_52 : decode cX10_findLiars 52 = .ok (.iconst 1, 1) := by decide +kernel
theorem dX10_findLiars_53 : decode cX10_findLiars 53 = .ok (.iadd, 1) := by decide +kernel
theorem dX10_findLiars_54 : decode cX10_findLiars 54 = .ok (.istore 7, 2) := by decide +kernel
theorem dX10_findLiars_56 : decode cX10_findLiars 56 = .ok (.iload 7, 2) := by decide +kernel
theorem dX10_findLiars_58 : decode cX10_findLiars 58 = .ok (.iload 6, 2) := by decide +kernel
theorem dX10_findLiars_60 : decode cX10_findLiars 60 = .ok (.if_icmp .ge 67, 3) := by decide +kernel
theorem dX10_findLiars_63 : decode cX10_findLiars 63 = .ok (.aload_n 0, 1) := by decide +kernel
theorem dX10_findLiars_64 : decode cX10_findLiars 64 = .ok (.getfield 58, 3) := by decide +kernel
theorem dX10_findLiars_67 : decode cX10_findLiars 67 = .ok (.iload_n 1, 1) := by decide +kernel
theorem dX10_findLiars_68 : decode cX10_findLiars 68 = .ok (.ifCond .le 8, 3) := by decide +kernel
theorem dX10_findLiars_71 : decode cX10_findLiars 71 = .ok (.iload 5, 2) := by decide +kernel
theorem dX10_findLiars_73 : decode cX10_findLiars 73 = .ok (.goto 4, 3) := by decide +kernel
theorem dX10_findLiars_76 : decode cX10_findLiars 76 = .ok (.iconst (-1), 1) := by decide +kernel
theorem dX10_findLiars_77 : decode cX10_findLiars 77 = .ok (.iload_n 1, 1) := by decide +kernel
theorem dX10_findLiars_78 : decode cX10_findLiars 78 = .ok (.iconst 1, 1) := by decide +kernel
theorem dX10_findLiars_79 : decode cX10_findLiars 79 = .ok (.if_icmp .le 8, 3) := by decide +kernel
theorem dX10_findLiars_82 : decode cX10_findLiars 82 = .ok (.iload 7, 2) := by decide +kernel
theorem dX10_findLiars_84 : decode cX10_findLiars 84 = .ok (.goto 4, 3) := by decide +kernel
theorem dX10_findLiars_87 : decode cX10_findLiars 87 = .ok (.iconst (-1), 1) := by decide +kernel
theorem dX10_findLiars_88 : decode cX10_findLiars 88 = .ok (.invokevirtual 280, 3) := by decide +kernel
theorem dX10_findLiars_91 : decode cX10_findLiars 91 = .ok (.aload_n 0, 1) := by decide +kernel
theorem dX10_findLiars_92 : decode cX10_findLiars 92 = .ok (.getfield 58, 3) := by decide +kernel
theorem dX10_findLiars_95 : decode cX10_findLiars 95 = .ok (.iload_n 2, 1) := by decide +kernel
theorem dX10_findLiars_96 : decode cX10_findLiars 96 = .ok (.iconst 1, 1) := by decide +kernel
theorem dX10_findLiars_97 : decode cX10_findLiars 97 = .ok (.invokevirtual 283, 3) := by decide +kernel
theorem dX10_findLiars_100 : decode cX10_findLiars 100 = .ok (.iconst (-1), 1) := by decide +kernel
theorem dX10_findLiars_101 : decode cX10_findLiars 101 = .ok (.if_icmp .eq 20, 3) := by decide +kernel
theorem dX10_findLiars_104 : decode cX10_findLiars 104 = .ok (.iinc 3 1, 3) := by decide +kernel
theorem dX10_findLiars_107 : decode cX10_findLiars 107 = .ok (.iload_n 3, 1) := by decide +kernel
theorem dX10_findLiars_108 : decode cX10_findLiars 108 = .ok (.iconst 1, 1) := by decide +kernel
theorem dX10_findLiars_109 : decode cX10_findLiars 109 = .ok (.if_icmp .ne 12, 3) := by decide +kernel
theorem dX10_findLiars_112 : decode cX10_findLiars 112 = .ok (.aload_n 0, 1) := by decide +kernel
theorem dX10_findLiars_113 : decode cX10_findLiars 113 = .ok (.iload_n 1, 1) := by decide +kernel
theorem dX10_findLiars_114 : decode cX10_findLiars 114 = .ok (.iload 5, 2) := by decide +kernel
theorem dX10_findLiars_116 : decode cX10_findLiars 116 = .ok (.iload 7, 2) := by decide +kernel
theorem dX10_findLiars_118 : decode cX10_findLiars 118 = .ok (.invokevirtual 360, 3) := by decide +kernel
theorem dX10_findLiars_121 : decode cX10_findLiars 121 = .ok (.iinc 7 1, 3) := by decide +kernel
theorem dX10_findLiars_124 : decode cX10_findLiars 124 = .ok (.goto (-68), 3) := by decide +kernel
theorem dX10_findLiars_127 : decode cX10_findLiars 127 = .ok (.iinc 5 1, 3) := by decide +kernel
theorem dX10_findLiars_130 : decode cX10_findLiars 130 = .ok (.goto (-108), 3) := by decide +kernel
theorem dX10_findLiars_133 : decode cX10_findLiars 133 = .ok (.iload_n 3, 1) := by decide +kernel
theorem dX10_findLiars_134 : decode cX10_findLiars 134 = .ok (.ifCond .le 8, 3) := by decide +kernel
theorem dX10_findLiars_137 : decode cX10_findLiars 137 = .ok (.aload_n 0, 1) := by decide +kernel
theorem dX10_findLiars_138 : decode cX10_findLiars 138 = .ok (.iload_n 3, 1) := by decide +kernel
theorem dX10_findLiars_139 : decode cX10_findLiars 139 = .ok (.putfield 95, 3) := by decide +kernel
theorem dX10_findLiars_142 : decode cX10_findLiars 142 = .ok (.iload_n 3, 1) := by decide +kernel
theorem dX10_findLiars_143 : decode cX10_findLiars 143 = .ok (.ifCond .le 7, 3) := by decide +kernel
theorem dX10_findLiars_146 : decode cX10_findLiars 146 = .ok (.iconst 1, 1) := by decide +kernel
theorem dX10_findLiars_147 : decode cX10_findLiars 147 = .ok (.goto 4, 3) := by decide +kernel
theorem dX10_findLiars_150 : decode cX10_findLiars 150 = .ok (.iconst 0, 1) := by decide +kernel
theorem dX10_findLiars_151 : decode cX10_findLiars 151 = .ok (.ireturn, 1) := by decide +kernel
theorem dX10_tellLiars_0 : decode cX10_tellLiars 0 = .ok (.aload_n 0, 1) := by decide +kernel
theorem dX10_tellLiars_1 : decode cX10_tellLiars 1 = .ok (.getfield 92, 3) := by decide +kernel
theorem dX10_tellLiars_4 : decode cX10_tellLiars 4 = .ok (.iload_n 1, 1) := by decide +kernel
theorem dX10_tellLiars_5 : decode cX10_tellLiars 5 = .ok (.putfield 231, 3) := by decide +kernel
theorem dX10_tellLiars_8 : decode cX10_tellLiars 8 = .ok (.aload_n 0, 1) := by decide +kernel
theorem dX10_tellLiars_9 : decode cX10_tellLiars 9 = .ok (.getfield 92, 3) := by decide +kernel
theorem dX10_tellLiars_12 : decode cX10_tellLiars 12 = .ok (.getfield 290, 3) := by decide +kernel
theorem dX10_tellLiars_15 : decode cX10_tellLiars 15 = .ok (.iconst 0, 1) := by decide +kernel
theorem dX10_tellLiars_16 : decode cX10_tellLiars 16 = .ok (.iload_n 2, 1) := by decide +kernel
theorem dX10_tellLiars_17 : decode cX10_tellLiars 17 = .ok (.iastore, 1) := by decide +kernel
theorem dX10_tellLiars_18 : decode cX10_tellLiars 18 = .ok (.aload_n 0, 1) := by decide +kernel
theorem dX10_tellLiars_19 : decode cX10_tellLiars 19 = .ok (.getfield 92, 3) := by decide +kernel
theorem dX10_tellLiars_22 : decode cX10_tellLiars 22 = .ok (.getfield 290, 3) := by decide +kernel
theorem dX10_tellLiars_25 : decode cX10_tellLiars 25 = .ok (.iconst 1, 1) := by decide +kernel
theorem dX10_tellLiars_26 : decode cX10_tellLiars 26 = .ok (.iload_n 3, 1) := by decide +kernel
theorem dX10_tellLiars_27 : decode cX10_tellLiars 27 = .ok (.iastore, 1) := by decide +kernel
theorem dX10_tellLiars_28 : decode cX10_tellLiars 28 = .ok (.return_, 1) := by decide +kernel
theorem dX10_unlikeDirections_0 : decode cX10_unlikeDirections 0 = .ok (.lconst 0, 1) := by decide +kernel
theorem dX10_unlikeDirections_1 : decode cX10_unlikeDirections 1 = .ok (.lstore_n 2, 1) := by decide +kernel
theorem dX10_unlikeDirections_2 : decode cX10_unlikeDirections 2 = .ok (.iconst 0, 1) := by decide +kernel
theorem dX10_unlikeDirections_3 : decode cX10_unlikeDirections 3 = .ok (.istore 4, 2) := by decide +kernel
theorem dX10_unlikeDirections_5 : decode cX10_unlikeDirections 5 = .ok (.iload 4, 2) := by decide +kernel
theorem dX10_unlikeDirections_7 : decode cX10_unlikeDirections 7 = .ok (.iload_n 1, 1) := by decide +kernel
theorem dX10_unlikeDirections_8 : decode cX10_unlikeDirections 8 = .ok (.if_icmp .ge 56, 3) := by decide +kernel
theorem dX10_unlikeDirections_11 : decode cX10_unlikeDirections 11 = .ok (.aload_n 0, 1) := by decide +kernel
theorem dX10_unlikeDirections_12 : decode cX10_unlikeDirections 12 = .ok (.getfield 10, 3) := by decide +kernel
theorem dX10_unlikeDirections_15 : decode cX10_unlikeDirections 15 = .ok (.getfield 306, 3) := by decide +kernel
theorem dX10_unlikeDirections_18 : decode cX10_unlikeDirections 18 = .ok (.iload 4, 2) := by decide +kernel
theorem dX10_unlikeDirections_20 : decode cX10_unlikeDirections 20 = .ok (.iaload, 1) := by decide +kernel
theorem dX10_unlikeDirections_21 : decode cX10_unlikeDirections 21 = .ok (.istore 5, 2) := by decide +kernel
theorem dX10_unlikeDirections_23 : decode cX10_unlikeDirections 23 = .ok (.aload_n 0, 1) := by decide +kernel
theorem dX10_unlikeDirections_24 : decode cX10_unlikeDirections 24 = .ok (.getfield 26, 3) := by decide +kernel
theorem dX10_unlikeDirections_27 : decode cX10_unlikeDirections 27 = .ok (.getfield 153, 3) := by decide +kernel
theorem dX10_unlikeDirections_30 : decode cX10_unlikeDirections 30 = .ok (.iload 5, 2) := by decide +kernel
theorem dX10_unlikeDirections_32 : decode cX10_unlikeDirections 32 = .ok (.invokevirtual 157, 3) := by decide +kernel
theorem dX10_unlikeDirections_35 : decode cX10_unlikeDirections 35 = .ok (.ifCond .eq 14, 3) := by decide +kernel
theorem dX10_unlikeDirections_38 : decode cX10_unlikeDirections 38 = .ok (.lload_n 2, 1) := by decide +kernel
theorem dX10_unlikeDirections_39 : decode cX10_unlikeDirections 39 = .ok (.iload 5, 2) := by decide +kernel
theorem dX10_unlikeDirections_41 : decode cX10_unlikeDirections 41 = .ok (.lshr, 1) := by decide +kernel
theorem dX10_unlikeDirections_42 : decode cX10_unlikeDirections 42 = .ok (.lconst 1, 1) := by decide +kernel
theorem dX10_unlikeDirections_43 : decode cX10_unlikeDirections 43 = .ok (.land, 1) := by decide +kernel
theorem dX10_unlikeDirections_44 : decode cX10_unlikeDirections 44 = .ok (.lconst 0, 1) := by decide +kernel
theorem dX10_unlikeDirections_45 : decode cX10_unlikeDirections 45 = .ok (.lcmp, 1) := by decide +kernel
theorem dX10_unlikeDirections_46 : decode cX10_unlikeDirections 46 = .ok (.ifCond .eq 5, 3) := by decide +kernel
theorem dX10_unlikeDirections_49 : decode cX10_unlikeDirections 49 = .ok (.iconst 0, 1) := by decide +kernel
theorem dX10_unlikeDirections_50 : decode cX10_unlikeDirections 50 = .ok (.ireturn, 1) := by decide +kernel
theorem dX10_unlikeDirections_51 : decode cX10_unlikeDirections 51 = .ok (.lload_n 2, 1) := by decide +kernel
theorem dX10_unlikeDirections_52 : decode cX10_unlikeDirections 52 = .ok (.lconst 1, 1) := by decide +kernel
theorem dX10_unlikeDirections_53 : decode cX10_unlikeDirections 53 = .ok (.iload 5, 2) := by decide +kernel
theorem dX10_unlikeDirections_55 : decode cX10_unlikeDirections 55 = .ok (.lshl, 1) := by decide +kernel
theorem dX10_unlikeDirections_56 : decode cX10_unlikeDirections 56 = .ok (.lor, 1) := by decide +kernel
theorem dX10_unlikeDirections_57 : decode cX10_unlikeDirections 57 = .ok (.lstore_n 2, 1) := by decide +kernel
theorem dX10_unlikeDirections_58 : decode cX10_unlikeDirections 58 = .ok (.iinc 4 1, 3) := by decide +kernel
theorem dX10_unlikeDirections_61 : decode cX10_unlikeDirections 61 = .ok (.goto (-56), 3) := by decide +kernel
theorem dX10_unlikeDirections_64 : decode cX10_unlikeDirections 64 = .ok (.iconst 1, 1) := by decide +kernel
theorem dX10_unlikeDirections_65 : decode cX10_unlikeDirections 65 = .ok (.ireturn, 1) := by decide +kernel
theorem dX10_product_0 : decode cX10_product 0 = .ok (.iload_n 0, 1) := by decide +kernel
theorem dX10_product_1 : decode cX10_product 1 = .ok (.i2l, 1) := by decide +kernel
theorem dX10_product_2 : decode cX10_product 2 = .ok (.iload_n 1, 1) := by decide +kernel
theorem dX10_product_3 : decode cX10_product 3 = .ok (.i2l, 1) := by decide +kernel
theorem dX10_product_4 : decode cX10_product 4 = .ok (.lmul, 1) := by decide +kernel
theorem dX10_product_5 : decode cX10_product 5 = .ok (.iload_n 2, 1) := by decide +kernel
theorem dX10_product_6 : decode cX10_product 6 = .ok (.i2l, 1) := by decide +kernel
theorem dX10_product_7 : decode cX10_product 7 = .ok (.lrem, 1) := by decide +kernel
theorem dX10_product_8 : decode cX10_product 8 = .ok (.l2i, 1) := by decide +kernel
theorem dX10_product_9 : decode cX10_product 9 = .ok (.ireturn, 1) := by decide +kernel
theorem dX10_difference_0 : decode cX10_difference 0 = .ok (.iload_n 0, 1) := by decide +kernel
theorem dX10_difference_1 : decode cX10_difference 1 = .ok (.iload_n 1, 1) := by decide +kernel
theorem dX10_difference_2 : decode cX10_difference 2 = .ok (.if_icmp .lt 9, 3) := by decide +kernel
theorem dX10_difference_5 : decode cX10_difference 5 = .ok (.iload_n 0, 1) := by decide +kernel
theorem dX10_difference_6 : decode cX10_difference 6 = .ok (.iload_n 1, 1) := by decide +kernel
theorem dX10_difference_7 : decode cX10_difference 7 = .ok (.isub, 1) := by decide +kernel
theorem dX10_difference_8 : decode cX10_difference 8 = .ok (.goto 8, 3) := by decide +kernel
theorem dX10_difference_11 : decode cX10_difference 11 = .ok (.iload_n 0, 1) := by decide +kernel
theorem dX10_difference_12 : decode cX10_difference 12 = .ok (.iload_n 1, 1) := by decide +kernel
theorem dX10_difference_13 : decode cX10_difference 13 = .ok (.isub, 1) := by decide +kernel
theorem dX10_difference_14 : decode cX10_difference 14 = .ok (.iload_n 2, 1) := by decide +kernel
theorem dX10_difference_15 : decode cX10_difference 15 = .ok (.iadd, 1) := by decide +kernel
theorem dX10_difference_16 : decode cX10_difference 16 = .ok (.ireturn, 1) := by decide +kernel
theorem dX10_inverse_0 : decode cX10_inverse 0 = .ok (.iconst 1, 1) := by decide +kernel
theorem dX10_inverse_1 : decode cX10_inverse 1 = .ok (.istore_n 2, 1) := by decide +kernel
theorem dX10_inverse_2 : decode cX10_inverse 2 = .ok (.iload_n 0, 1) := by decide +kernel
theorem dX10_inverse_3 : decode cX10_inverse 3 = .ok (.istore_n 3, 1) := by decide +kernel
theorem dX10_inverse_4 : decode cX10_inverse 4 = .ok (.iload_n 1, 1) := by decide +kernel
theorem dX10_inverse_5 : decode cX10_inverse 5 = .ok (.iconst 2, 1) := by decide +kernel
theorem dX10_inverse_6 : decode cX10_inverse 6 = .ok (.isub, 1) := by decide +kernel
theorem dX10_inverse_7 : decode cX10_inverse 7 = .ok (.istore 4, 2) := by decide +kernel
theorem dX10_inverse_9 : decode cX10_inverse 9 = .ok (.iload 4, 2) := by decide +kernel
theorem dX10_inverse_11 : decode cX10_inverse 11 = .ok (.ifCond .le 34, 3) := by decide +kernel
theorem dX10_inverse_14 : decode cX10_inverse 14 = .ok (.iload 4, 2) := by decide +kernel
theorem dX10_inverse_16 : decode cX10_inverse 16 = .ok (.iconst 1, 1) := by decide +kernel
theorem dX10_inverse_17 : decode cX10_inverse 17 = .ok (.iand, 1) := by decide +kernel
theorem dX10_inverse_18 : decode cX10_inverse 18 = .ok (.iconst 1, 1) := by decide +kernel
theorem dX10_inverse_19 : decode cX10_inverse 19 = .ok (.if_icmp .ne 10, 3) := by decide +kernel
theorem dX10_inverse_22 : decode cX10_inverse 22 = .ok (.iload_n 2, 1) := by decide +kernel
theorem dX10_inverse_23 : decode cX10_inverse 23 = .ok (.iload_n 3, 1) := by decide +kernel
theorem dX10_inverse_24 : decode cX10_inverse 24 = .ok (.iload_n 1, 1) := by decide +kernel
theorem dX10_inverse_25 : decode cX10_inverse 25 = .ok (.invokestatic 257, 3) := by decide +kernel
theorem dX10_inverse_28 : decode cX10_inverse 28 = .ok (.istore_n 2, 1) := by decide +kernel
theorem dX10_inverse_29 : decode cX10_inverse 29 = .ok (.iload_n 3, 1) := by decide +kernel
theorem dX10_inverse_30 : decode cX10_inverse 30 = .ok (.iload_n 3, 1) := by decide +kernel
theorem dX10_inverse_31 : decode cX10_inverse 31 = .ok (.iload_n 1, 1) := by decide +kernel
theorem dX10_inverse_32 : decode cX10_inverse 32 = .ok (.invokestatic 257, 3) := by decide +kernel
theorem dX10_inverse_35 : decode cX10_inverse 35 = .ok (.istore_n 3, 1) := by decide +kernel
theorem dX10_inverse_36 : decode cX10_inverse 36 = .ok (.iload 4, 2) := by decide +kernel
theorem dX10_inverse_38 : decode cX10_inverse 38 = .ok (.iconst 1, 1) := by decide +kernel
theorem dX10_inverse_39 : decode cX10_inverse 39 = .ok (.ishr, 1) := by decide +kernel
theorem dX10_inverse_40 : decode cX10_inverse 40 = .ok (.istore 4, 2) := by decide +kernel
theorem dX10_inverse_42 : decode cX10_inverse 42 = .ok (.goto (-33), 3) := by decide +kernel
theorem dX10_inverse_45 : decode cX10_inverse 45 = .ok (.iload_n 2, 1) := by decide +kernel
theorem dX10_inverse_46 : decode cX10_inverse 46 = .ok (.ireturn, 1) := by decide +kernel
theorem dX10_commonMeasure_0 : decode cX10_commonMeasure 0 = .ok (.lload_n 0, 1) := by decide +kernel
theorem dX10_commonMeasure_1 : decode cX10_commonMeasure 1 = .ok (.invokestatic 364, 3) := by decide +kernel
theorem dX10_commonMeasure_4 : decode cX10_commonMeasure 4 = .ok (.lstore 4, 2) := by decide +kernel
theorem dX10_commonMeasure_6 : decode cX10_commonMeasure 6 = .ok (.lload_n 2, 1) := by decide +kernel
theorem dX10_commonMeasure_7 : decode cX10_commonMeasure 7 = .ok (.lstore 6, 2) := by decide +kernel
theorem dX10_commonMeasure_9 : decode cX10_commonMeasure 9 = .ok (.iconst 0, 1) := by decide +kernel
theorem dX10_commonMeasure_10 : decode cX10_commonMeasure 10 = .ok (.istore 8, 2) := by decide +kernel
theorem dX10_commonMeasure_12 : decode cX10_commonMeasure 12 = .ok (.iload 8, 2) := by decide +kernel
theorem dX10_commonMeasure_14 : decode cX10_commonMeasure 14 = .ok (.sipush 200, 3) := by decide +kernel
theorem dX10_commonMeasure_17 : decode cX10_commonMeasure 17 = .ok (.if_icmp .ge 31, 3) := by decide +kernel
theorem dX10_commonMeasure_20 : decode cX10_commonMeasure 20 = .ok (.lload 6, 2) := by decide +kernel
theorem dX10_commonMeasure_22 : decode cX10_commonMeasure 22 = .ok (.lconst 0, 1) := by decide +kernel
theorem dX10_commonMeasure_23 : decode cX10_commonMeasure 23 = .ok (.lcmp, 1) := by decide +kernel
theorem dX10_commonMeasure_24 : decode cX10_commonMeasure 24 = .ok (.ifCond .eq 24, 3) := by decide +kernel
theorem dX10_commonMeasure_27 : decode cX10_commonMeasure 27 = .ok (.lload 4, 2) := by decide +kernel
theorem dX10_commonMeasure_29 : decode cX10_commonMeasure 29 = .ok (.lload 6, 2) := by decide +kernel
theorem dX10_commonMeasure_31 : decode cX10_commonMeasure 31 = .ok (.lrem, 1) := by decide +kernel
theorem dX10_commonMeasure_32 : decode cX10_commonMeasure 32 = .ok (.lstore 9, 2) := by decide +kernel
theorem dX10_commonMeasure_34 : decode cX10_commonMeasure 34 = .ok (.lload 6, 2) := by decide +kernel
theorem dX10_commonMeasure_36 : decode cX10_commonMeasure 36 = .ok (.lstore 4, 2) := by decide +kernel
theorem dX10_commonMeasure_38 : decode cX10_commonMeasure 38 = .ok (.lload 9, 2) := by decide +kernel
theorem dX10_commonMeasure_40 : decode cX10_commonMeasure 40 = .ok (.lstore 6, 2) := by decide +kernel
theorem dX10_commonMeasure_42 : decode cX10_commonMeasure 42 = .ok (.iinc 8 1, 3) := by decide +kernel
theorem dX10_commonMeasure_45 : decode cX10_commonMeasure 45 = .ok (.goto (-33), 3) := by decide +kernel
theorem dX10_commonMeasure_48 : decode cX10_commonMeasure 48 = .ok (.lload 4, 2) := by decide +kernel
theorem dX10_commonMeasure_50 : decode cX10_commonMeasure 50 = .ok (.lreturn, 1) := by decide +kernel
theorem dX11_thrown_0 : decode cX11_thrown 0 = .ok (.aload_n 0, 1) := by decide +kernel
theorem dX11_thrown_1 : decode cX11_thrown 1 = .ok (.getfield 1, 3) := by decide +kernel
theorem dX11_thrown_4 : decode cX11_thrown 4 = .ok (.ireturn, 1) := by decide +kernel
theorem dX11_throwsIf_0 : decode cX11_throwsIf 0 = .ok (.aload_n 0, 1) := by decide +kernel
theorem dX11_throwsIf_1 : decode cX11_throwsIf 1 = .ok (.iload_n 1, 1) := by decide +kernel
theorem dX11_throwsIf_2 : decode cX11_throwsIf 2 = .ok (.ifCond .eq 7, 3) := by decide +kernel
theorem dX11_throwsIf_5 : decode cX11_throwsIf 5 = .ok (.iconst 1, 1) := by decide +kernel
theorem dX11_throwsIf_6 : decode cX11_throwsIf 6 = .ok (.goto 4, 3) := by decide +kernel
theorem dX11_throwsIf_9 : decode cX11_throwsIf 9 = .ok (.iconst 0, 1) := by decide +kernel
theorem dX11_throwsIf_10 : decode cX11_throwsIf 10 = .ok (.putfield 1, 3) := by decide +kernel
theorem dX11_throwsIf_13 : decode cX11_throwsIf 13 = .ok (.iload_n 1, 1) := by decide +kernel
theorem dX11_throwsIf_14 : decode cX11_throwsIf 14 = .ok (.ireturn, 1) := by decide +kernel
theorem dX11_feed_0 : decode cX11_feed 0 = .ok (.aload_n 0, 1) := by decide +kernel
theorem dX11_feed_1 : decode cX11_feed 1 = .ok (.iconst 0, 1) := by decide +kernel
theorem dX11_feed_2 : decode cX11_feed 2 = .ok (.putfield 1, 3) := by decide +kernel
theorem dX11_feed_5 : decode cX11_feed 5 = .ok (.aload_n 0, 1) := by decide +kernel
theorem dX11_feed_6 : decode cX11_feed 6 = .ok (.getfield 7, 3) := by decide +kernel
theorem dX11_feed_9 : decode cX11_feed 9 = .ok (.bipush 20, 2) := by decide +kernel
theorem dX11_feed_11 : decode cX11_feed 11 = .ok (.iadd, 1) := by decide +kernel
theorem dX11_feed_12 : decode cX11_feed 12 = .ok (.sipush 940, 3) := by decide +kernel
theorem dX11_feed_15 : decode cX11_feed 15 = .ok (.if_icmp .le 5, 3) := by decide +kernel
theorem dX11_feed_18 : decode cX11_feed 18 = .ok (.iconst (-1), 1) := by decide +kernel
theorem dX11_feed_19 : decode cX11_feed 19 = .ok (.ireturn, 1) := by decide +kernel
theorem dX11_feed_20 : decode cX11_feed 20 = .ok (.aload_n 0, 1) := by decide +kernel
theorem dX11_feed_21 : decode cX11_feed 21 = .ok (.iload_n 1, 1) := by decide +kernel
theorem dX11_feed_22 : decode cX11_feed 22 = .ok (.invokevirtual 10, 3) := by decide +kernel
theorem dX11_feed_25 : decode cX11_feed 25 = .ok (.aload_n 0, 1) := by decide +kernel
theorem dX11_feed_26 : decode cX11_feed 26 = .ok (.iload_n 2, 1) := by decide +kernel
theorem dX11_feed_27 : decode cX11_feed 27 = .ok (.invokevirtual 10, 3) := by decide +kernel
theorem dX11_feed_30 : decode cX11_feed 30 = .ok (.aload_n 0, 1) := by decide +kernel
theorem dX11_feed_31 : decode cX11_feed 31 = .ok (.iload_n 3, 1) := by decide +kernel
theorem dX11_feed_32 : decode cX11_feed 32 = .ok (.invokevirtual 10, 3) := by decide +kernel
theorem dX11_feed_35 : decode cX11_feed 35 = .ok (.aload_n 0, 1) := by decide +kernel
theorem dX11_feed_36 : decode cX11_feed 36 = .ok (.iload 4, 2) := by decide +kernel
theorem dX11_feed_38 : decode cX11_feed 38 = .ok (.invokevirtual 10, 3) := by decide +kernel
theorem dX11_feed_41 : decode cX11_feed 41 = .ok (.aload_n 0, 1) := by decide +kernel
theorem dX11_feed_42 : decode cX11_feed 42 = .ok (.iload 5, 2) := by decide +kernel
theorem dX11_feed_44 : decode cX11_feed 44 = .ok (.invokevirtual 10, 3) := by decide +kernel
theorem dX11_feed_47 : decode cX11_feed 47 = .ok (.aload_n 0, 1) := by decide +kernel
theorem dX11_feed_48 : decode cX11_feed 48 = .ok (.getfield 7, 3) := by decide +kernel
theorem dX11_feed_51 : decode cX11_feed 51 = .ok (.ireturn, 1) := by decide +kernel
theorem dX11_four_0 : decode cX11_four 0 = .ok (.bipush 24, 2) := by decide +kernel
theorem dX11_four_2 : decode cX11_four 2 = .ok (.istore_n 2, 1) := by decide +kernel
theorem dX11_four_3 : decode cX11_four 3 = .ok (.iload_n 2, 1) := by decide +kernel
theorem dX11_four_4 : decode cX11_four 4 = .ok (.ifCond .lt 32, 3) := by decide +kernel
theorem dX11_four_7 : decode cX11_four 7 = .ok (.aload_n 0, 1) := by decide +kernel
theorem dX11_four_8 : decode cX11_four 8 = .ok (.getfield 14, 3) := by decide +kernel
theorem dX11_four_11 : decode cX11_four 11 = .ok (.aload_n 0, 1) := by decide +kernel
theorem dX11_four_12 : decode cX11_four 12 = .ok (.getfield 7, 3) := by decide +kernel
theorem dX11_four_15 : decode cX11_four 15 = .ok (.iload_n 1, 1) := by decide +kernel
theorem dX11_four_16 : decode cX11_four 16 = .ok (.iload_n 2, 1) := by decide +kernel
theorem dX11_four_17 : decode cX11_four 17 = .ok (.ishr, 1) := by decide +kernel
theorem dX11_four_18 : decode cX11_four 18 = .ok (.i2b, 1) := by decide +kernel
theorem dX11_four_19 : decode cX11_four 19 = .ok (.bastore, 1) := by decide +kernel
theorem dX11_four_20 : decode cX11_four 20 = .ok (.aload_n 0, 1) := by decide +kernel
theorem dX11_four_21 : decode cX11_four 21 = .ok (.dup, 1) := by decide +kernel
theorem dX11_four_22 : decode cX11_four 22 = .ok (.getfield 7, 3) := by decide +kernel
theorem dX11_four_25 : decode cX11_four 25 = .ok (.iconst 1, 1) := by decide +kernel
theorem dX11_four_26 : decode cX11_four 26 = .ok (.iadd, 1) := by decide +kernel
theorem dX11_four_27 : decode cX11_four 27 = .ok (.putfield 7, 3) := by decide +kernel
theorem dX11_four_30 : decode cX11_four 30 = .ok (.iinc 2 (-8), 3) := by decide +kernel
theorem dX11_four_33 : decode cX11_four 33 = .ok (.goto (-30), 3) := by decide +kernel
theorem dX11_four_36 : decode cX11_four 36 = .ok (.return_, 1) := by decide +kernel
theorem dX11_end_0 : decode cX11_end 0 = .ok (.aload_n 0, 1) := by decide +kernel
theorem dX11_end_1 : decode cX11_end 1 = .ok (.iconst 0, 1) := by decide +kernel
theorem dX11_end_2 : decode cX11_end 2 = .ok (.putfield 1, 3) := by decide +kernel
theorem dX11_end_5 : decode cX11_end 5 = .ok (.iload_n 1, 1) := by decide +kernel
theorem dX11_end_6 : decode cX11_end 6 = .ok (.ifCond .lt 11, 3) := by decide +kernel
theorem dX11_end_9 : decode cX11_end 9 = .ok (.iload_n 1, 1) := by decide +kernel
theorem dX11_end_10 : decode cX11_end 10 = .ok (.aload_n 0, 1) := by decide +kernel
theorem dX11_end_11 : decode cX11_end 11 = .ok (.getfield 7, 3) := by decide +kernel
theorem dX11_end_14 : decode cX11_end 14 = .ok (.if_icmp .le 5, 3) := by decide +kernel
theorem dX11_end_17 : decode cX11_end 17 = .ok (.iconst 0, 1) := by decide +kernel
theorem dX11_end_18 : decode cX11_end 18 = .ok (.ireturn, 1) := by decide +kernel
theorem dX11_end_19 : decode cX11_end 19 = .ok (.aload_n 0, 1) := by decide +kernel
theorem dX11_end_20 : decode cX11_end 20 = .ok (.iload_n 1, 1) := by decide +kernel
theorem dX11_end_21 : decode cX11_end 21 = .ok (.putfield 7, 3) := by decide +kernel
theorem dX11_end_24 : decode cX11_end 24 = .ok (.iconst 1, 1) := by decide +kernel
theorem dX11_end_25 : decode cX11_end 25 = .ok (.ireturn, 1) := by decide +kernel
theorem dX11_taken_0 : decode cX11_taken 0 = .ok (.aload_n 0, 1) := by decide +kernel
theorem dX11_taken_1 : decode cX11_taken 1 = .ok (.aload_n 0, 1) := by decide +kernel
theorem dX11_taken_2 : decode cX11_taken 2 = .ok (.getfield 7, 3) := by decide +kernel
theorem dX11_taken_5 : decode cX11_taken 5 = .ok (.putfield 18, 3) := by decide +kernel
theorem dX11_taken_8 : decode cX11_taken 8 = .ok (.aload_n 0, 1) := by decide +kernel
theorem dX11_taken_9 : decode cX11_taken 9 = .ok (.iconst 0, 1) := by decide +kernel
theorem dX11_taken_10 : decode cX11_taken 10 = .ok (.putfield 7, 3) := by decide +kernel
theorem dX11_taken_13 : decode cX11_taken 13 = .ok (.aload_n 0, 1) := by decide +kernel
theorem dX11_taken_14 : decode cX11_taken 14 = .ok (.iconst 0, 1) := by decide +kernel
theorem dX11_taken_15 : decode cX11_taken 15 = .ok (.putfield 21, 3) := by decide +kernel
theorem dX11_taken_18 : decode cX11_taken 18 = .ok (.aload_n 0, 1) := by decide +kernel
theorem dX11_taken_19 : decode cX11_taken 19 = .ok (.iload_n 1, 1) := by decide +kernel
theorem dX11_taken_20 : decode cX11_taken 20 = .ok (.putfield 24, 3) := by decide +kernel
theorem dX11_taken_23 : decode cX11_taken 23 = .ok (.return_, 1) := by decide +kernel
theorem dX11_isIn_0 : decode cX11_isIn 0 = .ok (.iload_n 0, 1) := by decide +kernel
theorem dX11_isIn_1 : decode cX11_isIn 1 = .ok (.iload_n 1, 1) := by decide +kernel
theorem dX11_isIn_2 : decode cX11_isIn 2 = .ok (.if_icmp .lt 12, 3) := by decide +kernel
theorem dX11_isIn_5 : decode cX11_isIn 5 = .ok (.iload_n 0, 1) := by decide +kernel
theorem dX11_isIn_6 : decode cX11_isIn 6 = .ok (.iload_n 2, 1) := by decide +kernel
theorem dX11_isIn_7 : decode cX11_isIn 7 = .ok (.if_icmp .gt 7, 3) := by decide +kernel
theorem dX11_isIn_10 : decode cX11_isIn 10 = .ok (.iconst 1, 1) := by decide +kernel
theorem dX11_isIn_11 : decode cX11_isIn 11 = .ok (.goto 4, 3) := by decide +kernel
theorem dX11_isIn_14 : decode cX11_isIn 14 = .ok (.iconst 0, 1) := by decide +kernel
theorem dX11_isIn_15 : decode cX11_isIn 15 = .ok (.ireturn, 1) := by decide +kernel
theorem dX11_has_0 : decode cX11_has 0 = .ok (.iload_n 0, 1) := by decide +kernel
theorem dX11_has_1 : decode cX11_has 1 = .ok (.iload_n 1, 1) := by decide +kernel
theorem dX11_has_2 : decode cX11_has 2 = .ok (.ishr, 1) := by decide +kernel
theorem dX11_has_3 : decode cX11_has 3 = .ok (.iconst 1, 1) := by decide +kernel
theorem dX11_has_4 : decode cX11_has 4 = .ok (.iand, 1) := by decide +kernel
theorem dX11_has_5 : decode cX11_has 5 = .ok (.iconst 1, 1) := by decide +kernel
theorem dX11_has_6 : decode cX11_has 6 = .ok (.if_icmp .ne 7, 3) := by decide +kernel
theorem dX11_has_9 : decode cX11_has 9 = .ok (.iconst 1, 1) := by decide +kernel
theorem dX11_has_10 : decode cX11_has 10 = .ok (.goto 4, 3) := by decide +kernel
theorem dX11_has_13 : decode cX11_has 13 = .ok (.iconst 0, 1) := by decide +kernel
theorem dX11_has_14 : decode cX11_has 14 = .ok (.ireturn, 1) := by decide +kernel
theorem dX11_bits_0 : decode cX11_bits 0 = .ok (.iconst 0, 1) := by decide +kernel
theorem dX11_bits_1 : decode cX11_bits 1 = .ok (.istore_n 1, 1) := by decide +kernel
theorem dX11_bits_2 : decode cX11_bits 2 = .ok (.iload_n 0, 1) := by decide +kernel
theorem dX11_bits_3 : decode cX11_bits 3 = .ok (.istore_n 2, 1) := by decide +kernel
theorem dX11_bits_4 : decode cX11_bits 4 = .ok (.iload_n 2, 1) := by decide +kernel
theorem dX11_bits_5 : decode cX11_bits 5 = .ok (.ifCond .eq 15, 3) := by decide +kernel
theorem dX11_bits_8 : decode cX11_bits 8 = .ok (.iinc 1 1, 3) := by decide +kernel
theorem dX11_bits_11 : decode cX11_bits 11 = .ok (.iload_n 2, 1) := by decide +kernel
theorem dX11_bits_12 : decode cX11_bits 12 = .ok (.iload_n 2, 1) := by decide +kernel
theorem dX11_bits_13 : decode cX11_bits 13 = .ok (.iconst 1, 1) := by decide +kernel
theorem dX11_bits_14 : decode cX11_bits 14 = .ok (.isub, 1) := by decide +kernel
theorem dX11_bits_15 : decode cX11_bits 15 = .ok (.iand, 1) := by decide +kernel
theorem dX11_bits_16 : decode cX11_bits 16 = .ok (.istore_n 2, 1) := by decide +kernel
theorem dX11_bits_17 : decode cX11_bits 17 = .ok (.goto (-13), 3) := by decide +kernel
theorem dX11_bits_20 : decode cX11_bits 20 = .ok (.iload_n 1, 1) := by decide +kernel
theorem dX11_bits_21 : decode cX11_bits 21 = .ok (.ireturn, 1) := by decide +kernel
theorem dX11_octet_0 : decode cX11_octet 0 = .ok (.aload_n 0, 1) := by decide +kernel
theorem dX11_octet_1 : decode cX11_octet 1 = .ok (.getfield 14, 3) := by decide +kernel
theorem dX11_octet_4 : decode cX11_octet 4 = .ok (.iload_n 1, 1) := by decide +kernel
theorem dX11_octet_5 : decode cX11_octet 5 = .ok (.baload, 1) := by decide +kernel
theorem dX11_octet_6 : decode cX11_octet 6 = .ok (.sipush 255, 3) := by decide +kernel
theorem dX11_octet_9 : decode cX11_octet 9 = .ok (.iand, 1) := by decide +kernel
theorem dX11_octet_10 : decode cX11_octet 10 = .ok (.ireturn, 1) := by decide +kernel
theorem dX11_init_0 : decode cX11_init 0 = .ok (.aload_n 0, 1) := by decide +kernel
theorem dX11_init_1 : decode cX11_init 1 = .ok (.invokespecial 27, 3) := by decide +kernel
theorem dX11_init_4 : decode cX11_init 4 = .ok (.aload_n 0, 1) := by decide +kernel
theorem dX11_init_5 : decode cX11_init 5 = .ok (.sipush 940, 3) := by decide +kernel
theorem dX11_init_8 : decode cX11_init 8 = .ok (.newarray .byte, 2) := by decide +kernel
theorem dX11_init_10 : decode cX11_init 10 = .ok (.putfield 14, 3) := by decide +kernel
theorem dX11_init_13 : decode cX11_init 13 = .ok (.aload_n 0, 1) := by decide +kernel
theorem dX11_init_14 : decode cX11_init 14 = .ok (.bipush 82, 2) := by decide +kernel
theorem dX11_init_16 : decode cX11_init 16 = .ok (.newarray .int, 2) := by decide +kernel
theorem dX11_init_18 : decode cX11_init 18 = .ok (.putfield 33, 3) := by decide +kernel
theorem dX11_init_21 : decode cX11_init 21 = .ok (.aload_n 0, 1) := by decide +kernel
theorem dX11_init_22 : decode cX11_init 22 = .ok (.bipush 82, 2) := by decide +kernel
theorem dX11_init_24 : decode cX11_init 24 = .ok (.newarray .int, 2) := by decide +kernel
theorem dX11_init_26 : decode cX11_init 26 = .ok (.putfield 37, 3) := by decide +kernel
theorem dX11_init_29 : decode cX11_init 29 = .ok (.aload_n 0, 1) := by decide +kernel
theorem dX11_init_30 : decode cX11_init 30 = .ok (.bipush 20, 2) := by decide +kernel
theorem dX11_init_32 : decode cX11_init 32 = .ok (.newarray .long, 2) := by decide +kernel
theorem dX11_init_34 : decode cX11_init 34 = .ok (.putfield 40, 3) := by decide +kernel
theorem dX11_init_37 : decode cX11_init 37 = .ok (.aload_n 0, 1) := by decide +kernel
theorem dX11_init_38 : decode cX11_init 38 = .ok (.bipush 8, 2) := by decide +kernel
theorem dX11_init_40 : decode cX11_init 40 = .ok (.newarray .long, 2) := by decide +kernel
theorem dX11_init_42 : decode cX11_init 42 = .ok (.putfield 44, 3) := by decide +kernel
theorem dX11_init_45 : decode cX11_init 45 = .ok (.aload_n 0, 1) := by decide +kernel
theorem dX11_init_46 : decode cX11_init 46 = .ok (.bipush 60, 2) := by decide +kernel
theorem dX11_init_48 : decode cX11_init 48 = .ok (.newarray .int, 2) := by decide +kernel
theorem dX11_init_50 : decode cX11_init 50 = .ok (.putfield 47, 3) := by decide +kernel
theorem dX11_init_53 : decode cX11_init 53 = .ok (.aload_n 0, 1) := by decide +kernel
theorem dX11_init_54 : decode cX11_init 54 = .ok (.sipush 2800, 3) := by decide +kernel
theorem dX11_init_57 : decode cX11_init 57 = .ok (.newarray .int, 2) := by decide +kernel
theorem dX11_init_59 : decode cX11_init 59 = .ok (.putfield 50, 3) := by decide +kernel
theorem dX11_init_62 : decode cX11_init 62 = .ok (.aload_n 0, 1) := by decide +kernel
theorem dX11_init_63 : decode cX11_init 63 = .ok (.bipush 110, 2) := by decide +kernel
theorem dX11_init_65 : decode cX11_init 65 = .ok (.newarray .int, 2) := by decide +kernel
theorem dX11_init_67 : decode cX11_init 67 = .ok (.putfield 53, 3) := by decide +kernel
theorem dX11_init_70 : decode cX11_init 70 = .ok (.aload_n 0, 1) := by decide +kernel
theorem dX11_init_71 : decode cX11_init 71 = .ok (.bipush 100, 2) := by decide +kernel
theorem dX11_init_73 : decode cX11_init 73 = .ok (.newarray .int, 2) := by decide +kernel
theorem dX11_init_75 : decode cX11_init 75 = .ok (.putfield 56, 3) := by decide +kernel
theorem dX11_init_78 : decode cX11_init 78 = .ok (.aload_n 0, 1) := by decide +kernel
theorem dX11_init_79 : decode cX11_init 79 = .ok (.bipush 101, 2) := by decide +kernel
theorem dX11_init_81 : decode cX11_init 81 = .ok (.newarray .int, 2) := by decide +kernel
theorem dX11_init_83 : decode cX11_init 83 = .ok (.putfield 59, 3) := by decide +kernel
theorem dX11_init_86 : decode cX11_init 86 = .ok (.aload_n 0, 1) := by decide +kernel
theorem dX11_init_87 : decode cX11_init 87 = .ok (.bipush 60, 2) := by decide +kernel
theorem dX11_init_89 : decode cX11_init 89 = .ok (.newarray .int, 2) := by decide +kernel
theorem dX11_init_91 : decode cX11_init 91 = .ok (.putfield 62, 3) := by decide +kernel
theorem dX11_init_94 : decode cX11_init 94 = .ok (.aload_n 0, 1) := by decide +kernel
theorem dX11_init_95 : decode cX11_init 95 = .ok (.sipush 470, 3) := by decide +kernel
theorem dX11_init_98 : decode cX11_init 98 = .ok (.newarray .int, 2) := by decide +kernel
theorem dX11_init_100 : decode cX11_init 100 = .ok (.putfield 65, 3) := by decide +kernel
theorem dX11_init_103 : decode cX11_init 103 = .ok (.aload_n 0, 1) := by decide +kernel
theorem dX11_init_104 : decode cX11_init 104 = .ok (.iconst 3, 1) := by decide +kernel
theorem dX11_init_105 : decode cX11_init 105 = .ok (.newarray .int, 2) := by decide +kernel
theorem dX11_init_107 : decode cX11_init 107 = .ok (.putfield 68, 3) := by decide +kernel
theorem dX11_init_110 : decode cX11_init 110 = .ok (.aload_n 0, 1) := by decide +kernel
theorem dX11_init_111 : decode cX11_init 111 = .ok (.iconst 3, 1) := by decide +kernel
theorem dX11_init_112 : decode cX11_init 112 = .ok (.newarray .int, 2) := by decide +kernel
theorem dX11_init_114 : decode cX11_init 114 = .ok (.putfield 71, 3) := by decide +kernel
theorem dX11_init_117 : decode cX11_init 117 = .ok (.aload_n 0, 1) := by decide +kernel
theorem dX11_init_118 : decode cX11_init 118 = .ok (.iconst 3, 1) := by decide +kernel
theorem dX11_init_119 : decode cX11_init 119 = .ok (.newarray .int, 2) := by decide +kernel
theorem dX11_init_121 : decode cX11_init 121 = .ok (.putfield 74, 3) := by decide +kernel
theorem dX11_init_124 : decode cX11_init 124 = .ok (.aload_n 0, 1) := by decide +kernel
theorem dX11_init_125 : decode cX11_init 125 = .ok (.iconst 3, 1) := by decide +kernel
theorem dX11_init_126 : decode cX11_init 126 = .ok (.newarray .int, 2) := by decide +kernel
theorem dX11_init_128 : decode cX11_init 128 = .ok (.putfield 77, 3) := by decide +kernel
theorem dX11_init_131 : decode cX11_init 131 = .ok (.aload_n 0, 1) := by decide +kernel
theorem dX11_init_132 : decode cX11_init 132 = .ok (.iconst (-1), 1) := by decide +kernel
theorem dX11_init_133 : decode cX11_init 133 = .ok (.putfield 80, 3) := by decide +kernel
theorem dX11_init_136 : decode cX11_init 136 = .ok (.aload_n 0, 1) := by decide +kernel
theorem dX11_init_137 : decode cX11_init 137 = .ok (.iconst (-1), 1) := by decide +kernel
theorem dX11_init_138 : decode cX11_init 138 = .ok (.putfield 83, 3) := by decide +kernel
theorem dX11_init_141 : decode cX11_init 141 = .ok (.aload_n 0, 1) := by decide +kernel
theorem dX11_init_142 : decode cX11_init 142 = .ok (.bipush 10, 2) := by decide +kernel
theorem dX11_init_144 : decode cX11_init 144 = .ok (.newarray .int, 2) := by decide +kernel
theorem dX11_init_146 : decode cX11_init 146 = .ok (.putfield 86, 3) := by decide +kernel
theorem dX11_init_149 : decode cX11_init 149 = .ok (.aload_n 0, 1) := by decide +kernel
theorem dX11_init_150 : decode cX11_init 150 = .ok (.iconst (-1), 1) := by decide +kernel
theorem dX11_init_151 : decode cX11_init 151 = .ok (.putfield 89, 3) := by decide +kernel
theorem dX11_init_154 : decode cX11_init 154 = .ok (.aload_n 0, 1) := by decide +kernel
theorem dX11_init_155 : decode cX11_init 155 = .ok (.bipush 28, 2) := by decide +kernel
theorem dX11_init_157 : decode cX11_init 157 = .ok (.newarray .int, 2) := by decide +kernel
theorem dX11_init_159 : decode cX11_init 159 = .ok (.putfield 92, 3) := by decide +kernel
theorem dX11_init_162 : decode cX11_init 162 = .ok (.aload_n 0, 1) := by decide +kernel
theorem dX11_init_163 : decode cX11_init 163 = .ok (.bipush 28, 2) := by decide +kernel
theorem dX11_init_165 : decode cX11_init 165 = .ok (.newarray .int, 2) := by decide +kernel
theorem dX11_init_167 : decode cX11_init 167 = .ok (.putfield 95, 3) := by decide +kernel
theorem dX11_init_170 : decode cX11_init 170 = .ok (.aload_n 0, 1) := by decide +kernel
theorem dX11_init_171 : decode cX11_init 171 = .ok (.sipush 7424, 3) := by decide +kernel
theorem dX11_init_174 : decode cX11_init 174 = .ok (.newarray .int, 2) := by decide +kernel
theorem dX11_init_176 : decode cX11_init 176 = .ok (.putfield 98, 3) := by decide +kernel
theorem dX11_init_179 : decode cX11_init 179 = .ok (.aload_n 0, 1) := by decide +kernel
theorem dX11_init_180 : decode cX11_init 180 = .ok (.bipush 8, 2) := by decide +kernel
theorem dX11_init_182 : decode cX11_init 182 = .ok (.newarray .int, 2) := by decide +kernel
theorem dX11_init_184 : decode cX11_init 184 = .ok (.putfield 101, 3) := by decide +kernel
theorem dX11_init_187 : decode cX11_init 187 = .ok (.aload_n 0, 1) := by decide +kernel
theorem dX11_init_188 : decode cX11_init 188 = .ok (.iconst (-1), 1) := by decide +kernel
theorem dX11_init_189 : decode cX11_init 189 = .ok (.putfield 104, 3) := by decide +kernel
theorem dX11_init_192 : decode cX11_init 192 = .ok (.aload_n 0, 1) := by decide +kernel
theorem dX11_init_193 : decode cX11_init 193 = .ok (.sipush 164, 3) := by decide +kernel
theorem dX11_init_196 : decode cX11_init 196 = .ok (.newarray .int, 2) := by decide +kernel
theorem dX11_init_198 : decode cX11_init 198 = .ok (.putfield 107, 3) := by decide +kernel
theorem dX11_init_201 : decode cX11_init 201 = .ok (.aload_n 0, 1) := by decide +kernel
theorem dX11_init_202 : decode cX11_init 202 = .ok (.iconst 2, 1) := by decide +kernel
theorem dX11_init_203 : decode cX11_init 203 = .ok (.newarray .boolean, 2) := by decide +kernel
theorem dX11_init_205 : decode cX11_init 205 = .ok (.putfield 110, 3) := by decide +kernel
theorem dX11_init_208 : decode cX11_init 208 = .ok (.aload_n 0, 1) := by decide +kernel
theorem dX11_init_209 : decode cX11_init 209 = .ok (.getfield 44, 3) := by decide +kernel
theorem dX11_init_212 : decode cX11_init 212 = .ok (.iconst 0, 1) := by decide +kernel
theorem dX11_init_213 : decode cX11_init 213 = .ok (.ldc2_w 114, 3) := by decide +kernel
theorem dX11_init_216 : decode cX11_init 216 = .ok (.lastore, 1) := by decide +kernel
theorem dX11_init_217 : decode cX11_init 217 = .ok (.aload_n 0, 1) := by decide +kernel
theorem dX11_init_218 : decode cX11_init 218 = .ok (.getfield 44, 3) := by decide +kernel
theorem dX11_init_221 : decode cX11_init 221 = .ok (.iconst 1, 1) := by decide +kernel
theorem dX11_init_222 : decode cX11_init 222 = .ok (.ldc2_w 116, 3) := by decide +kernel
theorem dX11_init_225 : decode cX11_init 225 = .ok (.lastore, 1) := by decide +kernel
theorem dX11_init_226 : decode cX11_init 226 = .ok (.aload_n 0, 1) := by decide +kernel
theorem dX11_init_227 : decode cX11_init 227 = .ok (.getfield 44, 3) := by decide +kernel
theorem dX11_init_230 : decode cX11_init 230 = .ok (.iconst 2, 1) := by decide +kernel
theorem dX11_init_231 : decode cX11_init 231 = .ok (.ldc2_w 118, 3) := by decide +kernel
theorem dX11_init_234 : decode cX11_init 234 = .ok (.lastore, 1) := by decide +kernel
theorem dX11_init_235 : decode cX11_init 235 = .ok (.aload_n 0, 1) := by decide +kernel
theorem dX11_init_236 : decode cX11_init 236 = .ok (.getfield 44, 3) := by decide +kernel
theorem dX11_init_239 : decode cX11_init 239 = .ok (.iconst 3, 1) := by decide +kernel
theorem dX11_init_240 : decode cX11_init 240 = .ok (.ldc2_w 120, 3) := by decide +kernel
theorem dX11_init_243 : decode cX11_init 243 = .ok (.lastore, 1) := by decide +kernel
theorem dX11_init_244 : decode cX11_init 244 = .ok (.aload_n 0, 1) := by decide +kernel
theorem dX11_init_245 : decode cX11_init 245 = .ok (.getfield 44, 3) := by decide +kernel
theorem dX11_init_248 : decode cX11_init 248 = .ok (.iconst 4, 1) := by decide +kernel
theorem dX11_init_249 : decode cX11_init 249 = .ok (.ldc2_w 122, 3) := by decide +kernel
theorem dX11_init_252 : decode cX11_init 252 = .ok (.lastore, 1) := by decide +kernel
theorem dX11_init_253 : decode cX11_init 253 = .ok (.aload_n 0, 1) := by decide +kernel
theorem dX11_init_254 : decode cX11_init 254 = .ok (.getfield 44, 3) := by decide +kernel
theorem dX11_init_257 : decode cX11_init 257 = .ok (.iconst 5, 1) := by decide +kernel
theorem dX11_init_258 : decode cX11_init 258 = .ok (.ldc2_w 124, 3) := by decide +kernel
theorem dX11_init_261 : decode cX11_init 261 = .ok (.lastore, 1) := by decide +kernel
theorem dX11_init_262 : decode cX11_init 262 = .ok (.aload_n 0, 1) := by decide +kernel
theorem dX11_init_263 : decode cX11_init 263 = .ok (.getfield 44, 3) := by decide +kernel
theorem dX11_init_266 : decode cX11_init 266 = .ok (.bipush 6, 2) := by decide +kernel
theorem dX11_init_268 : decode cX11_init 268 = .ok (.ldc2_w 126, 3) := by decide +kernel
theorem dX11_init_271 : decode cX11_init 271 = .ok (.lastore, 1) := by decide +kernel
theorem dX11_init_272 : decode cX11_init 272 = .ok (.aload_n 0, 1) := by decide +kernel
theorem dX11_init_273 : decode cX11_init 273 = .ok (.getfield 44, 3) := by decide +kernel
theorem dX11_init_276 : decode cX11_init 276 = .ok (.bipush 7, 2) := by decide +kernel
theorem dX11_init_278 : decode cX11_init 278 = .ok (.ldc2_w 128, 3) := by decide +kernel
theorem dX11_init_281 : decode cX11_init 281 = .ok (.lastore, 1) := by decide +kernel
theorem dX11_init_282 : decode cX11_init 282 = .ok (.aload_n 0, 1) := by decide +kernel
theorem dX11_init_283 : decode cX11_init 283 = .ok (.getfield 33, 3) := by decide +kernel
theorem dX11_init_286 : decode cX11_init 286 = .ok (.iconst 0, 1) := by decide +kernel
theorem dX11_init_287 : decode cX11_init 287 = .ok (.bipush 12, 2) := by decide +kernel
theorem dX11_init_289 : decode cX11_init 289 = .ok (.iastore, 1) := by decide +kernel
theorem dX11_init_290 : decode cX11_init 290 = .ok (.aload_n 0, 1) := by decide +kernel
theorem dX11_init_291 : decode cX11_init 291 = .ok (.invokevirtual 130, 3) := by decide +kernel
theorem dX11_init_294 : decode cX11_init 294 = .ok (.return_, 1) := by decide +kernel
theorem dX11_peek_0 : decode cX11_peek 0 = .ok (.aload_n 0, 1) := by decide +kernel
theorem dX11_peek_1 : decode cX11_peek 1 = .ok (.getfield 21, 3) := by decide +kernel
theorem dX11_peek_4 : decode cX11_peek 4 = .ok (.aload_n 0, 1) := by decide +kernel
theorem dX11_peek_5 : decode cX11_peek 5 = .ok (.getfield 18, 3) := by decide +kernel
theorem dX11_peek_8 : decode cX11_peek 8 = .ok (.if_icmp .ge 19, 3) := by decide +kernel
theorem dX11_peek_11 : decode cX11_peek 11 = .ok (.aload_n 0, 1) := by decide +kernel
theorem dX11_peek_12 : decode cX11_peek 12 = .ok (.getfield 14, 3) := by decide +kernel
theorem dX11_peek_15 : decode cX11_peek 15 = .ok (.aload_n 0, 1) := by decide +kernel
theorem dX11_peek_16 : decode cX11_peek 16 = .ok (.getfield 21, 3) := by decide +kernel
theorem dX11_peek_19 : decode cX11_peek 19 = .ok (.baload, 1) := by decide +kernel
theorem dX11_peek_20 : decode cX11_peek 20 = .ok (.sipush 255, 3) := by decide +kernel
theorem dX11_peek_23 : decode cX11_peek 23 = .ok (.iand, 1) := by decide +kernel
theorem dX11_peek_24 : decode cX11_peek 24 = .ok (.goto 4, 3) := by decide +kernel
theorem dX11_peek_27 : decode cX11_peek 27 = .ok (.iconst (-1), 1) := by decide +kernel
theorem dX11_peek_28 : decode cX11_peek 28 = .ok (.ireturn, 1) := by decide +kernel
theorem dX11_isSmall_0 : decode cX11_isSmall 0 = .ok (.iload_n 0, 1) := by decide +kernel
theorem dX11_isSmall_1 : decode cX11_isSmall 1 = .ok (.bipush 97, 2) := by decide +kernel
theorem dX11_isSmall_3 : decode cX11_isSmall 3 = .ok (.if_icmp .lt 13, 3) := by decide +kernel
theorem dX11_isSmall_6 : decode cX11_isSmall 6 = .ok (.iload_n 0, 1) := by decide +kernel
theorem dX11_isSmall_7 : decode cX11_isSmall 7 = .ok (.bipush 122, 2) := by decide +kernel
theorem dX11_isSmall_9 : decode cX11_isSmall 9 = .ok (.if_icmp .gt 7, 3) := by decide +kernel
theorem dX11_isSmall_12 : decode cX11_isSmall 12 = .ok (.iconst 1, 1) := by decide +kernel
theorem dX11_isSmall_13 : decode cX11_isSmall 13 = .ok (.goto 4, 3) := by decide +kernel
theorem dX11_isSmall_16 : decode cX11_isSmall 16 = .ok (.iconst 0, 1) := by decide +kernel
theorem dX11_isSmall_17 : decode cX11_isSmall 17 = .ok (.ireturn, 1) := by decide +kernel
theorem dX11_isDigit_0 : decode cX11_isDigit 0 = .ok (.iload_n 0, 1) := by decide +kernel
theorem dX11_isDigit_1 : decode cX11_isDigit 1 = .ok (.bipush 48, 2) := by decide +kernel
theorem dX11_isDigit_3 : decode cX11_isDigit 3 = .ok (.if_icmp .lt 13, 3) := by decide +kernel
theorem dX11_isDigit_6 : decode cX11_isDigit 6 = .ok (.iload_n 0, 1) := by decide +kernel
theorem dX11_isDigit_7 : decode cX11_isDigit 7 = .ok (.bipush 57, 2) := by decide +kernel
theorem dX11_isDigit_9 : decode cX11_isDigit 9 = .ok (.if_icmp .gt 7, 3) := by decide +kernel
theorem dX11_isDigit_12 : decode cX11_isDigit 12 = .ok (.iconst 1, 1) := by decide +kernel
theorem dX11_isDigit_13 : decode cX11_isDigit 13 = .ok (.goto 4, 3) := by decide +kernel
theorem dX11_isDigit_16 : decode cX11_isDigit 16 = .ok (.iconst 0, 1) := by decide +kernel
theorem dX11_isDigit_17 : decode cX11_isDigit 17 = .ok (.ireturn, 1) := by decide +kernel
theorem dX11_next_0 : decode cX11_next 0 = .ok (.aload_n 0, 1) := by decide +kernel
theorem dX11_next_1 : decode cX11_next 1 = .ok (.invokevirtual 133, 3) := by decide +kernel
theorem dX11_next_4 : decode cX11_next 4 = .ok (.bipush 32, 2) := by decide +kernel
theorem dX11_next_6 : decode cX11_next 6 = .ok (.if_icmp .eq 12, 3) := by decide +kernel
theorem dX11_next_9 : decode cX11_next 9 = .ok (.aload_n 0, 1) := by decide +kernel
theorem dX11_next_10 : decode cX11_next 10 = .ok (.invokevirtual 133, 3) := by decide +kernel
theorem dX11_next_13 : decode cX11_next 13 = .ok (.bipush 10, 2) := by decide +kernel
theorem dX11_next_15 : decode cX11_next 15 = .ok (.if_icmp .ne 16, 3) := by decide +kernel
theorem dX11_next_18 : decode cX11_next 18 = .ok (.aload_n 0, 1) := by decide +kernel
theorem dX11_next_19 : decode cX11_next 19 = .ok (.dup, 1) := by decide +kernel
theorem dX11_next_20 : decode cX11_next 20 = .ok (.getfield 21, 3) := by decide +kernel
theorem dX11_next_23 : decode cX11_next 23 = .ok (.iconst 1, 1) := by decide +kernel
theorem dX11_next_24 : decode cX11_next 24 = .ok (.iadd, 1) := by decide +kernel
theorem dX11_next_25 : decode cX11_next 25 = .ok (.putfield 21, 3) := by decide +kernel
theorem dX11_next_28 : decode cX11_next 28 = .ok (.goto (-28), 3) := by decide +kernel
theorem dX11_next_31 : decode cX11_next 31 = .ok (.aload_n 0, 1) := by decide +kernel
theorem dX11_next_32 : decode cX11_next 32 = .ok (.aload_n 0, 1) := by decide +kernel
theorem dX11_next_33 : decode cX11_next 33 = .ok (.getfield 21, 3) := by decide +kernel
theorem dX11_next_36 : decode cX11_next 36 = .ok (.putfield 137, 3) := by decide +kernel
theorem dX11_next_39 : decode cX11_next 39 = .ok (.aload_n 0, 1) := by decide +kernel
theorem dX11_next_40 : decode cX11_next 40 = .ok (.iconst 0, 1) := by decide +kernel
theorem dX11_next_41 : decode cX11_next 41 = .ok (.putfield 140, 3) := by decide +kernel
theorem dX11_next_44 : decode cX11_next 44 = .ok (.aload_n 0, 1) := by decide +kernel
theorem dX11_next_45 : decode cX11_next 45 = .ok (.getfield 18, 3) := by decide +kernel
theorem dX11_next_48 : decode cX11_next 48 = .ok (.aload_n 0, 1) := by decide +kernel
theorem dX11_next_49 : decode cX11_next 49 = .ok (.getfield 24, 3) := by decide +kernel
theorem dX11_next_52 : decode cX11_next 52 = .ok (.if_icmp .le 28, 3) := by decide +kernel
theorem dX11_next_55 : decode cX11_next 55 = .ok (.aload_n 0, 1) := by decide +kernel
theorem dX11_next_56 : decode cX11_next 56 = .ok (.getfield 21, 3) := by decide +kernel
theorem dX11_next_59 : decode cX11_next 59 = .ok (.aload_n 0, 1) := by decide +kernel
theorem dX11_next_60 : decode cX11_next 60 = .ok (.getfield 24, 3) := by decide +kernel
theorem dX11_next_63 : decode cX11_next 63 = .ok (.if_icmp .lt 17, 3) := by decide +kernel
theorem dX11_next_66 : decode cX11_next 66 = .ok (.aload_n 0, 1) := by decide +kernel
theorem dX11_next_67 : decode cX11_next 67 = .ok (.aload_n 0, 1) := by decide +kernel
theorem dX11_next_68 : decode cX11_next 68 = .ok (.getfield 24, 3) := by decide +kernel
theorem dX11_next_71 : decode cX11_next 71 = .ok (.putfield 137, 3) := by decide +kernel
theorem dX11_next_74 : decode cX11_next 74 = .ok (.aload_n 0, 1) := by decide +kernel
theorem dX11_next_75 : decode cX11_next 75 = .ok (.iconst 4, 1) := by decide +kernel
theorem dX11_next_76 : decode cX11_next 76 = .ok (.putfield 143, 3) := by decide +kernel
theorem dX11_next_79 : decode cX11_next 79 = .ok (.return_, 1) := by decide +kernel
theorem dX11_next_80 : decode cX11_next 80 = .ok (.aload_n 0, 1) := by decide +kernel
theorem dX11_next_81 : decode cX11_next 81 = .ok (.invokevirtual 133, 3) := by decide +kernel
theorem dX11_next_84 : decode cX11_next 84 = .ok (.istore_n 1, 1) := by decide +kernel
theorem dX11_next_85 : decode cX11_next 85 = .ok (.iload_n 1, 1) := by decide +kernel
theorem dX11_next_86 : decode cX11_next 86 = .ok (.ifCond .ge 9, 3) := by decide +kernel
theorem dX11_next_89 : decode cX11_next 89 = .ok (.aload_n 0, 1) := by decide +kernel
theorem dX11_next_90 : decode cX11_next 90 = .ok (.iconst 0, 1) := by decide +kernel
theorem dX11_next_91 : decode cX11_next 91 = .ok (.putfield 143, 3) := by decide +kernel
theorem dX11_next_94 : decode cX11_next 94 = .ok (.return_, 1) := by decide +kernel
theorem dX11_next_95 : decode cX11_next 95 = .ok (.iload_n 1, 1) := by decide +kernel
theorem dX11_next_96 : decode cX11_next 96 = .ok (.invokestatic 146, 3) := by decide +kernel
theorem dX11_next_99 : decode cX11_next 99 = .ok (.ifCond .ne 47, 3) := by decide +kernel
theorem dX11_next_102 : decode cX11_next 102 = .ok (.iload_n 1, 1) := by decide +kernel
theorem dX11_next_103 : decode cX11_next 103 = .ok (.invokestatic 150, 3) := by decide +kernel
theorem dX11_next_106 : decode cX11_next 106 = .ok (.ifCond .ne 40, 3) := by decide +kernel
theorem dX11_next_109 : decode cX11_next 109 = .ok (.aload_n 0, 1) := by decide +kernel
theorem dX11_next_110 : decode cX11_next 110 = .ok (.iload_n 1, 1) := by decide +kernel
theorem dX11_next_111 : decode cX11_next 111 = .ok (.bipush 59, 2) := by decide +kernel
theorem dX11_next_113 : decode cX11_next 113 = .ok (.if_icmp .eq 9, 3) := by decide +kernel
theorem dX11_next_116 : decode cX11_next 116 = .ok (.iload_n 1, 1) := by decide +kernel
theorem dX11_next_117 : decode cX11_next 117 = .ok (.bipush 45, 2) := by decide +kernel
theorem dX11_next_119 : decode cX11_next 119 = .ok (.if_icmp .ne 7, 3) := by decide +kernel
theorem dX11_next_122 : decode cX11_next 122 = .ok (.iconst 3, 1) := by decide +kernel
theorem dX11_next_123 : decode cX11_next 123 = .ok (.goto 4, 3) := by decide +kernel
theorem dX11_next_126 : decode cX11_next 126 = .ok (.iconst 4, 1) := by decide +kernel
theorem dX11_next_127 : decode cX11_next 127 = .ok (.putfield 143, 3) := by decide +kernel
theorem dX11_next_130 : decode cX11_next 130 = .ok (.aload_n 0, 1) := by decide +kernel
theorem dX11_next_131 : decode cX11_next 131 = .ok (.iload_n 1, 1) := by decide +kernel
