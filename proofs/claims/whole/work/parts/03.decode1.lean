theorem dX0_init_0 : decode cX0_init 0 = .ok (.aload_n 0, 1) := by decide +kernel
theorem dX0_init_1 : decode cX0_init 1 = .ok (.invokespecial 3, 3) := by decide +kernel
theorem dX0_init_4 : decode cX0_init 4 = .ok (.aload_n 0, 1) := by decide +kernel
theorem dX0_init_5 : decode cX0_init 5 = .ok (.iconst 4, 1) := by decide +kernel
theorem dX0_init_6 : decode cX0_init 6 = .ok (.newarray .int, 2) := by decide +kernel
theorem dX0_init_8 : decode cX0_init 8 = .ok (.putfield 9, 3) := by decide +kernel
theorem dX0_init_11 : decode cX0_init 11 = .ok (.aload_n 0, 1) := by decide +kernel
theorem dX0_init_12 : decode cX0_init 12 = .ok (.iconst 4, 1) := by decide +kernel
theorem dX0_init_13 : decode cX0_init 13 = .ok (.newarray .int, 2) := by decide +kernel
theorem dX0_init_15 : decode cX0_init 15 = .ok (.putfield 15, 3) := by decide +kernel
theorem dX0_init_18 : decode cX0_init 18 = .ok (.aload_n 0, 1) := by decide +kernel
theorem dX0_init_19 : decode cX0_init 19 = .ok (.bipush 8, 2) := by decide +kernel
theorem dX0_init_21 : decode cX0_init 21 = .ok (.newarray .int, 2) := by decide +kernel
theorem dX0_init_23 : decode cX0_init 23 = .ok (.putfield 18, 3) := by decide +kernel
theorem dX0_init_26 : decode cX0_init 26 = .ok (.aload_n 0, 1) := by decide +kernel
theorem dX0_init_27 : decode cX0_init 27 = .ok (.bipush 8, 2) := by decide +kernel
theorem dX0_init_29 : decode cX0_init 29 = .ok (.newarray .int, 2) := by decide +kernel
theorem dX0_init_31 : decode cX0_init 31 = .ok (.putfield 21, 3) := by decide +kernel
theorem dX0_init_34 : decode cX0_init 34 = .ok (.aload_n 0, 1) := by decide +kernel
theorem dX0_init_35 : decode cX0_init 35 = .ok (.bipush 8, 2) := by decide +kernel
theorem dX0_init_37 : decode cX0_init 37 = .ok (.newarray .int, 2) := by decide +kernel
theorem dX0_init_39 : decode cX0_init 39 = .ok (.putfield 24, 3) := by decide +kernel
theorem dX0_init_42 : decode cX0_init 42 = .ok (.aload_n 0, 1) := by decide +kernel
theorem dX0_init_43 : decode cX0_init 43 = .ok (.lconst 1, 1) := by decide +kernel
theorem dX0_init_44 : decode cX0_init 44 = .ok (.putfield 27, 3) := by decide +kernel
theorem dX0_init_47 : decode cX0_init 47 = .ok (.return_, 1) := by decide +kernel
theorem dX0_copy_0 : decode cX0_copy 0 = .ok (.aload_n 0, 1) := by decide +kernel
theorem dX0_copy_1 : decode cX0_copy 1 = .ok (.aload_n 1, 1) := by decide +kernel
theorem dX0_copy_2 : decode cX0_copy 2 = .ok (.getfield 31, 3) := by decide +kernel
theorem dX0_copy_5 : decode cX0_copy 5 = .ok (.putfield 31, 3) := by decide +kernel
theorem dX0_copy_8 : decode cX0_copy 8 = .ok (.aload_n 1, 1) := by decide +kernel
theorem dX0_copy_9 : decode cX0_copy 9 = .ok (.getfield 9, 3) := by decide +kernel
theorem dX0_copy_12 : decode cX0_copy 12 = .ok (.iconst 0, 1) := by decide +kernel
theorem dX0_copy_13 : decode cX0_copy 13 = .ok (.aload_n 0, 1) := by decide +kernel
theorem dX0_copy_14 : decode cX0_copy 14 = .ok (.getfield 9, 3) := by decide +kernel
theorem dX0_copy_17 : decode cX0_copy 17 = .ok (.iconst 0, 1) := by decide +kernel
theorem dX0_copy_18 : decode cX0_copy 18 = .ok (.iconst 4, 1) := by decide +kernel
theorem dX0_copy_19 : decode cX0_copy 19 = .ok (.invokestatic 35, 3) := by decide +kernel
theorem dX0_copy_22 : decode cX0_copy 22 = .ok (.aload_n 1, 1) := by decide +kernel
theorem dX0_copy_23 : decode cX0_copy 23 = .ok (.getfield 15, 3) := by decide +kernel
theorem dX0_copy_26 : decode cX0_copy 26 = .ok (.iconst 0, 1) := by decide +kernel
theorem dX0_copy_27 : decode cX0_copy 27 = .ok (.aload_n 0, 1) := by decide +kernel
theorem dX0_copy_28 : decode cX0_copy 28 = .ok (.getfield 15, 3) := by decide +kernel
theorem dX0_copy_31 : decode cX0_copy 31 = .ok (.iconst 0, 1) := by decide +kernel
theorem dX0_copy_32 : decode cX0_copy 32 = .ok (.iconst 4, 1) := by decide +kernel
theorem dX0_copy_33 : decode cX0_copy 33 = .ok (.invokestatic 35, 3) := by decide +kernel
theorem dX0_copy_36 : decode cX0_copy 36 = .ok (.aload_n 0, 1) := by decide +kernel
theorem dX0_copy_37 : decode cX0_copy 37 = .ok (.aload_n 1, 1) := by decide +kernel
theorem dX0_copy_38 : decode cX0_copy 38 = .ok (.getfield 41, 3) := by decide +kernel
theorem dX0_copy_41 : decode cX0_copy 41 = .ok (.putfield 41, 3) := by decide +kernel
theorem dX0_copy_44 : decode cX0_copy 44 = .ok (.aload_n 1, 1) := by decide +kernel
theorem dX0_copy_45 : decode cX0_copy 45 = .ok (.getfield 18, 3) := by decide +kernel
theorem dX0_copy_48 : decode cX0_copy 48 = .ok (.iconst 0, 1) := by decide +kernel
theorem dX0_copy_49 : decode cX0_copy 49 = .ok (.aload_n 0, 1) := by decide +kernel
theorem dX0_copy_50 : decode cX0_copy 50 = .ok (.getfield 18, 3) := by decide +kernel
theorem dX0_copy_53 : decode cX0_copy 53 = .ok (.iconst 0, 1) := by decide +kernel
theorem dX0_copy_54 : decode cX0_copy 54 = .ok (.bipush 8, 2) := by decide +kernel
theorem dX0_copy_56 : decode cX0_copy 56 = .ok (.invokestatic 35, 3) := by decide +kernel
theorem dX0_copy_59 : decode cX0_copy 59 = .ok (.aload_n 1, 1) := by decide +kernel
theorem dX0_copy_60 : decode cX0_copy 60 = .ok (.getfield 21, 3) := by decide +kernel
theorem dX0_copy_63 : decode cX0_copy 63 = .ok (.iconst 0, 1) := by decide +kernel
theorem dX0_copy_64 : decode cX0_copy 64 = .ok (.aload_n 0, 1) := by decide +kernel
theorem dX0_copy_65 : decode cX0_copy 65 = .ok (.getfield 21, 3) := by decide +kernel
theorem dX0_copy_68 : decode cX0_copy 68 = .ok (.iconst 0, 1) := by decide +kernel
theorem dX0_copy_69 : decode cX0_copy 69 = .ok (.bipush 8, 2) := by decide +kernel
theorem dX0_copy_71 : decode cX0_copy 71 = .ok (.invokestatic 35, 3) := by decide +kernel
theorem dX0_copy_74 : decode cX0_copy 74 = .ok (.aload_n 1, 1) := by decide +kernel
theorem dX0_copy_75 : decode cX0_copy 75 = .ok (.getfield 24, 3) := by decide +kernel
theorem dX0_copy_78 : decode cX0_copy 78 = .ok (.iconst 0, 1) := by decide +kernel
theorem dX0_copy_79 : decode cX0_copy 79 = .ok (.aload_n 0, 1) := by decide +kernel
theorem dX0_copy_80 : decode cX0_copy 80 = .ok (.getfield 24, 3) := by decide +kernel
theorem dX0_copy_83 : decode cX0_copy 83 = .ok (.iconst 0, 1) := by decide +kernel
theorem dX0_copy_84 : decode cX0_copy 84 = .ok (.bipush 8, 2) := by decide +kernel
theorem dX0_copy_86 : decode cX0_copy 86 = .ok (.invokestatic 35, 3) := by decide +kernel
theorem dX0_copy_89 : decode cX0_copy 89 = .ok (.return_, 1) := by decide +kernel
theorem dX0_addStation_0 : decode cX0_addStation 0 = .ok (.aload_n 0, 1) := by decide +kernel
theorem dX0_addStation_1 : decode cX0_addStation 1 = .ok (.getfield 31, 3) := by decide +kernel
theorem dX0_addStation_4 : decode cX0_addStation 4 = .ok (.iconst 4, 1) := by decide +kernel
theorem dX0_addStation_5 : decode cX0_addStation 5 = .ok (.if_icmp .ge 33, 3) := by decide +kernel
theorem dX0_addStation_8 : decode cX0_addStation 8 = .ok (.aload_n 0, 1) := by decide +kernel
theorem dX0_addStation_9 : decode cX0_addStation 9 = .ok (.getfield 9, 3) := by decide +kernel
theorem dX0_addStation_12 : decode cX0_addStation 12 = .ok (.aload_n 0, 1) := by decide +kernel
theorem dX0_addStation_13 : decode cX0_addStation 13 = .ok (.getfield 31, 3) := by decide +kernel
theorem dX0_addStation_16 : decode cX0_addStation 16 = .ok (.iload_n 1, 1) := by decide +kernel
theorem dX0_addStation_17 : decode cX0_addStation 17 = .ok (.iastore, 1) := by decide +kernel
theorem dX0_addStation_18 : decode cX0_addStation 18 = .ok (.aload_n 0, 1) := by decide +kernel
theorem dX0_addStation_19 : decode cX0_addStation 19 = .ok (.getfield 15, 3) := by decide +kernel
theorem dX0_addStation_22 : decode cX0_addStation 22 = .ok (.aload_n 0, 1) := by decide +kernel
theorem dX0_addStation_23 : decode cX0_addStation 23 = .ok (.getfield 31, 3) := by decide +kernel
theorem dX0_addStation_26 : decode cX0_addStation 26 = .ok (.iload_n 2, 1) := by decide +kernel
theorem dX0_addStation_27 : decode cX0_addStation 27 = .ok (.iastore, 1) := by decide +kernel
theorem dX0_addStation_28 : decode cX0_addStation 28 = .ok (.aload_n 0, 1) := by decide +kernel
theorem dX0_addStation_29 : decode cX0_addStation 29 = .ok (.dup, 1) := by decide +kernel
theorem dX0_addStation_30 : decode cX0_addStation 30 = .ok (.getfield 31, 3) := by decide +kernel
theorem dX0_addStation_33 : decode cX0_addStation 33 = .ok (.iconst 1, 1) := by decide +kernel
theorem dX0_addStation_34 : decode cX0_addStation 34 = .ok (.iadd, 1) := by decide +kernel
theorem dX0_addStation_35 : decode cX0_addStation 35 = .ok (.putfield 31, 3) := by decide +kernel
theorem dX0_addStation_38 : decode cX0_addStation 38 = .ok (.return_, 1) := by decide +kernel
theorem dX0_addBearing_0 : decode cX0_addBearing 0 = .ok (.aload_n 0, 1) := by decide +kernel
theorem dX0_addBearing_1 : decode cX0_addBearing 1 = .ok (.getfield 41, 3) := by decide +kernel
theorem dX0_addBearing_4 : decode cX0_addBearing 4 = .ok (.bipush 8, 2) := by decide +kernel
theorem dX0_addBearing_6 : decode cX0_addBearing 6 = .ok (.if_icmp .ge 43, 3) := by decide +kernel
theorem dX0_addBearing_9 : decode cX0_addBearing 9 = .ok (.aload_n 0, 1) := by decide +kernel
theorem dX0_addBearing_10 : decode cX0_addBearing 10 = .ok (.getfield 18, 3) := by decide +kernel
theorem dX0_addBearing_13 : decode cX0_addBearing 13 = .ok (.aload_n 0, 1) := by decide +kernel
theorem dX0_addBearing_14 : decode cX0_addBearing 14 = .ok (.getfield 41, 3) := by decide +kernel
theorem dX0_addBearing_17 : decode cX0_addBearing 17 = .ok (.iload_n 1, 1) := by decide +kernel
theorem dX0_addBearing_18 : decode cX0_addBearing 18 = .ok (.iastore, 1) := by decide +kernel
theorem dX0_addBearing_19 : decode cX0_addBearing 19 = .ok (.aload_n 0, 1) := by decide +kernel
theorem dX0_addBearing_20 : decode cX0_addBearing 20 = .ok (.getfield 21, 3) := by decide +kernel
theorem dX0_addBearing_23 : decode cX0_addBearing 23 = .ok (.aload_n 0, 1) := by decide +kernel
theorem dX0_addBearing_24 : decode cX0_addBearing 24 = .ok (.getfield 41, 3) := by decide +kernel
theorem dX0_addBearing_27 : decode cX0_addBearing 27 = .ok (.iload_n 2, 1) := by decide +kernel
theorem dX0_addBearing_28 : decode cX0_addBearing 28 = .ok (.iastore, 1) := by decide +kernel
theorem dX0_addBearing_29 : decode cX0_addBearing 29 = .ok (.aload_n 0, 1) := by decide +kernel
theorem dX0_addBearing_30 : decode cX0_addBearing 30 = .ok (.getfield 24, 3) := by decide +kernel
theorem dX0_addBearing_33 : decode cX0_addBearing 33 = .ok (.aload_n 0, 1) := by decide +kernel
theorem dX0_addBearing_34 : decode cX0_addBearing 34 = .ok (.getfield 41, 3) := by decide +kernel
theorem dX0_addBearing_37 : decode cX0_addBearing 37 = .ok (.iload_n 3, 1) := by decide +kernel
theorem dX0_addBearing_38 : decode cX0_addBearing 38 = .ok (.iastore, 1) := by decide +kernel
theorem dX0_addBearing_39 : decode cX0_addBearing 39 = .ok (.aload_n 0, 1) := by decide +kernel
theorem dX0_addBearing_40 : decode cX0_addBearing 40 = .ok (.dup, 1) := by decide +kernel
theorem dX0_addBearing_41 : decode cX0_addBearing 41 = .ok (.getfield 41, 3) := by decide +kernel
theorem dX0_addBearing_44 : decode cX0_addBearing 44 = .ok (.iconst 1, 1) := by decide +kernel
theorem dX0_addBearing_45 : decode cX0_addBearing 45 = .ok (.iadd, 1) := by decide +kernel
theorem dX0_addBearing_46 : decode cX0_addBearing 46 = .ok (.putfield 41, 3) := by decide +kernel
theorem dX0_addBearing_49 : decode cX0_addBearing 49 = .ok (.return_, 1) := by decide +kernel
theorem dX0_hasBearing_0 : decode cX0_hasBearing 0 = .ok (.iload_n 1, 1) := by decide +kernel
theorem dX0_hasBearing_1 : decode cX0_hasBearing 1 = .ok (.ifCond .lt 15, 3) := by decide +kernel
theorem dX0_hasBearing_4 : decode cX0_hasBearing 4 = .ok (.iload_n 1, 1) := by decide +kernel
theorem dX0_hasBearing_5 : decode cX0_hasBearing 5 = .ok (.aload_n 0, 1) := by decide +kernel
theorem dX0_hasBearing_6 : decode cX0_hasBearing 6 = .ok (.getfield 41, 3) := by decide +kernel
theorem dX0_hasBearing_9 : decode cX0_hasBearing 9 = .ok (.if_icmp .ge 7, 3) := by decide +kernel
theorem dX0_hasBearing_12 : decode cX0_hasBearing 12 = .ok (.iconst 1, 1) := by decide +kernel
theorem dX0_hasBearing_13 : decode cX0_hasBearing 13 = .ok (.goto 4, 3) := by decide +kernel
theorem dX0_hasBearing_16 : decode cX0_hasBearing 16 = .ok (.iconst 0, 1) := by decide +kernel
theorem dX0_hasBearing_17 : decode cX0_hasBearing 17 = .ok (.ireturn, 1) := by decide +kernel
theorem dX0_meet_0 : decode cX0_meet 0 = .ok (.aload_n 0, 1) := by decide +kernel
theorem dX0_meet_1 : decode cX0_meet 1 = .ok (.iload_n 1, 1) := by decide +kernel
theorem dX0_meet_2 : decode cX0_meet 2 = .ok (.invokevirtual 44, 3) := by decide +kernel
theorem dX0_meet_5 : decode cX0_meet 5 = .ok (.ifCond .eq 26, 3) := by decide +kernel
theorem dX0_meet_8 : decode cX0_meet 8 = .ok (.aload_n 0, 1) := by decide +kernel
theorem dX0_meet_9 : decode cX0_meet 9 = .ok (.iload_n 2, 1) := by decide +kernel
theorem dX0_meet_10 : decode cX0_meet 10 = .ok (.invokevirtual 44, 3) := by decide +kernel
theorem dX0_meet_13 : decode cX0_meet 13 = .ok (.ifCond .eq 18, 3) := by decide +kernel
theorem dX0_meet_16 : decode cX0_meet 16 = .ok (.aload_n 0, 1) := by decide +kernel
theorem dX0_meet_17 : decode cX0_meet 17 = .ok (.getfield 18, 3) := by decide +kernel
theorem dX0_meet_20 : decode cX0_meet 20 = .ok (.iload_n 1, 1) := by decide +kernel
theorem dX0_meet_21 : decode cX0_meet 21 = .ok (.iaload, 1) := by decide +kernel
theorem dX0_meet_22 : decode cX0_meet 22 = .ok (.aload_n 0, 1) := by decide +kernel
theorem dX0_meet_23 : decode cX0_meet 23 = .ok (.getfield 18, 3) := by decide +kernel
theorem dX0_meet_26 : decode cX0_meet 26 = .ok (.iload_n 2, 1) := by decide +kernel
theorem dX0_meet_27 : decode cX0_meet 27 = .ok (.iaload, 1) := by decide +kernel
theorem dX0_meet_28 : decode cX0_meet 28 = .ok (.if_icmp .ne 5, 3) := by decide +kernel
theorem dX0_meet_31 : decode cX0_meet 31 = .ok (.iconst 0, 1) := by decide +kernel
theorem dX0_meet_32 : decode cX0_meet 32 = .ok (.ireturn, 1) := by decide +kernel
theorem dX0_meet_33 : decode cX0_meet 33 = .ok (.aload_n 0, 1) := by decide +kernel
theorem dX0_meet_34 : decode cX0_meet 34 = .ok (.getfield 21, 3) := by decide +kernel
theorem dX0_meet_37 : decode cX0_meet 37 = .ok (.iload_n 1, 1) := by decide +kernel
theorem dX0_meet_38 : decode cX0_meet 38 = .ok (.iaload, 1) := by decide +kernel
theorem dX0_meet_39 : decode cX0_meet 39 = .ok (.i2l, 1) := by decide +kernel
theorem dX0_meet_40 : decode cX0_meet 40 = .ok (.aload_n 0, 1) := by decide +kernel
theorem dX0_meet_41 : decode cX0_meet 41 = .ok (.getfield 24, 3) := by decide +kernel
theorem dX0_meet_44 : decode cX0_meet 44 = .ok (.iload_n 2, 1) := by decide +kernel
theorem dX0_meet_45 : decode cX0_meet 45 = .ok (.iaload, 1) := by decide +kernel
theorem dX0_meet_46 : decode cX0_meet 46 = .ok (.i2l, 1) := by decide +kernel
theorem dX0_meet_47 : decode cX0_meet 47 = .ok (.lmul, 1) := by decide +kernel
theorem dX0_meet_48 : decode cX0_meet 48 = .ok (.aload_n 0, 1) := by decide +kernel
theorem dX0_meet_49 : decode cX0_meet 49 = .ok (.getfield 24, 3) := by decide +kernel
theorem dX0_meet_52 : decode cX0_meet 52 = .ok (.iload_n 1, 1) := by decide +kernel
theorem dX0_meet_53 : decode cX0_meet 53 = .ok (.iaload, 1) := by decide +kernel
theorem dX0_meet_54 : decode cX0_meet 54 = .ok (.i2l, 1) := by decide +kernel
theorem dX0_meet_55 : decode cX0_meet 55 = .ok (.aload_n 0, 1) := by decide +kernel
theorem dX0_meet_56 : decode cX0_meet 56 = .ok (.getfield 21, 3) := by decide +kernel
theorem dX0_meet_59 : decode cX0_meet 59 = .ok (.iload_n 2, 1) := by decide +kernel
theorem dX0_meet_60 : decode cX0_meet 60 = .ok (.iaload, 1) := by decide +kernel
theorem dX0_meet_61 : decode cX0_meet 61 = .ok (.i2l, 1) := by decide +kernel
theorem dX0_meet_62 : decode cX0_meet 62 = .ok (.lmul, 1) := by decide +kernel
theorem dX0_meet_63 : decode cX0_meet 63 = .ok (.lsub, 1) := by decide +kernel
theorem dX0_meet_64 : decode cX0_meet 64 = .ok (.lstore_n 3, 1) := by decide +kernel
theorem dX0_meet_65 : decode cX0_meet 65 = .ok (.aload_n 0, 1) := by decide +kernel
theorem dX0_meet_66 : decode cX0_meet 66 = .ok (.getfield 9, 3) := by decide +kernel
theorem dX0_meet_69 : decode cX0_meet 69 = .ok (.aload_n 0, 1) := by decide +kernel
theorem dX0_meet_70 : decode cX0_meet 70 = .ok (.getfield 18, 3) := by decide +kernel
theorem dX0_meet_73 : decode cX0_meet 73 = .ok (.iload_n 2, 1) := by decide +kernel
theorem dX0_meet_74 : decode cX0_meet 74 = .ok (.iaload, 1) := by decide +kernel
theorem dX0_meet_75 : decode cX0_meet 75 = .ok (.iaload, 1) := by decide +kernel
theorem dX0_meet_76 : decode cX0_meet 76 = .ok (.aload_n 0, 1) := by decide +kernel
theorem dX0_meet_77 : decode cX0_meet 77 = .ok (.getfield 9, 3) := by decide +kernel
theorem dX0_meet_80 : decode cX0_meet 80 = .ok (.aload_n 0, 1) := by decide +kernel
theorem dX0_meet_81 : decode cX0_meet 81 = .ok (.getfield 18, 3) := by decide +kernel
theorem dX0_meet_84 : decode cX0_meet 84 = .ok (.iload_n 1, 1) := by decide +kernel
theorem dX0_meet_85 : decode cX0_meet 85 = .ok (.iaload, 1) := by decide +kernel
theorem dX0_meet_86 : decode cX0_meet 86 = .ok (.iaload, 1) := by decide +kernel
theorem dX0_meet_87 : decode cX0_meet 87 = .ok (.isub, 1) := by decide +kernel
theorem dX0_meet_88 : decode cX0_meet 88 = .ok (.i2l, 1) := by decide +kernel
theorem dX0_meet_89 : decode cX0_meet 89 = .ok (.lstore 5, 2) := by decide +kernel
theorem dX0_meet_91 : decode cX0_meet 91 = .ok (.aload_n 0, 1) := by decide +kernel
theorem dX0_meet_92 : decode cX0_meet 92 = .ok (.getfield 15, 3) := by decide +kernel
theorem dX0_meet_95 : decode cX0_meet 95 = .ok (.aload_n 0, 1) := by decide +kernel
theorem dX0_meet_96 : decode cX0_meet 96 = .ok (.getfield 18, 3) := by decide +kernel
theorem dX0_meet_99 : decode cX0_meet 99 = .ok (.iload_n 2, 1) := by decide +kernel
theorem dX0_meet_100 : decode cX0_meet 100 = .ok (.iaload, 1) := by decide +kernel
theorem dX0_meet_101 : decode cX0_meet 101 = .ok (.iaload, 1) := by decide +kernel
theorem dX0_meet_102 : decode cX0_meet 102 = .ok (.aload_n 0, 1) := by decide +kernel
theorem dX0_meet_103 : decode cX0_meet 103 = .ok (.getfield 15, 3) := by decide +kernel
theorem dX0_meet_106 : decode cX0_meet 106 = .ok (.aload_n 0, 1) := by decide +kernel
theorem dX0_meet_107 : decode cX0_meet 107 = .ok (.getfield 18, 3) := by decide +kernel
theorem dX0_meet_110 : decode cX0_meet 110 = .ok (.iload_n 1, 1) := by decide +kernel
theorem dX0_meet_111 : decode cX0_meet 111 = .ok (.iaload, 1) := by decide +kernel
theorem dX0_meet_112 : decode cX0_meet 112 = .ok (.iaload, 1) := by decide +kernel
theorem dX0_meet_113 : decode cX0_meet 113 = .ok (.isub, 1) := by decide +kernel
theorem dX0_meet_114 : decode cX0_meet 114 = .ok (.i2l, 1) := by decide +kernel
theorem dX0_meet_115 : decode cX0_meet 115 = .ok (.lstore 7, 2) := by decide +kernel
theorem dX0_meet_117 : decode cX0_meet 117 = .ok (.lload 5, 2) := by decide +kernel
theorem dX0_meet_119 : decode cX0_meet 119 = .ok (.aload_n 0, 1) := by decide +kernel
theorem dX0_meet_120 : decode cX0_meet 120 = .ok (.getfield 24, 3) := by decide +kernel
theorem dX0_meet_123 : decode cX0_meet 123 = .ok (.iload_n 2, 1) := by decide +kernel
theorem dX0_meet_124 : decode cX0_meet 124 = .ok (.iaload, 1) := by decide +kernel
theorem dX0_meet_125 : decode cX0_meet 125 = .ok (.i2l, 1) := by decide +kernel
theorem dX0_meet_126 : decode cX0_meet 126 = .ok (.lmul, 1) := by decide +kernel
theorem dX0_meet_127 : decode cX0_meet 127 = .ok (.lload 7, 2) := by decide +kernel
theorem dX0_meet_129 : decode cX0_meet 129 = .ok (.aload_n 0, 1) := by decide +kernel
theorem dX0_meet_130 : decode cX0_meet 130 = .ok (.getfield 21, 3) := by decide +kernel
theorem dX0_meet_133 : decode cX0_meet 133 = .ok (.iload_n 2, 1) := by decide +kernel
theorem dX0_meet_134 : decode cX0_meet 134 = .ok (.iaload, 1) := by decide +kernel
theorem dX0_meet_135 : decode cX0_meet 135 = .ok (.i2l, 1) := by decide +kernel
theorem dX0_meet_136 : decode cX0_meet 136 = .ok (.lmul, 1) := by decide +kernel
theorem dX0_meet_137 : decode cX0_meet 137 = .ok (.lsub, 1) := by decide +kernel
theorem dX0_meet_138 : decode cX0_meet 138 = .ok (.lstore 9, 2) := by decide +kernel
theorem dX0_meet_140 : decode cX0_meet 140 = .ok (.lload 5, 2) := by decide +kernel
theorem dX0_meet_142 : decode cX0_meet 142 = .ok (.aload_n 0, 1) := by decide +kernel
theorem dX0_meet_143 : decode cX0_meet 143 = .ok (.getfield 24, 3) := by decide +kernel
theorem dX0_meet_146 : decode cX0_meet 146 = .ok (.iload_n 1, 1) := by decide +kernel
theorem dX0_meet_147 : decode cX0_meet 147 = .ok (.iaload, 1) := by decide +kernel
theorem dX0_meet_148 : decode cX0_meet 148 = .ok (.i2l, 1) := by decide +kernel
theorem dX0_meet_149 : decode cX0_meet 149 = .ok (.lmul, 1) := by decide +kernel
theorem dX0_meet_150 : decode cX0_meet 150 = .ok (.lload 7, 2) := by decide +kernel
theorem dX0_meet_152 : decode cX0_meet 152 = .ok (.aload_n 0, 1) := by decide +kernel
theorem dX0_meet_153 : decode cX0_meet 153 = .ok (.getfield 21, 3) := by decide +kernel
theorem dX0_meet_156 : decode cX0_meet 156 = .ok (.iload_n 1, 1) := by decide +kernel
theorem dX0_meet_157 : decode cX0_meet 157 = .ok (.iaload, 1) := by decide +kernel
theorem dX0_meet_158 : decode cX0_meet 158 = .ok (.i2l, 1) := by decide +kernel
theorem dX0_meet_159 : decode cX0_meet 159 = .ok (.lmul, 1) := by decide +kernel
theorem dX0_meet_160 : decode cX0_meet 160 = .ok (.lsub, 1) := by decide +kernel
theorem dX0_meet_161 : decode cX0_meet 161 = .ok (.lstore 11, 2) := by decide +kernel
theorem dX0_meet_163 : decode cX0_meet 163 = .ok (.lload_n 3, 1) := by decide +kernel
theorem dX0_meet_164 : decode cX0_meet 164 = .ok (.lconst 0, 1) := by decide +kernel
theorem dX0_meet_165 : decode cX0_meet 165 = .ok (.lcmp, 1) := by decide +kernel
theorem dX0_meet_166 : decode cX0_meet 166 = .ok (.ifCond .ge 16, 3) := by decide +kernel
theorem dX0_meet_169 : decode cX0_meet 169 = .ok (.lload_n 3, 1) := by decide +kernel
theorem dX0_meet_170 : decode cX0_meet 170 = .ok (.lneg, 1) := by decide +kernel
theorem dX0_meet_171 : decode cX0_meet 171 = .ok (.lstore_n 3, 1) := by decide +kernel
theorem dX0_meet_172 : decode cX0_meet 172 = .ok (.lload 9, 2) := by decide +kernel
theorem dX0_meet_174 : decode cX0_meet 174 = .ok (.lneg, 1) := by decide +kernel
theorem dX0_meet_175 : decode cX0_meet 175 = .ok (.lstore 9, 2) := by decide +kernel
theorem dX0_meet_177 : decode cX0_meet 177 = .ok (.lload 11, 2) := by decide +kernel
theorem dX0_meet_179 : decode cX0_meet 179 = .ok (.lneg, 1) := by decide +kernel
theorem dX0_meet_180 : decode cX0_meet 180 = .ok (.lstore 11, 2) := by decide +kernel
theorem dX0_meet_182 : decode cX0_meet 182 = .ok (.lload_n 3, 1) := by decide +kernel
theorem dX0_meet_183 : decode cX0_meet 183 = .ok (.lconst 0, 1) := by decide +kernel
theorem dX0_meet_184 : decode cX0_meet 184 = .ok (.lcmp, 1) := by decide +kernel
theorem dX0_meet_185 : decode cX0_meet 185 = .ok (.ifCond .eq 17, 3) := by decide +kernel
theorem dX0_meet_188 : decode cX0_meet 188 = .ok (.lload 9, 2) := by decide +kernel
theorem dX0_meet_190 : decode cX0_meet 190 = .ok (.lconst 0, 1) := by decide +kernel
theorem dX0_meet_191 : decode cX0_meet 191 = .ok (.lcmp, 1) := by decide +kernel
theorem dX0_meet_192 : decode cX0_meet 192 = .ok (.ifCond .le 10, 3) := by decide +kernel
theorem dX0_meet_195 : decode cX0_meet 195 = .ok (.lload 11, 2) := by decide +kernel
theorem dX0_meet_197 : decode cX0_meet 197 = .ok (.lconst 0, 1) := by decide +kernel
theorem dX0_meet_198 : decode cX0_meet 198 = .ok (.lcmp, 1) := by decide +kernel
theorem dX0_meet_199 : decode cX0_meet 199 = .ok (.ifCond .gt 5, 3) := by decide +kernel
theorem dX0_meet_202 : decode cX0_meet 202 = .ok (.iconst 0, 1) := by decide +kernel
theorem dX0_meet_203 : decode cX0_meet 203 = .ok (.ireturn, 1) := by decide +kernel
theorem dX0_meet_204 : decode cX0_meet 204 = .ok (.aload_n 0, 1) := by decide +kernel
theorem dX0_meet_205 : decode cX0_meet 205 = .ok (.lload_n 3, 1) := by decide +kernel
theorem dX0_meet_206 : decode cX0_meet 206 = .ok (.putfield 27, 3) := by decide +kernel
theorem dX0_meet_209 : decode cX0_meet 209 = .ok (.aload_n 0, 1) := by decide +kernel
theorem dX0_meet_210 : decode cX0_meet 210 = .ok (.aload_n 0, 1) := by decide +kernel
theorem dX0_meet_211 : decode cX0_meet 211 = .ok (.getfield 9, 3) := by decide +kernel
theorem dX0_meet_214 : decode cX0_meet 214 = .ok (.aload_n 0, 1) := by decide +kernel
theorem dX0_meet_215 : decode cX0_meet 215 = .ok (.getfield 18, 3) := by decide +kernel
theorem dX0_meet_218 : decode cX0_meet 218 = .ok (.iload_n 1, 1) := by decide +kernel
theorem dX0_meet_219 : decode cX0_meet 219 = .ok (.iaload, 1) := by decide +kernel
theorem dX0_meet_220 : decode cX0_meet 220 = .ok (.iaload, 1) := by decide +kernel
theorem dX0_meet_221 : decode cX0_meet 221 = .ok (.i2l, 1) := by decide +kernel
theorem dX0_meet_222 : decode cX0_meet 222 = .ok (.lload_n 3, 1) := by decide +kernel
theorem dX0_meet_223 : decode cX0_meet 223 = .ok (.lmul, 1) := by decide +kernel
theorem dX0_meet_224 : decode cX0_meet 224 = .ok (.lload 9, 2) := by decide +kernel
theorem dX0_meet_226 : decode cX0_meet 226 = .ok (.aload_n 0, 1) := by decide +kernel
theorem dX0_meet_227 : decode cX0_meet 227 = .ok (.getfield 21, 3) := by decide +kernel
theorem dX0_meet_230 : decode cX0_meet 230 = .ok (.iload_n 1, 1) := by decide +kernel
theorem dX0_meet_231 : decode cX0_meet 231 = .ok (.iaload, 1) := by decide +kernel
theorem dX0_meet_232 : decode cX0_meet 232 = .ok (.i2l, 1) := by decide +kernel
theorem dX0_meet_233 : decode cX0_meet 233 = .ok (.lmul, 1) := by decide +kernel
theorem dX0_meet_234 : decode cX0_meet 234 = .ok (.ladd, 1) := by decide +kernel
theorem dX0_meet_235 : decode cX0_meet 235 = .ok (.putfield 48, 3) := by decide +kernel
theorem dX0_meet_238 : decode cX0_meet 238 = .ok (.aload_n 0, 1) := by decide +kernel
theorem dX0_meet_239 : decode cX0_meet 239 = .ok (.aload_n 0, 1) := by decide +kernel
theorem dX0_meet_240 : decode cX0_meet 240 = .ok (.getfield 15, 3) := by decide +kernel
theorem dX0_meet_243 : decode cX0_meet 243 = .ok (.aload_n 0, 1) := by decide +kernel
theorem dX0_meet_244 : decode cX0_meet 244 = .ok (.getfield 18, 3) := by decide +kernel
theorem dX0_meet_247 : decode cX0_meet 247 = .ok (.iload_n 1, 1) := by decide +kernel
theorem dX0_meet_248 : decode cX0_meet 248 = .ok (.iaload, 1) := by decide +kernel
theorem dX0_meet_249 : decode cX0_meet 249 = .ok (.iaload, 1) := by decide +kernel
theorem dX0_meet_250 : decode cX0_meet 250 = .ok (.i2l, 1) := by decide +kernel
theorem dX0_meet_251 : decode cX0_meet 251 = .ok (.lload_n 3, 1) := by decide +kernel
theorem dX0_meet_252 : decode cX0_meet 252 = .ok (.lmul, 1) := by decide +kernel
theorem dX0_meet_253 : decode cX0_meet 253 = .ok (.lload 9, 2) := by decide +kernel
theorem dX0_meet_255 : decode cX0_meet 255 = .ok (.aload_n 0, 1) := by decide +kernel
theorem dX0_meet_256 : decode cX0_meet 256 = .ok (.getfield 24, 3) := by decide +kernel
theorem dX0_meet_259 : decode cX0_meet 259 = .ok (.iload_n 1, 1) := by decide +kernel
theorem dX0_meet_260 : decode cX0_meet 260 = .ok (.iaload, 1) := by decide +kernel
theorem dX0_meet_261 : decode cX0_meet 261 = .ok (.i2l, 1) := by decide +kernel
theorem dX0_meet_262 : decode cX0_meet 262 = .ok (.lmul, 1) := by decide +kernel
theorem dX0_meet_263 : decode cX0_meet 263 = .ok (.ladd, 1) := by decide +kernel
theorem dX0_meet_264 : decode cX0_meet 264 = .ok (.putfield 51, 3) := by decide +kernel
theorem dX0_meet_267 : decode cX0_meet 267 = .ok (.iconst 1, 1) := by decide +kernel
theorem dX0_meet_268 : decode cX0_meet 268 = .ok (.ireturn, 1) := by decide +kernel
theorem dX0_throughMeeting_0 : decode cX0_throughMeeting 0 = .ok (.iconst 0, 1) := by decide +kernel
theorem dX0_throughMeeting_1 : decode cX0_throughMeeting 1 = .ok (.istore_n 1, 1) := by decide +kernel
theorem dX0_throughMeeting_2 : decode cX0_throughMeeting 2 = .ok (.iconst 0, 1) := by decide +kernel
theorem dX0_throughMeeting_3 : decode cX0_throughMeeting 3 = .ok (.istore_n 2, 1) := by decide +kernel
theorem dX0_throughMeeting_4 : decode cX0_throughMeeting 4 = .ok (.iload_n 2, 1) := by decide +kernel
theorem dX0_throughMeeting_5 : decode cX0_throughMeeting 5 = .ok (.aload_n 0, 1) := by decide +kernel
theorem dX0_throughMeeting_6 : decode cX0_throughMeeting 6 = .ok (.getfield 41, 3) := by decide +kernel
theorem dX0_throughMeeting_9 : decode cX0_throughMeeting 9 = .ok (.if_icmp .ge 110, 3) := by decide +kernel
theorem dX0_throughMeeting_12 : decode cX0_throughMeeting 12 = .ok (.aload_n 0, 1) := by decide +kernel
theorem dX0_throughMeeting_13 : decode cX0_throughMeeting 13 = .ok (.getfield 48, 3) := by decide +kernel
theorem dX0_throughMeeting_16 : decode cX0_throughMeeting 16 = .ok (.aload_n 0, 1) := by decide +kernel
theorem dX0_throughMeeting_17 : decode cX0_throughMeeting 17 = .ok (.getfield 9, 3) := by decide +kernel
theorem dX0_throughMeeting_20 : decode cX0_throughMeeting 20 = .ok (.aload_n 0, 1) := by decide +kernel
theorem dX0_throughMeeting_21 : decode cX0_throughMeeting 21 = .ok (.getfield 18, 3) := by decide +kernel
theorem dX0_throughMeeting_24 : decode cX0_throughMeeting 24 = .ok (.iload_n 2, 1) := by decide +kernel
theorem dX0_throughMeeting_25 : decode cX0_throughMeeting 25 = .ok (.iaload, 1) := by decide +kernel
theorem dX0_throughMeeting_26 : decode cX0_throughMeeting 26 = .ok (.iaload, 1) := by decide +kernel
theorem dX0_throughMeeting_27 : decode cX0_throughMeeting 27 = .ok (.i2l, 1) := by decide +kernel
theorem dX0_throughMeeting_28 : decode cX0_throughMeeting 28 = .ok (.aload_n 0, 1) := by decide +kernel
theorem dX0_throughMeeting_29 : decode cX0_throughMeeting 29 = .ok (.getfield 27, 3) := by decide +kernel
theorem dX0_throughMeeting_32 : decode cX0_throughMeeting 32 = .ok (.lmul, 1) := by decide +kernel
theorem dX0_throughMeeting_33 : decode cX0_throughMeeting 33 = .ok (.lsub, 1) := by decide +kernel
theorem dX0_throughMeeting_34 : decode cX0_throughMeeting 34 = .ok (.lstore_n 3, 1) := by decide +kernel
theorem dX0_throughMeeting_35 : decode cX0_throughMeeting 35 = .ok (.aload_n 0, 1) := by decide +kernel
theorem dX0_throughMeeting_36 : decode cX0_throughMeeting 36 = .ok (.getfield 51, 3) := by decide +kernel
theorem dX0_throughMeeting_39 : decode cX0_throughMeeting 39 = .ok (.aload_n 0, 1) := by decide +kernel
theorem dX0_throughMeeting_40 : decode cX0_throughMeeting 40 = .ok (.getfield 15, 3) := by decide +kernel
theorem dX0_throughMeeting_43 : decode cX0_throughMeeting 43 = .ok (.aload_n 0, 1) := by decide +kernel
theorem dX0_throughMeeting_44 : decode cX0_throughMeeting 44 = .ok (.getfield 18, 3) := by decide +kernel
theorem dX0_throughMeeting_47 : decode cX0_throughMeeting 47 = .ok (.iload_n 2, 1) := by decide +kernel
theorem dX0_throughMeeting_48 : decode cX0_throughMeeting 48 = .ok (.iaload, 1) := by decide +kernel
theorem dX0_throughMeeting_49 : decode cX0_throughMeeting 49 = .ok (.iaload, 1) := by decide +kernel
theorem dX0_throughMeeting_50 : decode cX0_throughMeeting 50 = .ok (.i2l, 1) := by decide +kernel
theorem dX0_throughMeeting_51 : decode cX0_throughMeeting 51 = .ok (.aload_n 0, 1) := by decide +kernel
theorem dX0_throughMeeting_52 : decode cX0_throughMeeting 52 = .ok (.getfield 27, 3) := by decide +kernel
theorem dX0_throughMeeting_55 : decode cX0_throughMeeting 55 = .ok (.lmul, 1) := by decide +kernel
theorem dX0_throughMeeting_56 : decode cX0_throughMeeting 56 = .ok (.lsub, 1) := by decide +kernel
theorem dX0_throughMeeting_57 : decode cX0_throughMeeting 57 = .ok (.lstore 5, 2) := by decide +kernel
theorem dX0_throughMeeting_59 : decode cX0_throughMeeting 59 = .ok (.lload_n 3, 1) := by decide +kernel
theorem dX0_throughMeeting_60 : decode cX0_throughMeeting 60 = .ok (.aload_n 0, 1) := by decide +kernel
theorem dX0_throughMeeting_61 : decode cX0_throughMeeting 61 = .ok (.getfield 24, 3) := by decide +kernel
theorem dX0_throughMeeting_64 : decode cX0_throughMeeting 64 = .ok (.iload_n 2, 1) := by decide +kernel
theorem dX0_throughMeeting_65 : decode cX0_throughMeeting 65 = .ok (.iaload, 1) := by decide +kernel
theorem dX0_throughMeeting_66 : decode cX0_throughMeeting 66 = .ok (.i2l, 1) := by decide +kernel
theorem dX0_throughMeeting_67 : decode cX0_throughMeeting 67 = .ok (.lmul, 1) := by decide +kernel
theorem dX0_throughMeeting_68 : decode cX0_throughMeeting 68 = .ok (.lload 5, 2) := by decide +kernel
theorem dX0_throughMeeting_70 : decode cX0_throughMeeting 70 = .ok (.aload_n 0, 1) := by decide +kernel
theorem dX0_throughMeeting_71 : decode cX0_throughMeeting 71 = .ok (.getfield 21, 3) := by decide +kernel
theorem dX0_throughMeeting_74 : decode cX0_throughMeeting 74 = .ok (.iload_n 2, 1) := by decide +kernel
theorem dX0_throughMeeting_75 : decode cX0_throughMeeting 75 = .ok (.iaload, 1) := by decide +kernel
theorem dX0_throughMeeting_76 : decode cX0_throughMeeting 76 = .ok (.i2l, 1) := by decide +kernel
theorem dX0_throughMeeting_77 : decode cX0_throughMeeting 77 = .ok (.lmul, 1) := by decide +kernel
theorem dX0_throughMeeting_78 : decode cX0_throughMeeting 78 = .ok (.lcmp, 1) := by decide +kernel
theorem dX0_throughMeeting_79 : decode cX0_throughMeeting 79 = .ok (.ifCond .ne 34, 3) := by decide +kernel
theorem dX0_throughMeeting_82 : decode cX0_throughMeeting 82 = .ok (.lload_n 3, 1) := by decide +kernel
theorem dX0_throughMeeting_83 : decode cX0_throughMeeting 83 = .ok (.aload_n 0, 1) := by decide +kernel
theorem dX0_throughMeeting_84 : decode cX0_throughMeeting 84 = .ok (.getfield 21, 3) := by decide +kernel
theorem dX0_throughMeeting_87 : decode cX0_throughMeeting 87 = .ok (.iload_n 2, 1) := by decide +kernel
theorem dX0_throughMeeting_88 : decode cX0_throughMeeting 88 = .ok (.iaload, 1) := by decide +kernel
theorem dX0_throughMeeting_89 : decode cX0_throughMeeting 89 = .ok (.i2l, 1) := by decide +kernel
theorem dX0_throughMeeting_90 : decode cX0_throughMeeting 90 = .ok (.lmul, 1) := by decide +kernel
theorem dX0_throughMeeting_91 : decode cX0_throughMeeting 91 = .ok (.lload 5, 2) := by decide +kernel
theorem dX0_throughMeeting_93 : decode cX0_throughMeeting 93 = .ok (.aload_n 0, 1) := by decide +kernel
theorem dX0_throughMeeting_94 : decode cX0_throughMeeting 94 = .ok (.getfield 24, 3) := by decide +kernel
theorem dX0_throughMeeting_97 : decode cX0_throughMeeting 97 = .ok (.iload_n 2, 1) := by decide +kernel
theorem dX0_throughMeeting_98 : decode cX0_throughMeeting 98 = .ok (.iaload, 1) := by decide +kernel
theorem dX0_throughMeeting_99 : decode cX0_throughMeeting 99 = .ok (.i2l, 1) := by decide +kernel
theorem dX0_throughMeeting_100 : decode cX0_throughMeeting 100 = .ok (.lmul, 1) := by decide +kernel
theorem dX0_throughMeeting_101 : decode cX0_throughMeeting 101 = .ok (.ladd, 1) := by decide +kernel
theorem dX0_throughMeeting_102 : decode cX0_throughMeeting 102 = .ok (.lconst 0, 1) := by decide +kernel
theorem dX0_throughMeeting_103 : decode cX0_throughMeeting 103 = .ok (.lcmp, 1) := by decide +kernel
theorem dX0_throughMeeting_104 : decode cX0_throughMeeting 104 = .ok (.ifCond .le 9, 3) := by decide +kernel
theorem dX0_throughMeeting_107 : decode cX0_throughMeeting 107 = .ok (.iload_n 1, 1) := by decide +kernel
theorem dX0_throughMeeting_108 : decode cX0_throughMeeting 108 = .ok (.iconst 1, 1) := by decide +kernel
theorem dX0_throughMeeting_109 : decode cX0_throughMeeting 109 = .ok (.iload_n 2, 1) := by decide +kernel
theorem dX0_throughMeeting_110 : decode cX0_throughMeeting 110 = .ok (.ishl, 1) := by decide +kernel
theorem dX0_throughMeeting_111 : decode cX0_throughMeeting 111 = .ok (.ior, 1) := by decide +kernel
theorem dX0_throughMeeting_112 : decode cX0_throughMeeting 112 = .ok (.istore_n 1, 1) := by decide +kernel
theorem dX0_throughMeeting_113 : decode cX0_throughMeeting 113 = .ok (.iinc 2 1, 3) := by decide +kernel
theorem dX0_throughMeeting_116 : decode cX0_throughMeeting 116 = .ok (.goto (-112), 3) := by decide +kernel
theorem dX0_throughMeeting_119 : decode cX0_throughMeeting 119 = .ok (.iload_n 1, 1) := by decide +kernel
theorem dX0_throughMeeting_120 : decode cX0_throughMeeting 120 = .ok (.ireturn, 1) := by decide +kernel
theorem dX1_init_0 : decode cX1_init 0 = .ok (.aload_n 0, 1) := by decide +kernel
theorem dX1_init_1 : decode cX1_init 1 = .ok (.invokespecial 3, 3) := by decide +kernel
theorem dX1_init_4 : decode cX1_init 4 = .ok (.aload_n 0, 1) := by decide +kernel
theorem dX1_init_5 : decode cX1_init 5 = .ok (.new 9, 3) := by decide +kernel
theorem dX1_init_8 : decode cX1_init 8 = .ok (.dup, 1) := by decide +kernel
theorem dX1_init_9 : decode cX1_init 9 = .ok (.bipush 8, 2) := by decide +kernel
theorem dX1_init_11 : decode cX1_init 11 = .ok (.invokespecial 11, 3) := by decide +kernel
theorem dX1_init_14 : decode cX1_init 14 = .ok (.putfield 14, 3) := by decide +kernel
theorem dX1_init_17 : decode cX1_init 17 = .ok (.aload_n 0, 1) := by decide +kernel
theorem dX1_init_18 : decode cX1_init 18 = .ok (.bipush 28, 2) := by decide +kernel
theorem dX1_init_20 : decode cX1_init 20 = .ok (.newarray .int, 2) := by decide +kernel
theorem dX1_init_22 : decode cX1_init 22 = .ok (.putfield 20, 3) := by decide +kernel
theorem dX1_init_25 : decode cX1_init 25 = .ok (.aload_n 0, 1) := by decide +kernel
theorem dX1_init_26 : decode cX1_init 26 = .ok (.bipush 28, 2) := by decide +kernel
theorem dX1_init_28 : decode cX1_init 28 = .ok (.newarray .int, 2) := by decide +kernel
theorem dX1_init_30 : decode cX1_init 30 = .ok (.putfield 24, 3) := by decide +kernel
theorem dX1_init_33 : decode cX1_init 33 = .ok (.aload_n 0, 1) := by decide +kernel
theorem dX1_init_34 : decode cX1_init 34 = .ok (.bipush 8, 2) := by decide +kernel
theorem dX1_init_36 : decode cX1_init 36 = .ok (.newarray .int, 2) := by decide +kernel
theorem dX1_init_38 : decode cX1_init 38 = .ok (.putfield 27, 3) := by decide +kernel
theorem dX1_init_41 : decode cX1_init 41 = .ok (.return_, 1) := by decide +kernel
theorem dX1_find_0 : decode cX1_find 0 = .ok (.aload_n 0, 1) := by decide +kernel
theorem dX1_find_1 : decode cX1_find 1 = .ok (.aload_n 1, 1) := by decide +kernel
theorem dX1_find_2 : decode cX1_find 2 = .ok (.invokevirtual 30, 3) := by decide +kernel
theorem dX1_find_5 : decode cX1_find 5 = .ok (.aload_n 0, 1) := by decide +kernel
theorem dX1_find_6 : decode cX1_find 6 = .ok (.iconst 1, 1) := by decide +kernel
theorem dX1_find_7 : decode cX1_find 7 = .ok (.aload_n 1, 1) := by decide +kernel
theorem dX1_find_8 : decode cX1_find 8 = .ok (.getfield 34, 3) := by decide +kernel
theorem dX1_find_11 : decode cX1_find 11 = .ok (.ishl, 1) := by decide +kernel
theorem dX1_find_12 : decode cX1_find 12 = .ok (.iconst 1, 1) := by decide +kernel
theorem dX1_find_13 : decode cX1_find 13 = .ok (.isub, 1) := by decide +kernel
theorem dX1_find_14 : decode cX1_find 14 = .ok (.putfield 40, 3) := by decide +kernel
theorem dX1_find_17 : decode cX1_find 17 = .ok (.aload_n 0, 1) := by decide +kernel
theorem dX1_find_18 : decode cX1_find 18 = .ok (.invokevirtual 43, 3) := by decide +kernel
theorem dX1_find_21 : decode cX1_find 21 = .ok (.aload_n 0, 1) := by decide +kernel
theorem dX1_find_22 : decode cX1_find 22 = .ok (.getfield 40, 3) := by decide +kernel
theorem dX1_find_25 : decode cX1_find 25 = .ok (.if_icmp .eq 5, 3) := by decide +kernel
theorem dX1_find_28 : decode cX1_find 28 = .ok (.iconst (-1), 1) := by decide +kernel
theorem dX1_find_29 : decode cX1_find 29 = .ok (.ireturn, 1) := by decide +kernel
theorem dX1_find_30 : decode cX1_find 30 = .ok (.iconst 0, 1) := by decide +kernel
theorem dX1_find_31 : decode cX1_find 31 = .ok (.istore_n 2, 1) := by decide +kernel
theorem dX1_find_32 : decode cX1_find 32 = .ok (.iload_n 2, 1) := by decide +kernel
theorem dX1_find_33 : decode cX1_find 33 = .ok (.bipush 8, 2) := by decide +kernel
theorem dX1_find_35 : decode cX1_find 35 = .ok (.if_icmp .gt 47, 3) := by decide +kernel
theorem dX1_find_38 : decode cX1_find 38 = .ok (.aload_n 0, 1) := by decide +kernel
theorem dX1_find_39 : decode cX1_find 39 = .ok (.iconst 0, 1) := by decide +kernel
theorem dX1_find_40 : decode cX1_find 40 = .ok (.iconst 0, 1) := by decide +kernel
theorem dX1_find_41 : decode cX1_find 41 = .ok (.iload_n 2, 1) := by decide +kernel
theorem dX1_find_42 : decode cX1_find 42 = .ok (.iconst 0, 1) := by decide +kernel
theorem dX1_find_43 : decode cX1_find 43 = .ok (.invokevirtual 47, 3) := by decide +kernel
theorem dX1_find_46 : decode cX1_find 46 = .ok (.ifCond .eq 30, 3) := by decide +kernel
theorem dX1_find_49 : decode cX1_find 49 = .ok (.aload_n 0, 1) := by decide +kernel
theorem dX1_find_50 : decode cX1_find 50 = .ok (.getfield 14, 3) := by decide +kernel
theorem dX1_find_53 : decode cX1_find 53 = .ok (.iload_n 2, 1) := by decide +kernel
theorem dX1_find_54 : decode cX1_find 54 = .ok (.putfield 51, 3) := by decide +kernel
theorem dX1_find_57 : decode cX1_find 57 = .ok (.aload_n 0, 1) := by decide +kernel
theorem dX1_find_58 : decode cX1_find 58 = .ok (.getfield 27, 3) := by decide +kernel
theorem dX1_find_61 : decode cX1_find 61 = .ok (.iconst 0, 1) := by decide +kernel
theorem dX1_find_62 : decode cX1_find 62 = .ok (.aload_n 0, 1) := by decide +kernel
theorem dX1_find_63 : decode cX1_find 63 = .ok (.getfield 14, 3) := by decide +kernel
theorem dX1_find_66 : decode cX1_find 66 = .ok (.getfield 54, 3) := by decide +kernel
theorem dX1_find_69 : decode cX1_find 69 = .ok (.iconst 0, 1) := by decide +kernel
theorem dX1_find_70 : decode cX1_find 70 = .ok (.iload_n 2, 1) := by decide +kernel
theorem dX1_find_71 : decode cX1_find 71 = .ok (.invokestatic 57, 3) := by decide +kernel
theorem dX1_find_74 : decode cX1_find 74 = .ok (.iload_n 2, 1) := by decide +kernel
theorem dX1_find_75 : decode cX1_find 75 = .ok (.ireturn, 1) := by decide +kernel
theorem dX1_find_76 : decode cX1_find 76 = .ok (.iinc 2 1, 3) := by decide +kernel
theorem dX1_find_79 : decode cX1_find 79 = .ok (.goto (-47), 3) := by decide +kernel
theorem dX1_find_82 : decode cX1_find 82 = .ok (.iconst (-1), 1) := by decide +kernel
theorem dX1_find_83 : decode cX1_find 83 = .ok (.ireturn, 1) := by decide +kernel
theorem dX1_touchedTogether_0 : decode cX1_touchedTogether 0 = .ok (.iconst 0, 1) := by decide +kernel
theorem dX1_touchedTogether_1 : decode cX1_touchedTogether 1 = .ok (.istore_n 1, 1) := by decide +kernel
theorem dX1_touchedTogether_2 : decode cX1_touchedTogether 2 = .ok (.iconst 0, 1) := by decide +kernel
theorem dX1_touchedTogether_3 : decode cX1_touchedTogether 3 = .ok (.istore_n 2, 1) := by decide +kernel
theorem dX1_touchedTogether_4 : decode cX1_touchedTogether 4 = .ok (.iload_n 2, 1) := by decide +kernel
theorem dX1_touchedTogether_5 : decode cX1_touchedTogether 5 = .ok (.aload_n 0, 1) := by decide +kernel
theorem dX1_touchedTogether_6 : decode cX1_touchedTogether 6 = .ok (.getfield 63, 3) := by decide +kernel
theorem dX1_touchedTogether_9 : decode cX1_touchedTogether 9 = .ok (.if_icmp .ge 18, 3) := by decide +kernel
theorem dX1_touchedTogether_12 : decode cX1_touchedTogether 12 = .ok (.iload_n 1, 1) := by decide +kernel
theorem dX1_touchedTogether_13 : decode cX1_touchedTogether 13 = .ok (.aload_n 0, 1) := by decide +kernel
theorem dX1_touchedTogether_14 : decode cX1_touchedTogether 14 = .ok (.getfield 24, 3) := by decide +kernel
theorem dX1_touchedTogether_17 : decode cX1_touchedTogether 17 = .ok (.iload_n 2, 1) := by decide +kernel
theorem dX1_touchedTogether_18 : decode cX1_touchedTogether 18 = .ok (.iaload, 1) := by decide +kernel
theorem dX1_touchedTogether_19 : decode cX1_touchedTogether 19 = .ok (.ior, 1) := by decide +kernel
theorem dX1_touchedTogether_20 : decode cX1_touchedTogether 20 = .ok (.istore_n 1, 1) := by decide +kernel
theorem dX1_touchedTogether_21 : decode cX1_touchedTogether 21 = .ok (.iinc 2 1, 3) := by decide +kernel
theorem dX1_touchedTogether_24 : decode cX1_touchedTogether 24 = .ok (.goto (-20), 3) := by decide +kernel
theorem dX1_touchedTogether_27 : decode cX1_touchedTogether 27 = .ok (.iload_n 1, 1) := by decide +kernel
theorem dX1_touchedTogether_28 : decode cX1_touchedTogether 28 = .ok (.ireturn, 1) := by decide +kernel
theorem dX1_listPoints_0 : decode cX1_listPoints 0 = .ok (.aload_n 0, 1) := by decide +kernel
theorem dX1_listPoints_1 : decode cX1_listPoints 1 = .ok (.iconst 0, 1) := by decide +kernel
theorem dX1_listPoints_2 : decode cX1_listPoints 2 = .ok (.putfield 63, 3) := by decide +kernel
theorem dX1_listPoints_5 : decode cX1_listPoints 5 = .ok (.iconst 0, 1) := by decide +kernel
theorem dX1_listPoints_6 : decode cX1_listPoints 6 = .ok (.istore_n 2, 1) := by decide +kernel
theorem dX1_listPoints_7 : decode cX1_listPoints 7 = .ok (.iload_n 2, 1) := by decide +kernel
theorem dX1_listPoints_8 : decode cX1_listPoints 8 = .ok (.aload_n 1, 1) := by decide +kernel
theorem dX1_listPoints_9 : decode cX1_listPoints 9 = .ok (.getfield 34, 3) := by decide +kernel
theorem dX1_listPoints_12 : decode cX1_listPoints 12 = .ok (.if_icmp .ge 50, 3) := by decide +kernel
theorem dX1_listPoints_15 : decode cX1_listPoints 15 = .ok (.iload_n 2, 1) := by decide +kernel
theorem dX1_listPoints_16 : decode cX1_listPoints 16 = .ok (.iconst 1, 1) := by decide +kernel
theorem dX1_listPoints_17 : decode cX1_listPoints 17 = .ok (.iadd, 1) := by decide +kernel
theorem dX1_listPoints_18 : decode cX1_listPoints 18 = .ok (.istore_n 3, 1) := by decide +kernel
theorem dX1_listPoints_19 : decode cX1_listPoints 19 = .ok (.iload_n 3, 1) := by decide +kernel
theorem dX1_listPoints_20 : decode cX1_listPoints 20 = .ok (.aload_n 1, 1) := by decide +kernel
theorem dX1_listPoints_21 : decode cX1_listPoints 21 = .ok (.getfield 34, 3) := by decide +kernel
theorem dX1_listPoints_24 : decode cX1_listPoints 24 = .ok (.if_icmp .ge 32, 3) := by decide +kernel
theorem dX1_listPoints_27 : decode cX1_listPoints 27 = .ok (.aload_n 1, 1) := by decide +kernel
theorem dX1_listPoints_28 : decode cX1_listPoints 28 = .ok (.iload_n 2, 1) := by decide +kernel
theorem dX1_listPoints_29 : decode cX1_listPoints 29 = .ok (.iload_n 3, 1) := by decide +kernel
theorem dX1_listPoints_30 : decode cX1_listPoints 30 = .ok (.invokevirtual 66, 3) := by decide +kernel
theorem dX1_listPoints_33 : decode cX1_listPoints 33 = .ok (.ifCond .eq 17, 3) := by decide +kernel
theorem dX1_listPoints_36 : decode cX1_listPoints 36 = .ok (.aload_n 0, 1) := by decide +kernel
theorem dX1_listPoints_37 : decode cX1_listPoints 37 = .ok (.bipush 10, 2) := by decide +kernel
theorem dX1_listPoints_39 : decode cX1_listPoints 39 = .ok (.iload_n 2, 1) := by decide +kernel
theorem dX1_listPoints_40 : decode cX1_listPoints 40 = .ok (.imul, 1) := by decide +kernel
theorem dX1_listPoints_41 : decode cX1_listPoints 41 = .ok (.iload_n 3, 1) := by decide +kernel
theorem dX1_listPoints_42 : decode cX1_listPoints 42 = .ok (.iadd, 1) := by decide +kernel
theorem dX1_listPoints_43 : decode cX1_listPoints 43 = .ok (.aload_n 1, 1) := by decide +kernel
theorem dX1_listPoints_44 : decode cX1_listPoints 44 = .ok (.invokevirtual 70, 3) := by decide +kernel
theorem dX1_listPoints_47 : decode cX1_listPoints 47 = .ok (.invokevirtual 73, 3) := by decide +kernel
theorem dX1_listPoints_50 : decode cX1_listPoints 50 = .ok (.iinc 3 1, 3) := by decide +kernel
theorem dX1_listPoints_53 : decode cX1_listPoints 53 = .ok (.goto (-34), 3) := by decide +kernel
theorem dX1_listPoints_56 : decode cX1_listPoints 56 = .ok (.iinc 2 1, 3) := by decide +kernel
theorem dX1_listPoints_59 : decode cX1_listPoints 59 = .ok (.goto (-52), 3) := by decide +kernel
theorem dX1_listPoints_62 : decode cX1_listPoints 62 = .ok (.return_, 1) := by decide +kernel
theorem dX1_listPoint_0 : decode cX1_listPoint 0 = .ok (.iconst 0, 1) := by decide +kernel
theorem dX1_listPoint_1 : decode cX1_listPoint 1 = .ok (.istore_n 3, 1) := by decide +kernel
theorem dX1_listPoint_2 : decode cX1_listPoint 2 = .ok (.iload_n 3, 1) := by decide +kernel
theorem dX1_listPoint_3 : decode cX1_listPoint 3 = .ok (.aload_n 0, 1) := by decide +kernel
theorem dX1_listPoint_4 : decode cX1_listPoint 4 = .ok (.getfield 63, 3) := by decide +kernel
theorem dX1_listPoint_7 : decode cX1_listPoint 7 = .ok (.if_icmp .ge 20, 3) := by decide +kernel
theorem dX1_listPoint_10 : decode cX1_listPoint 10 = .ok (.aload_n 0, 1) := by decide +kernel
theorem dX1_listPoint_11 : decode cX1_listPoint 11 = .ok (.getfield 24, 3) := by decide +kernel
theorem dX1_listPoint_14 : decode cX1_listPoint 14 = .ok (.iload_n 3, 1) := by decide +kernel
theorem dX1_listPoint_15 : decode cX1_listPoint 15 = .ok (.iaload, 1) := by decide +kernel
theorem dX1_listPoint_16 : decode cX1_listPoint 16 = .ok (.iload_n 2, 1) := by decide +kernel
theorem dX1_listPoint_17 : decode cX1_listPoint 17 = .ok (.if_icmp .ne 4, 3) := by decide +kernel
theorem dX1_listPoint_20 : decode cX1_listPoint 20 = .ok (.return_, 1) := by decide +kernel
theorem dX1_listPoint_21 : decode cX1_listPoint 21 = .ok (.iinc 3 1, 3) := by decide +kernel
theorem dX1_listPoint_24 : decode cX1_listPoint 24 = .ok (.goto (-22), 3) := by decide +kernel
theorem dX1_listPoint_27 : decode cX1_listPoint 27 = .ok (.aload_n 0, 1) := by decide +kernel
theorem dX1_listPoint_28 : decode cX1_listPoint 28 = .ok (.getfield 63, 3) := by decide +kernel
theorem dX1_listPoint_31 : decode cX1_listPoint 31 = .ok (.bipush 28, 2) := by decide +kernel
theorem dX1_listPoint_33 : decode cX1_listPoint 33 = .ok (.if_icmp .ge 33, 3) := by decide +kernel
theorem dX1_listPoint_36 : decode cX1_listPoint 36 = .ok (.aload_n 0, 1) := by decide +kernel
theorem dX1_listPoint_37 : decode cX1_listPoint 37 = .ok (.getfield 20, 3) := by decide +kernel
theorem dX1_listPoint_40 : decode cX1_listPoint 40 = .ok (.aload_n 0, 1) := by decide +kernel
theorem dX1_listPoint_41 : decode cX1_listPoint 41 = .ok (.getfield 63, 3) := by decide +kernel
theorem dX1_listPoint_44 : decode cX1_listPoint 44 = .ok (.iload_n 1, 1) := by decide +kernel
theorem dX1_listPoint_45 : decode cX1_listPoint 45 = .ok (.iastore, 1) := by decide +kernel
theorem dX1_listPoint_46 : decode cX1_listPoint 46 = .ok (.aload_n 0, 1) := by decide +kernel
theorem dX1_listPoint_47 : decode cX1_listPoint 47 = .ok (.getfield 24, 3) := by decide +kernel
theorem dX1_listPoint_50 : decode cX1_listPoint 50 = .ok (.aload_n 0, 1) := by decide +kernel
theorem dX1_listPoint_51 : decode cX1_listPoint 51 = .ok (.getfield 63, 3) := by decide +kernel
theorem dX1_listPoint_54 : decode cX1_listPoint 54 = .ok (.iload_n 2, 1) := by decide +kernel
theorem dX1_listPoint_55 : decode cX1_listPoint 55 = .ok (.iastore, 1) := by decide +kernel
theorem dX1_listPoint_56 : decode cX1_listPoint 56 = .ok (.aload_n 0, 1) := by decide +kernel
theorem dX1_listPoint_57 : decode cX1_listPoint 57 = .ok (.dup, 1) := by decide +kernel
theorem dX1_listPoint_58 : decode cX1_listPoint 58 = .ok (.getfield 63, 3) := by decide +kernel
theorem dX1_listPoint_61 : decode cX1_listPoint 61 = .ok (.iconst 1, 1) := by decide +kernel
theorem dX1_listPoint_62 : decode cX1_listPoint 62 = .ok (.iadd, 1) := by decide +kernel
theorem dX1_listPoint_63 : decode cX1_listPoint 63 = .ok (.putfield 63, 3) := by decide +kernel
theorem dX1_listPoint_66 : decode cX1_listPoint 66 = .ok (.return_, 1) := by decide +kernel
theorem dX1_touchesAll_0 : decode cX1_touchesAll 0 = .ok (.iload_n 1, 1) := by decide +kernel
theorem dX1_touchesAll_1 : decode cX1_touchesAll 1 = .ok (.iload_n 3, 1) := by decide +kernel
theorem dX1_touchesAll_2 : decode cX1_touchesAll 2 = .ok (.if_icmp .ge 9, 3) := by decide +kernel
theorem dX1_touchesAll_5 : decode cX1_touchesAll 5 = .ok (.iload_n 1, 1) := by decide +kernel
theorem dX1_touchesAll_6 : decode cX1_touchesAll 6 = .ok (.bipush 8, 2) := by decide +kernel
theorem dX1_touchesAll_8 : decode cX1_touchesAll 8 = .ok (.if_icmp .lt 18, 3) := by decide +kernel
theorem dX1_touchesAll_11 : decode cX1_touchesAll 11 = .ok (.iload 4, 2) := by decide +kernel
theorem dX1_touchesAll_13 : decode cX1_touchesAll 13 = .ok (.aload_n 0, 1) := by decide +kernel
theorem dX1_touchesAll_14 : decode cX1_touchesAll 14 = .ok (.getfield 40, 3) := by decide +kernel
theorem dX1_touchesAll_17 : decode cX1_touchesAll 17 = .ok (.if_icmp .ne 7, 3) := by decide +kernel
theorem dX1_touchesAll_20 : decode cX1_touchesAll 20 = .ok (.iconst 1, 1) := by decide +kernel
theorem dX1_touchesAll_21 : decode cX1_touchesAll 21 = .ok (.goto 4, 3) := by decide +kernel
theorem dX1_touchesAll_24 : decode cX1_touchesAll 24 = .ok (.iconst 0, 1) := by decide +kernel
theorem dX1_touchesAll_25 : decode cX1_touchesAll 25 = .ok (.ireturn, 1) := by decide +kernel
theorem dX1_touchesAll_26 : decode cX1_touchesAll 26 = .ok (.iload_n 2, 1) := by decide +kernel
theorem dX1_touchesAll_27 : decode cX1_touchesAll 27 = .ok (.istore 5, 2) := by decide +kernel
theorem dX1_touchesAll_29 : decode cX1_touchesAll 29 = .ok (.iload 5, 2) := by decide +kernel
theorem dX1_touchesAll_31 : decode cX1_touchesAll 31 = .ok (.aload_n 0, 1) := by decide +kernel
theorem dX1_touchesAll_32 : decode cX1_touchesAll 32 = .ok (.getfield 63, 3) := by decide +kernel
theorem dX1_touchesAll_35 : decode cX1_touchesAll 35 = .ok (.if_icmp .ge 64, 3) := by decide +kernel
theorem dX1_touchesAll_38 : decode cX1_touchesAll 38 = .ok (.aload_n 0, 1) := by decide +kernel
theorem dX1_touchesAll_39 : decode cX1_touchesAll 39 = .ok (.getfield 24, 3) := by decide +kernel
theorem dX1_touchesAll_42 : decode cX1_touchesAll 42 = .ok (.iload 5, 2) := by decide +kernel
theorem dX1_touchesAll_44 : decode cX1_touchesAll 44 = .ok (.iaload, 1) := by decide +kernel
theorem dX1_touchesAll_45 : decode cX1_touchesAll 45 = .ok (.iload 4, 2) := by decide +kernel
theorem dX1_touchesAll_47 : decode cX1_touchesAll 47 = .ok (.iconst (-1), 1) := by decide +kernel
theorem dX1_touchesAll_48 : decode cX1_touchesAll 48 = .ok (.ixor, 1) := by decide +kernel
theorem dX1_touchesAll_49 : decode cX1_touchesAll 49 = .ok (.iand, 1) := by decide +kernel
theorem dX1_touchesAll_50 : decode cX1_touchesAll 50 = .ok (.ifCond .eq 43, 3) := by decide +kernel
theorem dX1_touchesAll_53 : decode cX1_touchesAll 53 = .ok (.aload_n 0, 1) := by decide +kernel
theorem dX1_touchesAll_54 : decode cX1_touchesAll 54 = .ok (.getfield 27, 3) := by decide +kernel
theorem dX1_touchesAll_57 : decode cX1_touchesAll 57 = .ok (.iload_n 1, 1) := by decide +kernel
theorem dX1_touchesAll_58 : decode cX1_touchesAll 58 = .ok (.aload_n 0, 1) := by decide +kernel
theorem dX1_touchesAll_59 : decode cX1_touchesAll 59 = .ok (.getfield 20, 3) := by decide +kernel
theorem dX1_touchesAll_62 : decode cX1_touchesAll 62 = .ok (.iload 5, 2) := by decide +kernel
theorem dX1_touchesAll_64 : decode cX1_touchesAll 64 = .ok (.iaload, 1) := by decide +kernel
theorem dX1_touchesAll_65 : decode cX1_touchesAll 65 = .ok (.iastore, 1) := by decide +kernel
theorem dX1_touchesAll_66 : decode cX1_touchesAll 66 = .ok (.aload_n 0, 1) := by decide +kernel
theorem dX1_touchesAll_67 : decode cX1_touchesAll 67 = .ok (.iload_n 1, 1) := by decide +kernel
theorem dX1_touchesAll_68 : decode cX1_touchesAll 68 = .ok (.iconst 1, 1) := by decide +kernel
theorem dX1_touchesAll_69 : decode cX1_touchesAll 69 = .ok (.iadd, 1) := by decide +kernel
theorem dX1_touchesAll_70 : decode cX1_touchesAll 70 = .ok (.iload 5, 2) := by decide +kernel
theorem dX1_touchesAll_72 : decode cX1_touchesAll 72 = .ok (.iconst 1, 1) := by decide +kernel
theorem dX1_touchesAll_73 : decode cX1_touchesAll 73 = .ok (.iadd, 1) := by decide +kernel
theorem dX1_touchesAll_74 : decode cX1_touchesAll 74 = .ok (.iload_n 3, 1) := by decide +kernel
theorem dX1_touchesAll_75 : decode cX1_touchesAll 75 = .ok (.iload 4, 2) := by decide +kernel
theorem dX1_touchesAll_77 : decode cX1_touchesAll 77 = .ok (.aload_n 0, 1) := by decide +kernel
theorem dX1_touchesAll_78 : decode cX1_touchesAll 78 = .ok (.getfield 24, 3) := by decide +kernel
theorem dX1_touchesAll_81 : decode cX1_touchesAll 81 = .ok (.iload 5, 2) := by decide +kernel
theorem dX1_touchesAll_83 : decode cX1_touchesAll 83 = .ok (.iaload, 1) := by decide +kernel
theorem dX1_touchesAll_84 : decode cX1_touchesAll 84 = .ok (.ior, 1) := by decide +kernel
theorem dX1_touchesAll_85 : decode cX1_touchesAll 85 = .ok (.invokevirtual 47, 3) := by decide +kernel
theorem dX1_touchesAll_88 : decode cX1_touchesAll 88 = .ok (.ifCond .eq 5, 3) := by decide +kernel
theorem dX1_touchesAll_91 : decode cX1_touchesAll 91 = .ok (.iconst 1, 1) := by decide +kernel
theorem dX1_touchesAll_92 : decode cX1_touchesAll 92 = .ok (.ireturn, 1) := by decide +kernel
theorem dX1_touchesAll_93 : decode cX1_touchesAll 93 = .ok (.iinc 5 1, 3) := by decide +kernel
theorem dX1_touchesAll_96 : decode cX1_touchesAll 96 = .ok (.goto (-67), 3) := by decide +kernel
theorem dX1_touchesAll_99 : decode cX1_touchesAll 99 = .ok (.iconst 0, 1) := by decide +kernel
theorem dX1_touchesAll_100 : decode cX1_touchesAll 100 = .ok (.ireturn, 1) := by decide +kernel
theorem dX2_init_0 : decode cX2_init 0 = .ok (.aload_n 0, 1) := by decide +kernel
theorem dX2_init_1 : decode cX2_init 1 = .ok (.invokespecial 3, 3) := by decide +kernel
theorem dX2_init_4 : decode cX2_init 4 = .ok (.aload_n 0, 1) := by decide +kernel
theorem dX2_init_5 : decode cX2_init 5 = .ok (.bipush 60, 2) := by decide +kernel
theorem dX2_init_7 : decode cX2_init 7 = .ok (.newarray .int, 2) := by decide +kernel
theorem dX2_init_9 : decode cX2_init 9 = .ok (.putfield 9, 3) := by decide +kernel
theorem dX2_init_12 : decode cX2_init 12 = .ok (.aload_n 0, 1) := by decide +kernel
theorem dX2_init_13 : decode cX2_init 13 = .ok (.bipush 12, 2) := by decide +kernel
theorem dX2_init_15 : decode cX2_init 15 = .ok (.invokevirtual 15, 3) := by decide +kernel
theorem dX2_init_18 : decode cX2_init 18 = .ok (.return_, 1) := by decide +kernel
theorem dX2_spread_0 : decode cX2_spread 0 = .ok (.iload_n 1, 1) := by decide +kernel
theorem dX2_spread_1 : decode cX2_spread 1 = .ok (.aload_n 0, 1) := by decide +kernel
theorem dX2_spread_2 : decode cX2_spread 2 = .ok (.getfield 19, 3) := by decide +kernel
theorem dX2_spread_5 : decode cX2_spread 5 = .ok (.if_icmp .eq 14, 3) := by decide +kernel
theorem dX2_spread_8 : decode cX2_spread 8 = .ok (.iload_n 1, 1) := by decide +kernel
theorem dX2_spread_9 : decode cX2_spread 9 = .ok (.iconst 2, 1) := by decide +kernel
theorem dX2_spread_10 : decode cX2_spread 10 = .ok (.if_icmp .lt 9, 3) := by decide +kernel
theorem dX2_spread_13 : decode cX2_spread 13 = .ok (.iload_n 1, 1) := by decide +kernel
theorem dX2_spread_14 : decode cX2_spread 14 = .ok (.bipush 60, 2) := by decide +kernel
theorem dX2_spread_16 : decode cX2_spread 16 = .ok (.if_icmp .le 4, 3) := by decide +kernel
theorem dX2_spread_19 : decode cX2_spread 19 = .ok (.return_, 1) := by decide +kernel
theorem dX2_spread_20 : decode cX2_spread 20 = .ok (.aload_n 0, 1) := by decide +kernel
theorem dX2_spread_21 : decode cX2_spread 21 = .ok (.iload_n 1, 1) := by decide +kernel
theorem dX2_spread_22 : decode cX2_spread 22 = .ok (.putfield 19, 3) := by decide +kernel
theorem dX2_spread_25 : decode cX2_spread 25 = .ok (.aload_n 0, 1) := by decide +kernel
theorem dX2_spread_26 : decode cX2_spread 26 = .ok (.iload_n 1, 1) := by decide +kernel
theorem dX2_spread_27 : decode cX2_spread 27 = .ok (.invokestatic 23, 3) := by decide +kernel
theorem dX2_spread_30 : decode cX2_spread 30 = .ok (.putfield 27, 3) := by decide +kernel
theorem dX2_spread_33 : decode cX2_spread 33 = .ok (.aload_n 0, 1) := by decide +kernel
theorem dX2_spread_34 : decode cX2_spread 34 = .ok (.iload_n 1, 1) := by decide +kernel
theorem dX2_spread_35 : decode cX2_spread 35 = .ok (.aload_n 0, 1) := by decide +kernel
theorem dX2_spread_36 : decode cX2_spread 36 = .ok (.getfield 27, 3) := by decide +kernel
theorem dX2_spread_39 : decode cX2_spread 39 = .ok (.invokestatic 30, 3) := by decide +kernel
theorem dX2_spread_42 : decode cX2_spread 42 = .ok (.putfield 34, 3) := by decide +kernel
theorem dX2_spread_45 : decode cX2_spread 45 = .ok (.aload_n 0, 1) := by decide +kernel
theorem dX2_spread_46 : decode cX2_spread 46 = .ok (.getfield 9, 3) := by decide +kernel
theorem dX2_spread_49 : decode cX2_spread 49 = .ok (.iconst 0, 1) := by decide +kernel
theorem dX2_spread_50 : decode cX2_spread 50 = .ok (.iconst 1, 1) := by decide +kernel
theorem dX2_spread_51 : decode cX2_spread 51 = .ok (.iastore, 1) := by decide +kernel
theorem dX2_spread_52 : decode cX2_spread 52 = .ok (.iconst 1, 1) := by decide +kernel
theorem dX2_spread_53 : decode cX2_spread 53 = .ok (.istore_n 2, 1) := by decide +kernel
theorem dX2_spread_54 : decode cX2_spread 54 = .ok (.iload_n 2, 1) := by decide +kernel
theorem dX2_spread_55 : decode cX2_spread 55 = .ok (.iload_n 1, 1) := by decide +kernel
theorem dX2_spread_56 : decode cX2_spread 56 = .ok (.if_icmp .ge 34, 3) := by decide +kernel
theorem dX2_spread_59 : decode cX2_spread 59 = .ok (.aload_n 0, 1) := by decide +kernel
theorem dX2_spread_60 : decode cX2_spread 60 = .ok (.getfield 9, 3) := by decide +kernel
theorem dX2_spread_63 : decode cX2_spread 63 = .ok (.iload_n 2, 1) := by decide +kernel
theorem dX2_spread_64 : decode cX2_spread 64 = .ok (.aload_n 0, 1) := by decide +kernel
theorem dX2_spread_65 : decode cX2_spread 65 = .ok (.getfield 9, 3) := by decide +kernel
theorem dX2_spread_68 : decode cX2_spread 68 = .ok (.iload_n 2, 1) := by decide +kernel
theorem dX2_spread_69 : decode cX2_spread 69 = .ok (.iconst 1, 1) := by decide +kernel
theorem dX2_spread_70 : decode cX2_spread 70 = .ok (.isub, 1) := by decide +kernel
theorem dX2_spread_71 : decode cX2_spread 71 = .ok (.iaload, 1) := by decide +kernel
theorem dX2_spread_72 : decode cX2_spread 72 = .ok (.aload_n 0, 1) := by decide +kernel
theorem dX2_spread_73 : decode cX2_spread 73 = .ok (.getfield 34, 3) := by decide +kernel
theorem dX2_spread_76 : decode cX2_spread 76 = .ok (.aload_n 0, 1) := by decide +kernel
theorem dX2_spread_77 : decode cX2_spread 77 = .ok (.getfield 27, 3) := by decide +kernel
theorem dX2_spread_80 : decode cX2_spread 80 = .ok (.invokestatic 37, 3) := by decide +kernel
theorem dX2_spread_83 : decode cX2_spread 83 = .ok (.iastore, 1) := by decide +kernel
theorem dX2_spread_84 : decode cX2_spread 84 = .ok (.iinc 2 1, 3) := by decide +kernel
theorem dX2_spread_87 : decode cX2_spread 87 = .ok (.goto (-33), 3) := by decide +kernel
theorem dX2_spread_90 : decode cX2_spread 90 = .ok (.return_, 1) := by decide +kernel
theorem dX2_copy_0 : decode cX2_copy 0 = .ok (.aload_n 0, 1) := by decide +kernel
theorem dX2_copy_1 : decode cX2_copy 1 = .ok (.aload_n 1, 1) := by decide +kernel
theorem dX2_copy_2 : decode cX2_copy 2 = .ok (.getfield 19, 3) := by decide +kernel
theorem dX2_copy_5 : decode cX2_copy 5 = .ok (.putfield 19, 3) := by decide +kernel
theorem dX2_copy_8 : decode cX2_copy 8 = .ok (.aload_n 0, 1) := by decide +kernel
theorem dX2_copy_9 : decode cX2_copy 9 = .ok (.aload_n 1, 1) := by decide +kernel
theorem dX2_copy_10 : decode cX2_copy 10 = .ok (.getfield 27, 3) := by decide +kernel
theorem dX2_copy_13 : decode cX2_copy 13 = .ok (.putfield 27, 3) := by decide +kernel
theorem dX2_copy_16 : decode cX2_copy 16 = .ok (.aload_n 0, 1) := by decide +kernel
theorem dX2_copy_17 : decode cX2_copy 17 = .ok (.aload_n 1, 1) := by decide +kernel
theorem dX2_copy_18 : decode cX2_copy 18 = .ok (.getfield 34, 3) := by decide +kernel
theorem dX2_copy_21 : decode cX2_copy 21 = .ok (.putfield 34, 3) := by decide +kernel
theorem dX2_copy_24 : decode cX2_copy 24 = .ok (.aload_n 1, 1) := by decide +kernel
theorem dX2_copy_25 : decode cX2_copy 25 = .ok (.getfield 9, 3) := by decide +kernel
theorem dX2_copy_28 : decode cX2_copy 28 = .ok (.iconst 0, 1) := by decide +kernel
theorem dX2_copy_29 : decode cX2_copy 29 = .ok (.aload_n 0, 1) := by decide +kernel
theorem dX2_copy_30 : decode cX2_copy 30 = .ok (.getfield 9, 3) := by decide +kernel
theorem dX2_copy_33 : decode cX2_copy 33 = .ok (.iconst 0, 1) := by decide +kernel
theorem dX2_copy_34 : decode cX2_copy 34 = .ok (.bipush 60, 2) := by decide +kernel
theorem dX2_copy_36 : decode cX2_copy 36 = .ok (.invokestatic 41, 3) := by decide +kernel
theorem dX2_copy_39 : decode cX2_copy 39 = .ok (.return_, 1) := by decide +kernel
theorem dX2_has_0 : decode cX2_has 0 = .ok (.iload_n 1, 1) := by decide +kernel
theorem dX2_has_1 : decode cX2_has 1 = .ok (.ifCond .lt 15, 3) := by decide +kernel
theorem dX2_has_4 : decode cX2_has 4 = .ok (.iload_n 1, 1) := by decide +kernel
theorem dX2_has_5 : decode cX2_has 5 = .ok (.aload_n 0, 1) := by decide +kernel
theorem dX2_has_6 : decode cX2_has 6 = .ok (.getfield 19, 3) := by decide +kernel
theorem dX2_has_9 : decode cX2_has 9 = .ok (.if_icmp .ge 7, 3) := by decide +kernel
theorem dX2_has_12 : decode cX2_has 12 = .ok (.iconst 1, 1) := by decide +kernel
theorem dX2_has_13 : decode cX2_has 13 = .ok (.goto 4, 3) := by decide +kernel
theorem dX2_has_16 : decode cX2_has 16 = .ok (.iconst 0, 1) := by decide +kernel
theorem dX2_has_17 : decode cX2_has 17 = .ok (.ireturn, 1) := by decide +kernel
theorem dX2_waveAt_0 : decode cX2_waveAt 0 = .ok (.aload_n 0, 1) := by decide +kernel
theorem dX2_waveAt_1 : decode cX2_waveAt 1 = .ok (.getfield 9, 3) := by decide +kernel
theorem dX2_waveAt_4 : decode cX2_waveAt 4 = .ok (.iload_n 1, 1) := by decide +kernel
theorem dX2_waveAt_5 : decode cX2_waveAt 5 = .ok (.iload_n 2, 1) := by decide +kernel
theorem dX2_waveAt_6 : decode cX2_waveAt 6 = .ok (.imul, 1) := by decide +kernel
theorem dX2_waveAt_7 : decode cX2_waveAt 7 = .ok (.aload_n 0, 1) := by decide +kernel
theorem dX2_waveAt_8 : decode cX2_waveAt 8 = .ok (.getfield 19, 3) := by decide +kernel
theorem dX2_waveAt_11 : decode cX2_waveAt 11 = .ok (.irem, 1) := by decide +kernel
theorem dX2_waveAt_12 : decode cX2_waveAt 12 = .ok (.iaload, 1) := by decide +kernel
theorem dX2_waveAt_13 : decode cX2_waveAt 13 = .ok (.ireturn, 1) := by decide +kernel
theorem dX2_waveBack_0 : decode cX2_waveBack 0 = .ok (.aload_n 0, 1) := by decide +kernel
theorem dX2_waveBack_1 : decode cX2_waveBack 1 = .ok (.getfield 9, 3) := by decide +kernel
theorem dX2_waveBack_4 : decode cX2_waveBack 4 = .ok (.aload_n 0, 1) := by decide +kernel
theorem dX2_waveBack_5 : decode cX2_waveBack 5 = .ok (.getfield 19, 3) := by decide +kernel
theorem dX2_waveBack_8 : decode cX2_waveBack 8 = .ok (.iload_n 1, 1) := by decide +kernel
theorem dX2_waveBack_9 : decode cX2_waveBack 9 = .ok (.isub, 1) := by decide +kernel
theorem dX2_waveBack_10 : decode cX2_waveBack 10 = .ok (.iload_n 2, 1) := by decide +kernel
theorem dX2_waveBack_11 : decode cX2_waveBack 11 = .ok (.imul, 1) := by decide +kernel
theorem dX2_waveBack_12 : decode cX2_waveBack 12 = .ok (.aload_n 0, 1) := by decide +kernel
theorem dX2_waveBack_13 : decode cX2_waveBack 13 = .ok (.getfield 19, 3) := by decide +kernel
theorem dX2_waveBack_16 : decode cX2_waveBack 16 = .ok (.irem, 1) := by decide +kernel
theorem dX2_waveBack_17 : decode cX2_waveBack 17 = .ok (.iaload, 1) := by decide +kernel
theorem dX2_waveBack_18 : decode cX2_waveBack 18 = .ok (.ireturn, 1) := by decide +kernel
theorem dX2_primeFor_0 : decode cX2_primeFor 0 = .ok (.sipush 1001, 3) := by decide +kernel
theorem dX2_primeFor_3 : decode cX2_primeFor 3 = .ok (.istore_n 1, 1) := by decide +kernel
theorem dX2_primeFor_4 : decode cX2_primeFor 4 = .ok (.iload_n 1, 1) := by decide +kernel
theorem dX2_primeFor_5 : decode cX2_primeFor 5 = .ok (.ldc 47, 2) := by decide +kernel
theorem dX2_primeFor_7 : decode cX2_primeFor 7 = .ok (.if_icmp .ge 26, 3) := by decide +kernel
theorem dX2_primeFor_10 : decode cX2_primeFor 10 = .ok (.iload_n 1, 1) := by decide +kernel
theorem dX2_primeFor_11 : decode cX2_primeFor 11 = .ok (.iconst 1, 1) := by decide +kernel
theorem dX2_primeFor_12 : decode cX2_primeFor 12 = .ok (.isub, 1) := by decide +kernel
theorem dX2_primeFor_13 : decode cX2_primeFor 13 = .ok (.iload_n 0, 1) := by decide +kernel
theorem dX2_primeFor_14 : decode cX2_primeFor 14 = .ok (.irem, 1) := by decide +kernel
theorem dX2_primeFor_15 : decode cX2_primeFor 15 = .ok (.ifCond .ne 12, 3) := by decide +kernel
theorem dX2_primeFor_18 : decode cX2_primeFor 18 = .ok (.iload_n 1, 1) := by decide +kernel
theorem dX2_primeFor_19 : decode cX2_primeFor 19 = .ok (.invokestatic 48, 3) := by decide +kernel
theorem dX2_primeFor_22 : decode cX2_primeFor 22 = .ok (.ifCond .eq 5, 3) := by decide +kernel
theorem dX2_primeFor_25 : decode cX2_primeFor 25 = .ok (.iload_n 1, 1) := by decide +kernel
theorem dX2_primeFor_26 : decode cX2_primeFor 26 = .ok (.ireturn, 1) := by decide +kernel
theorem dX2_primeFor_27 : decode cX2_primeFor 27 = .ok (.iinc 1 1, 3) := by decide +kernel
theorem dX2_primeFor_30 : decode cX2_primeFor 30 = .ok (.goto (-26), 3) := by decide +kernel
theorem dX2_primeFor_33 : decode cX2_primeFor 33 = .ok (.sipush 1001, 3) := by decide +kernel
theorem dX2_primeFor_36 : decode cX2_primeFor 36 = .ok (.ireturn, 1) := by decide +kernel
theorem dX2_isPrime_0 : decode cX2_isPrime 0 = .ok (.iconst 2, 1) := by decide +kernel
theorem dX2_isPrime_1 : decode cX2_isPrime 1 = .ok (.istore_n 1, 1) := by decide +kernel
theorem dX2_isPrime_2 : decode cX2_isPrime 2 = .ok (.iload_n 1, 1) := by decide +kernel
theorem dX2_isPrime_3 : decode cX2_isPrime 3 = .ok (.iload_n 1, 1) := by decide +kernel
theorem dX2_isPrime_4 : decode cX2_isPrime 4 = .ok (.imul, 1) := by decide +kernel
theorem dX2_isPrime_5 : decode cX2_isPrime 5 = .ok (.iload_n 0, 1) := by decide +kernel
theorem dX2_isPrime_6 : decode cX2_isPrime 6 = .ok (.if_icmp .gt 17, 3) := by decide +kernel
theorem dX2_isPrime_9 : decode cX2_isPrime 9 = .ok (.iload_n 0, 1) := by decide +kernel
theorem dX2_isPrime_10 : decode cX2_isPrime 10 = .ok (.iload_n 1, 1) := by decide +kernel
theorem dX2_isPrime_11 : decode cX2_isPrime 11 = .ok (.irem, 1) := by decide +kernel
theorem dX2_isPrime_12 : decode cX2_isPrime 12 = .ok (.ifCond .ne 5, 3) := by decide +kernel
theorem dX2_isPrime_15 : decode cX2_isPrime 15 = .ok (.iconst 0, 1) := by decide +kernel
theorem dX2_isPrime_16 : decode cX2_isPrime 16 = .ok (.ireturn, 1) := by decide +kernel
theorem dX2_isPrime_17 : decode cX2_isPrime 17 = .ok (.iinc 1 1, 3) := by decide +kernel
theorem dX2_isPrime_20 : decode cX2_isPrime 20 = .ok (.goto (-18), 3) := by decide +kernel
theorem dX2_isPrime_23 : decode cX2_isPrime 23 = .ok (.iconst 1, 1) := by decide +kernel
theorem dX2_isPrime_24 : decode cX2_isPrime 24 = .ok (.ireturn, 1) := by decide +kernel
theorem dX2_rootFor_0 : decode cX2_rootFor 0 = .ok (.iconst 2, 1) := by decide +kernel
theorem dX2_rootFor_1 : decode cX2_rootFor 1 = .ok (.istore_n 2, 1) := by decide +kernel
theorem dX2_rootFor_2 : decode cX2_rootFor 2 = .ok (.iload_n 2, 1) := by decide +kernel
theorem dX2_rootFor_3 : decode cX2_rootFor 3 = .ok (.iload_n 1, 1) := by decide +kernel
theorem dX2_rootFor_4 : decode cX2_rootFor 4 = .ok (.if_icmp .ge 20, 3) := by decide +kernel
theorem dX2_rootFor_7 : decode cX2_rootFor 7 = .ok (.iload_n 2, 1) := by decide +kernel
theorem dX2_rootFor_8 : decode cX2_rootFor 8 = .ok (.iload_n 0, 1) := by decide +kernel
theorem dX2_rootFor_9 : decode cX2_rootFor 9 = .ok (.iload_n 1, 1) := by decide +kernel
theorem dX2_rootFor_10 : decode cX2_rootFor 10 = .ok (.invokestatic 52, 3) := by decide +kernel
theorem dX2_rootFor_13 : decode cX2_rootFor 13 = .ok (.ifCond .eq 5, 3) := by decide +kernel
theorem dX2_rootFor_16 : decode cX2_rootFor 16 = .ok (.iload_n 2, 1) := by decide +kernel
theorem dX2_rootFor_17 : decode cX2_rootFor 17 = .ok (.ireturn, 1) := by decide +kernel
theorem dX2_rootFor_18 : decode cX2_rootFor 18 = .ok (.iinc 2 1, 3) := by decide +kernel
theorem dX2_rootFor_21 : decode cX2_rootFor 21 = .ok (.goto (-19), 3) := by decide +kernel
theorem dX2_rootFor_24 : decode cX2_rootFor 24 = .ok (.iconst 1, 1) := by decide +kernel
theorem dX2_rootFor_25 : decode cX2_rootFor 25 = .ok (.ireturn, 1) := by decide +kernel
theorem dX2_comesRoundFirstAt_0 : decode cX2_comesRoundFirstAt 0 = .ok (.iload_n 0, 1) := by decide +kernel
theorem dX2_comesRoundFirstAt_1 : decode cX2_comesRoundFirstAt 1 = .ok (.istore_n 3, 1) := by decide +kernel
theorem dX2_comesRoundFirstAt_2 : decode cX2_comesRoundFirstAt 2 = .ok (.iconst 1, 1) := by decide +kernel
theorem dX2_comesRoundFirstAt_3 : decode cX2_comesRoundFirstAt 3 = .ok (.istore 4, 2) := by decide +kernel
theorem dX2_comesRoundFirstAt_5 : decode cX2_comesRoundFirstAt 5 = .ok (.iload 4, 2) := by decide +kernel
theorem dX2_comesRoundFirstAt_7 : decode cX2_comesRoundFirstAt 7 = .ok (.iload_n 1, 1) := by decide +kernel
theorem dX2_comesRoundFirstAt_8 : decode cX2_comesRoundFirstAt 8 = .ok (.if_icmp .ge 23, 3) := by decide +kernel
theorem dX2_comesRoundFirstAt_11 : decode cX2_comesRoundFirstAt 11 = .ok (.iload_n 3, 1) := by decide +kernel
theorem dX2_comesRoundFirstAt_12 : decode cX2_comesRoundFirstAt 12 = .ok (.iconst 1, 1) := by decide +kernel
theorem dX2_comesRoundFirstAt_13 : decode cX2_comesRoundFirstAt 13 = .ok (.if_icmp .ne 5, 3) := by decide +kernel
theorem dX2_comesRoundFirstAt_16 : decode cX2_comesRoundFirstAt 16 = .ok (.iconst 0, 1) := by decide +kernel
theorem dX2_comesRoundFirstAt_17 : decode cX2_comesRoundFirstAt 17 = .ok (.ireturn, 1) := by decide +kernel
theorem dX2_comesRoundFirstAt_18 : decode cX2_comesRoundFirstAt 18 = .ok (.iload_n 3, 1) := by decide +kernel
theorem dX2_comesRoundFirstAt_19 : decode cX2_comesRoundFirstAt 19 = .ok (.iload_n 0, 1) := by decide +kernel
theorem dX2_comesRoundFirstAt_20 : decode cX2_comesRoundFirstAt 20 = .ok (.iload_n 2, 1) := by decide +kernel
theorem dX2_comesRoundFirstAt_21 : decode cX2_comesRoundFirstAt 21 = .ok (.invokestatic 37, 3) := by decide +kernel
theorem dX2_comesRoundFirstAt_24 : decode cX2_comesRoundFirstAt 24 = .ok (.istore_n 3, 1) := by decide +kernel
theorem dX2_comesRoundFirstAt_25 : decode cX2_comesRoundFirstAt 25 = .ok (.iinc 4 1, 3) := by decide +kernel
theorem dX2_comesRoundFirstAt_28 : decode cX2_comesRoundFirstAt 28 = .ok (.goto (-23), 3) := by decide +kernel
theorem dX2_comesRoundFirstAt_31 : decode cX2_comesRoundFirstAt 31 = .ok (.iload_n 3, 1) := by decide +kernel
theorem dX2_comesRoundFirstAt_32 : decode cX2_comesRoundFirstAt 32 = .ok (.iconst 1, 1) := by decide +kernel
theorem dX2_comesRoundFirstAt_33 : decode cX2_comesRoundFirstAt 33 = .ok (.if_icmp .ne 7, 3) := by decide +kernel
theorem dX2_comesRoundFirstAt_36 : decode cX2_comesRoundFirstAt 36 = .ok (.iconst 1, 1) := by decide +kernel
theorem dX2_comesRoundFirstAt_37 : decode cX2_comesRoundFirstAt 37 = .ok (.goto 4, 3) := by decide +kernel
theorem dX2_comesRoundFirstAt_40 : decode cX2_comesRoundFirstAt 40 = .ok (.iconst 0, 1) := by decide +kernel
theorem dX2_comesRoundFirstAt_41 : decode cX2_comesRoundFirstAt 41 = .ok (.ireturn, 1) := by decide +kernel
theorem dX3_init_0 : decode cX3_init 0 = .ok (.aload_n 0, 1) := by decide +kernel
theorem dX3_init_1 : decode cX3_init 1 = .ok (.invokespecial 3, 3) := by decide +kernel
theorem dX3_init_4 : decode cX3_init 4 = .ok (.aload_n 0, 1) := by decide +kernel
theorem dX3_init_5 : decode cX3_init 5 = .ok (.iconst 3, 1) := by decide +kernel
theorem dX3_init_6 : decode cX3_init 6 = .ok (.newarray .int, 2) := by decide +kernel
theorem dX3_init_8 : decode cX3_init 8 = .ok (.putfield 9, 3) := by decide +kernel
theorem dX3_init_11 : decode cX3_init 11 = .ok (.aload_n 0, 1) := by decide +kernel
theorem dX3_init_12 : decode cX3_init 12 = .ok (.bipush 60, 2) := by decide +kernel
theorem dX3_init_14 : decode cX3_init 14 = .ok (.bipush 10, 2) := by decide +kernel
theorem dX3_init_16 : decode cX3_init 16 = .ok (.multianewarray 15 2, 4) := by decide +kernel
theorem dX3_init_20 : decode cX3_init 20 = .ok (.putfield 17, 3) := by decide +kernel
theorem dX3_init_23 : decode cX3_init 23 = .ok (.aload_n 0, 1) := by decide +kernel
theorem dX3_init_24 : decode cX3_init 24 = .ok (.bipush 10, 2) := by decide +kernel
theorem dX3_init_26 : decode cX3_init 26 = .ok (.newarray .int, 2) := by decide +kernel
theorem dX3_init_28 : decode cX3_init 28 = .ok (.putfield 20, 3) := by decide +kernel
theorem dX3_init_31 : decode cX3_init 31 = .ok (.aload_n 0, 1) := by decide +kernel
theorem dX3_init_32 : decode cX3_init 32 = .ok (.iconst 3, 1) := by decide +kernel
theorem dX3_init_33 : decode cX3_init 33 = .ok (.bipush 10, 2) := by decide +kernel
theorem dX3_init_35 : decode cX3_init 35 = .ok (.multianewarray 15 2, 4) := by decide +kernel
theorem dX3_init_39 : decode cX3_init 39 = .ok (.putfield 23, 3) := by decide +kernel
theorem dX3_init_42 : decode cX3_init 42 = .ok (.aload_n 0, 1) := by decide +kernel
theorem dX3_init_43 : decode cX3_init 43 = .ok (.iconst 3, 1) := by decide +kernel
theorem dX3_init_44 : decode cX3_init 44 = .ok (.bipush 10, 2) := by decide +kernel
theorem dX3_init_46 : decode cX3_init 46 = .ok (.multianewarray 15 2, 4) := by decide +kernel
theorem dX3_init_50 : decode cX3_init 50 = .ok (.putfield 26, 3) := by decide +kernel
theorem dX3_init_53 : decode cX3_init 53 = .ok (.aload_n 0, 1) := by decide +kernel
theorem dX3_init_54 : decode cX3_init 54 = .ok (.iconst 3, 1) := by decide +kernel
theorem dX3_init_55 : decode cX3_init 55 = .ok (.newarray .int, 2) := by decide +kernel
theorem dX3_init_57 : decode cX3_init 57 = .ok (.putfield 29, 3) := by decide +kernel
theorem dX3_init_60 : decode cX3_init 60 = .ok (.aload_n 0, 1) := by decide +kernel
theorem dX3_init_61 : decode cX3_init 61 = .ok (.iconst 3, 1) := by decide +kernel
theorem dX3_init_62 : decode cX3_init 62 = .ok (.newarray .int, 2) := by decide +kernel
theorem dX3_init_64 : decode cX3_init 64 = .ok (.putfield 32, 3) := by decide +kernel
theorem dX3_init_67 : decode cX3_init 67 = .ok (.return_, 1) := by decide +kernel
theorem dX3_hear_0 : decode cX3_hear 0 = .ok (.aload_n 0, 1) := by decide +kernel
theorem dX3_hear_1 : decode cX3_hear 1 = .ok (.aload_n 1, 1) := by decide +kernel
theorem dX3_hear_2 : decode cX3_hear 2 = .ok (.getfield 35, 3) := by decide +kernel
theorem dX3_hear_5 : decode cX3_hear 5 = .ok (.getfield 41, 3) := by decide +kernel
theorem dX3_hear_8 : decode cX3_hear 8 = .ok (.putfield 47, 3) := by decide +kernel
theorem dX3_hear_11 : decode cX3_hear 11 = .ok (.aload_n 0, 1) := by decide +kernel
theorem dX3_hear_12 : decode cX3_hear 12 = .ok (.aload_n 1, 1) := by decide +kernel
theorem dX3_hear_13 : decode cX3_hear 13 = .ok (.getfield 35, 3) := by decide +kernel
theorem dX3_hear_16 : decode cX3_hear 16 = .ok (.getfield 48, 3) := by decide +kernel
theorem dX3_hear_19 : decode cX3_hear 19 = .ok (.putfield 51, 3) := by decide +kernel
theorem dX3_hear_22 : decode cX3_hear 22 = .ok (.aload_n 0, 1) := by decide +kernel
theorem dX3_hear_23 : decode cX3_hear 23 = .ok (.aload_n 1, 1) := by decide +kernel
theorem dX3_hear_24 : decode cX3_hear 24 = .ok (.getfield 52, 3) := by decide +kernel
theorem dX3_hear_27 : decode cX3_hear 27 = .ok (.putfield 55, 3) := by decide +kernel
theorem dX3_hear_30 : decode cX3_hear 30 = .ok (.iconst 0, 1) := by decide +kernel
theorem dX3_hear_31 : decode cX3_hear 31 = .ok (.istore_n 3, 1) := by decide +kernel
theorem dX3_hear_32 : decode cX3_hear 32 = .ok (.iload_n 3, 1) := by decide +kernel
theorem dX3_hear_33 : decode cX3_hear 33 = .ok (.aload_n 0, 1) := by decide +kernel
theorem dX3_hear_34 : decode cX3_hear 34 = .ok (.getfield 55, 3) := by decide +kernel
theorem dX3_hear_37 : decode cX3_hear 37 = .ok (.if_icmp .ge 54, 3) := by decide +kernel
theorem dX3_hear_40 : decode cX3_hear 40 = .ok (.aload_n 0, 1) := by decide +kernel
theorem dX3_hear_41 : decode cX3_hear 41 = .ok (.getfield 26, 3) := by decide +kernel
theorem dX3_hear_44 : decode cX3_hear 44 = .ok (.iconst 0, 1) := by decide +kernel
theorem dX3_hear_45 : decode cX3_hear 45 = .ok (.aaload, 1) := by decide +kernel
theorem dX3_hear_46 : decode cX3_hear 46 = .ok (.iload_n 3, 1) := by decide +kernel
theorem dX3_hear_47 : decode cX3_hear 47 = .ok (.aload_n 2, 1) := by decide +kernel
theorem dX3_hear_48 : decode cX3_hear 48 = .ok (.iload_n 3, 1) := by decide +kernel
theorem dX3_hear_49 : decode cX3_hear 49 = .ok (.iaload, 1) := by decide +kernel
theorem dX3_hear_50 : decode cX3_hear 50 = .ok (.iastore, 1) := by decide +kernel
theorem dX3_hear_51 : decode cX3_hear 51 = .ok (.iconst 0, 1) := by decide +kernel
theorem dX3_hear_52 : decode cX3_hear 52 = .ok (.istore 4, 2) := by decide +kernel
theorem dX3_hear_54 : decode cX3_hear 54 = .ok (.iload 4, 2) := by decide +kernel
theorem dX3_hear_56 : decode cX3_hear 56 = .ok (.aload_n 0, 1) := by decide +kernel
theorem dX3_hear_57 : decode cX3_hear 57 = .ok (.getfield 51, 3) := by decide +kernel
theorem dX3_hear_60 : decode cX3_hear 60 = .ok (.if_icmp .ge 25, 3) := by decide +kernel
theorem dX3_hear_63 : decode cX3_hear 63 = .ok (.aload_n 0, 1) := by decide +kernel
theorem dX3_hear_64 : decode cX3_hear 64 = .ok (.getfield 17, 3) := by decide +kernel
theorem dX3_hear_67 : decode cX3_hear 67 = .ok (.iload 4, 2) := by decide +kernel
theorem dX3_hear_69 : decode cX3_hear 69 = .ok (.aaload, 1) := by decide +kernel
theorem dX3_hear_70 : decode cX3_hear 70 = .ok (.iload_n 3, 1) := by decide +kernel
theorem dX3_hear_71 : decode cX3_hear 71 = .ok (.aload_n 1, 1) := by decide +kernel
theorem dX3_hear_72 : decode cX3_hear 72 = .ok (.iload_n 3, 1) := by decide +kernel
theorem dX3_hear_73 : decode cX3_hear 73 = .ok (.iload 4, 2) := by decide +kernel
theorem dX3_hear_75 : decode cX3_hear 75 = .ok (.invokevirtual 56, 3) := by decide +kernel
theorem dX3_hear_78 : decode cX3_hear 78 = .ok (.iastore, 1) := by decide +kernel
theorem dX3_hear_79 : decode cX3_hear 79 = .ok (.iinc 4 1, 3) := by decide +kernel
theorem dX3_hear_82 : decode cX3_hear 82 = .ok (.goto (-28), 3) := by decide +kernel
theorem dX3_hear_85 : decode cX3_hear 85 = .ok (.iinc 3 1, 3) := by decide +kernel
theorem dX3_hear_88 : decode cX3_hear 88 = .ok (.goto (-56), 3) := by decide +kernel
theorem dX3_hear_91 : decode cX3_hear 91 = .ok (.return_, 1) := by decide +kernel
theorem dX3_hearAllBut_0 : decode cX3_hearAllBut 0 = .ok (.aload_n 0, 1) := by decide +kernel
theorem dX3_hearAllBut_1 : decode cX3_hearAllBut 1 = .ok (.iconst 0, 1) := by decide +kernel
theorem dX3_hearAllBut_2 : decode cX3_hearAllBut 2 = .ok (.putfield 60, 3) := by decide +kernel
theorem dX3_hearAllBut_5 : decode cX3_hearAllBut 5 = .ok (.iconst 0, 1) := by decide +kernel
theorem dX3_hearAllBut_6 : decode cX3_hearAllBut 6 = .ok (.istore_n 3, 1) := by decide +kernel
theorem dX3_hearAllBut_7 : decode cX3_hearAllBut 7 = .ok (.iload_n 3, 1) := by decide +kernel
theorem dX3_hearAllBut_8 : decode cX3_hearAllBut 8 = .ok (.aload_n 0, 1) := by decide +kernel
theorem dX3_hearAllBut_9 : decode cX3_hearAllBut 9 = .ok (.getfield 55, 3) := by decide +kernel
theorem dX3_hearAllBut_12 : decode cX3_hearAllBut 12 = .ok (.if_icmp .ge 39, 3) := by decide +kernel
theorem dX3_hearAllBut_15 : decode cX3_hearAllBut 15 = .ok (.iload_n 3, 1) := by decide +kernel
theorem dX3_hearAllBut_16 : decode cX3_hearAllBut 16 = .ok (.iload_n 1, 1) := by decide +kernel
theorem dX3_hearAllBut_17 : decode cX3_hearAllBut 17 = .ok (.if_icmp .eq 28, 3) := by decide +kernel
theorem dX3_hearAllBut_20 : decode cX3_hearAllBut 20 = .ok (.iload_n 3, 1) := by decide +kernel
theorem dX3_hearAllBut_21 : decode cX3_hearAllBut 21 = .ok (.iload_n 2, 1) := by decide +kernel
theorem dX3_hearAllBut_22 : decode cX3_hearAllBut 22 = .ok (.if_icmp .eq 23, 3) := by decide +kernel
theorem dX3_hearAllBut_25 : decode cX3_hearAllBut 25 = .ok (.aload_n 0, 1) := by decide +kernel
theorem dX3_hearAllBut_26 : decode cX3_hearAllBut 26 = .ok (.getfield 20, 3) := by decide +kernel
theorem dX3_hearAllBut_29 : decode cX3_hearAllBut 29 = .ok (.aload_n 0, 1) := by decide +kernel
theorem dX3_hearAllBut_30 : decode cX3_hearAllBut 30 = .ok (.getfield 60, 3) := by decide +kernel
theorem dX3_hearAllBut_33 : decode cX3_hearAllBut 33 = .ok (.iload_n 3, 1) := by decide +kernel
theorem dX3_hearAllBut_34 : decode cX3_hearAllBut 34 = .ok (.iastore, 1) := by decide +kernel
theorem dX3_hearAllBut_35 : decode cX3_hearAllBut 35 = .ok (.aload_n 0, 1) := by decide +kernel
theorem dX3_hearAllBut_36 : decode cX3_hearAllBut 36 = .ok (.dup, 1) := by decide +kernel
theorem dX3_hearAllBut_37 : decode cX3_hearAllBut 37 = .ok (.getfield 60, 3) := by decide +kernel
theorem dX3_hearAllBut_40 : decode cX3_hearAllBut 40 = .ok (.iconst 1, 1) := by decide +kernel
theorem dX3_hearAllBut_41 : decode cX3_hearAllBut 41 = .ok (.iadd, 1) := by decide +kernel
theorem dX3_hearAllBut_42 : decode cX3_hearAllBut 42 = .ok (.putfield 60, 3) := by decide +kernel
theorem dX3_hearAllBut_45 : decode cX3_hearAllBut 45 = .ok (.iinc 3 1, 3) := by decide +kernel
theorem dX3_hearAllBut_48 : decode cX3_hearAllBut 48 = .ok (.goto (-41), 3) := by decide +kernel
theorem dX3_hearAllBut_51 : decode cX3_hearAllBut 51 = .ok (.return_, 1) := by decide +kernel
theorem dX3_fewestUpTo_0 : decode cX3_fewestUpTo 0 = .ok (.aload_n 0, 1) := by decide +kernel
theorem dX3_fewestUpTo_1 : decode cX3_fewestUpTo 1 = .ok (.iload_n 2, 1) := by decide +kernel
theorem dX3_fewestUpTo_2 : decode cX3_fewestUpTo 2 = .ok (.putfield 63, 3) := by decide +kernel
theorem dX3_fewestUpTo_5 : decode cX3_fewestUpTo 5 = .ok (.aload_n 0, 1) := by decide +kernel
theorem dX3_fewestUpTo_6 : decode cX3_fewestUpTo 6 = .ok (.iconst 0, 1) := by decide +kernel
theorem dX3_fewestUpTo_7 : decode cX3_fewestUpTo 7 = .ok (.putfield 67, 3) := by decide +kernel
theorem dX3_fewestUpTo_10 : decode cX3_fewestUpTo 10 = .ok (.aload_n 0, 1) := by decide +kernel
theorem dX3_fewestUpTo_11 : decode cX3_fewestUpTo 11 = .ok (.aload_n 0, 1) := by decide +kernel
theorem dX3_fewestUpTo_12 : decode cX3_fewestUpTo 12 = .ok (.getfield 26, 3) := by decide +kernel
theorem dX3_fewestUpTo_15 : decode cX3_fewestUpTo 15 = .ok (.iconst 0, 1) := by decide +kernel
theorem dX3_fewestUpTo_16 : decode cX3_fewestUpTo 16 = .ok (.aaload, 1) := by decide +kernel
theorem dX3_fewestUpTo_17 : decode cX3_fewestUpTo 17 = .ok (.iconst 0, 1) := by decide +kernel
theorem dX3_fewestUpTo_18 : decode cX3_fewestUpTo 18 = .ok (.invokevirtual 70, 3) := by decide +kernel
theorem dX3_fewestUpTo_21 : decode cX3_fewestUpTo 21 = .ok (.ifCond .ne 10, 3) := by decide +kernel
theorem dX3_fewestUpTo_24 : decode cX3_fewestUpTo 24 = .ok (.aload_n 0, 1) := by decide +kernel
theorem dX3_fewestUpTo_25 : decode cX3_fewestUpTo 25 = .ok (.iconst 1, 1) := by decide +kernel
theorem dX3_fewestUpTo_26 : decode cX3_fewestUpTo 26 = .ok (.putfield 67, 3) := by decide +kernel
theorem dX3_fewestUpTo_29 : decode cX3_fewestUpTo 29 = .ok (.iconst 0, 1) := by decide +kernel
theorem dX3_fewestUpTo_30 : decode cX3_fewestUpTo 30 = .ok (.ireturn, 1) := by decide +kernel
theorem dX3_fewestUpTo_31 : decode cX3_fewestUpTo 31 = .ok (.iconst 1, 1) := by decide +kernel
theorem dX3_fewestUpTo_32 : decode cX3_fewestUpTo 32 = .ok (.istore_n 3, 1) := by decide +kernel
theorem dX3_fewestUpTo_33 : decode cX3_fewestUpTo 33 = .ok (.iload_n 3, 1) := by decide +kernel
theorem dX3_fewestUpTo_34 : decode cX3_fewestUpTo 34 = .ok (.iload_n 1, 1) := by decide +kernel
theorem dX3_fewestUpTo_35 : decode cX3_fewestUpTo 35 = .ok (.if_icmp .gt 25, 3) := by decide +kernel
theorem dX3_fewestUpTo_38 : decode cX3_fewestUpTo 38 = .ok (.aload_n 0, 1) := by decide +kernel
theorem dX3_fewestUpTo_39 : decode cX3_fewestUpTo 39 = .ok (.iconst 0, 1) := by decide +kernel
theorem dX3_fewestUpTo_40 : decode cX3_fewestUpTo 40 = .ok (.iconst 0, 1) := by decide +kernel
theorem dX3_fewestUpTo_41 : decode cX3_fewestUpTo 41 = .ok (.iload_n 3, 1) := by decide +kernel
theorem dX3_fewestUpTo_42 : decode cX3_fewestUpTo 42 = .ok (.invokevirtual 74, 3) := by decide +kernel
theorem dX3_fewestUpTo_45 : decode cX3_fewestUpTo 45 = .ok (.aload_n 0, 1) := by decide +kernel
theorem dX3_fewestUpTo_46 : decode cX3_fewestUpTo 46 = .ok (.getfield 67, 3) := by decide +kernel
theorem dX3_fewestUpTo_49 : decode cX3_fewestUpTo 49 = .ok (.ifCond .le 5, 3) := by decide +kernel
theorem dX3_fewestUpTo_52 : decode cX3_fewestUpTo 52 = .ok (.iload_n 3, 1) := by decide +kernel
theorem dX3_fewestUpTo_53 : decode cX3_fewestUpTo 53 = .ok (.ireturn, 1) := by decide +kernel
theorem dX3_fewestUpTo_54 : decode cX3_fewestUpTo 54 = .ok (.iinc 3 1, 3) := by decide +kernel
theorem dX3_fewestUpTo_57 : decode cX3_fewestUpTo 57 = .ok (.goto (-24), 3) := by decide +kernel
theorem dX3_fewestUpTo_60 : decode cX3_fewestUpTo 60 = .ok (.iconst (-1), 1) := by decide +kernel
theorem dX3_fewestUpTo_61 : decode cX3_fewestUpTo 61 = .ok (.ireturn, 1) := by decide +kernel
theorem dX3_choose_0 : decode cX3_choose 0 = .ok (.iload_n 1, 1) := by decide +kernel
theorem dX3_choose_1 : decode cX3_choose 1 = .ok (.iconst 1, 1) := by decide +kernel
theorem dX3_choose_2 : decode cX3_choose 2 = .ok (.iadd, 1) := by decide +kernel
theorem dX3_choose_3 : decode cX3_choose 3 = .ok (.iload_n 3, 1) := by decide +kernel
theorem dX3_choose_4 : decode cX3_choose 4 = .ok (.if_icmp .lt 10, 3) := by decide +kernel
theorem dX3_choose_7 : decode cX3_choose 7 = .ok (.aload_n 0, 1) := by decide +kernel
theorem dX3_choose_8 : decode cX3_choose 8 = .ok (.iload_n 1, 1) := by decide +kernel
theorem dX3_choose_9 : decode cX3_choose 9 = .ok (.iload_n 2, 1) := by decide +kernel
theorem dX3_choose_10 : decode cX3_choose 10 = .ok (.invokevirtual 78, 3) := by decide +kernel
theorem dX3_choose_13 : decode cX3_choose 13 = .ok (.return_, 1) := by decide +kernel
theorem dX3_choose_14 : decode cX3_choose 14 = .ok (.iload_n 2, 1) := by decide +kernel
theorem dX3_choose_15 : decode cX3_choose 15 = .ok (.istore 4, 2) := by decide +kernel
theorem dX3_choose_17 : decode cX3_choose 17 = .ok (.iload 4, 2) := by decide +kernel
theorem dX3_choose_19 : decode cX3_choose 19 = .ok (.aload_n 0, 1) := by decide +kernel
theorem dX3_choose_20 : decode cX3_choose 20 = .ok (.getfield 51, 3) := by decide +kernel
theorem dX3_choose_23 : decode cX3_choose 23 = .ok (.if_icmp .ge 46, 3) := by decide +kernel
theorem dX3_choose_26 : decode cX3_choose 26 = .ok (.aload_n 0, 1) := by decide +kernel
theorem dX3_choose_27 : decode cX3_choose 27 = .ok (.invokevirtual 82, 3) := by decide +kernel
theorem dX3_choose_30 : decode cX3_choose 30 = .ok (.ifCond .ne 39, 3) := by decide +kernel
theorem dX3_choose_33 : decode cX3_choose 33 = .ok (.aload_n 0, 1) := by decide +kernel
theorem dX3_choose_34 : decode cX3_choose 34 = .ok (.iload_n 1, 1) := by decide +kernel
theorem dX3_choose_35 : decode cX3_choose 35 = .ok (.iload 4, 2) := by decide +kernel
theorem dX3_choose_37 : decode cX3_choose 37 = .ok (.invokevirtual 86, 3) := by decide +kernel
theorem dX3_choose_40 : decode cX3_choose 40 = .ok (.ifCond .eq 23, 3) := by decide +kernel
theorem dX3_choose_43 : decode cX3_choose 43 = .ok (.aload_n 0, 1) := by decide +kernel
theorem dX3_choose_44 : decode cX3_choose 44 = .ok (.getfield 32, 3) := by decide +kernel
theorem dX3_choose_47 : decode cX3_choose 47 = .ok (.iload_n 1, 1) := by decide +kernel
theorem dX3_choose_48 : decode cX3_choose 48 = .ok (.iload 4, 2) := by decide +kernel
theorem dX3_choose_50 : decode cX3_choose 50 = .ok (.iastore, 1) := by decide +kernel
theorem dX3_choose_51 : decode cX3_choose 51 = .ok (.aload_n 0, 1) := by decide +kernel
theorem dX3_choose_52 : decode cX3_choose 52 = .ok (.iload_n 1, 1) := by decide +kernel
theorem dX3_choose_53 : decode cX3_choose 53 = .ok (.iconst 1, 1) := by decide +kernel
theorem dX3_choose_54 : decode cX3_choose 54 = .ok (.iadd, 1) := by decide +kernel
theorem dX3_choose_55 : decode cX3_choose 55 = .ok (.iload 4, 2) := by decide +kernel
theorem dX3_choose_57 : decode cX3_choose 57 = .ok (.iconst 1, 1) := by decide +kernel
theorem dX3_choose_58 : decode cX3_choose 58 = .ok (.iadd, 1) := by decide +kernel
theorem dX3_choose_59 : decode cX3_choose 59 = .ok (.iload_n 3, 1) := by decide +kernel
theorem dX3_choose_60 : decode cX3_choose 60 = .ok (.invokevirtual 74, 3) := by decide +kernel
theorem dX3_choose_63 : decode cX3_choose 63 = .ok (.iinc 4 1, 3) := by decide +kernel
theorem dX3_choose_66 : decode cX3_choose 66 = .ok (.goto (-49), 3) := by decide +kernel
theorem dX3_choose_69 : decode cX3_choose 69 = .ok (.return_, 1) := by decide +kernel
theorem dX3_isDone_0 : decode cX3_isDone 0 = .ok (.aload_n 0, 1) := by decide +kernel
theorem dX3_isDone_1 : decode cX3_isDone 1 = .ok (.getfield 63, 3) := by decide +kernel
theorem dX3_isDone_4 : decode cX3_isDone 4 = .ok (.ifCond .eq 14, 3) := by decide +kernel
theorem dX3_isDone_7 : decode cX3_isDone 7 = .ok (.aload_n 0, 1) := by decide +kernel
theorem dX3_isDone_8 : decode cX3_isDone 8 = .ok (.getfield 67, 3) := by decide +kernel
theorem dX3_isDone_11 : decode cX3_isDone 11 = .ok (.ifCond .le 7, 3) := by decide +kernel
theorem dX3_isDone_14 : decode cX3_isDone 14 = .ok (.iconst 1, 1) := by decide +kernel
theorem dX3_isDone_15 : decode cX3_isDone 15 = .ok (.goto 4, 3) := by decide +kernel
theorem dX3_isDone_18 : decode cX3_isDone 18 = .ok (.iconst 0, 1) := by decide +kernel
theorem dX3_isDone_19 : decode cX3_isDone 19 = .ok (.ireturn, 1) := by decide +kernel
theorem dX3_chooseLast_0 : decode cX3_chooseLast 0 = .ok (.aload_n 0, 1) := by decide +kernel
theorem dX3_chooseLast_1 : decode cX3_chooseLast 1 = .ok (.aload_n 0, 1) := by decide +kernel
theorem dX3_chooseLast_2 : decode cX3_chooseLast 2 = .ok (.getfield 26, 3) := by decide +kernel
theorem dX3_chooseLast_5 : decode cX3_chooseLast 5 = .ok (.iload_n 1, 1) := by decide +kernel
theorem dX3_chooseLast_6 : decode cX3_chooseLast 6 = .ok (.aaload, 1) := by decide +kernel
theorem dX3_chooseLast_7 : decode cX3_chooseLast 7 = .ok (.iload_n 1, 1) := by decide +kernel
theorem dX3_chooseLast_8 : decode cX3_chooseLast 8 = .ok (.invokevirtual 70, 3) := by decide +kernel
theorem dX3_chooseLast_11 : decode cX3_chooseLast 11 = .ok (.ifCond .ne 4, 3) := by decide +kernel
theorem dX3_chooseLast_14 : decode cX3_chooseLast 14 = .ok (.return_, 1) := by decide +kernel
theorem dX3_chooseLast_15 : decode cX3_chooseLast 15 = .ok (.iload_n 2, 1) := by decide +kernel
theorem dX3_chooseLast_16 : decode cX3_chooseLast 16 = .ok (.istore_n 3, 1) := by decide +kernel
theorem dX3_chooseLast_17 : decode cX3_chooseLast 17 = .ok (.iload_n 3, 1) := by decide +kernel
theorem dX3_chooseLast_18 : decode cX3_chooseLast 18 = .ok (.aload_n 0, 1) := by decide +kernel
theorem dX3_chooseLast_19 : decode cX3_chooseLast 19 = .ok (.getfield 51, 3) := by decide +kernel
theorem dX3_chooseLast_22 : decode cX3_chooseLast 22 = .ok (.if_icmp .ge 65, 3) := by decide +kernel
theorem dX3_chooseLast_25 : decode cX3_chooseLast 25 = .ok (.aload_n 0, 1) := by decide +kernel
theorem dX3_chooseLast_26 : decode cX3_chooseLast 26 = .ok (.invokevirtual 82, 3) := by decide +kernel
theorem dX3_chooseLast_29 : decode cX3_chooseLast 29 = .ok (.ifCond .ne 58, 3) := by decide +kernel
theorem dX3_chooseLast_32 : decode cX3_chooseLast 32 = .ok (.aload_n 0, 1) := by decide +kernel
theorem dX3_chooseLast_33 : decode cX3_chooseLast 33 = .ok (.iload_n 1, 1) := by decide +kernel
theorem dX3_chooseLast_34 : decode cX3_chooseLast 34 = .ok (.iload_n 3, 1) := by decide +kernel
theorem dX3_chooseLast_35 : decode cX3_chooseLast 35 = .ok (.invokevirtual 90, 3) := by decide +kernel
theorem dX3_chooseLast_38 : decode cX3_chooseLast 38 = .ok (.ifCond .eq 43, 3) := by decide +kernel
theorem dX3_chooseLast_41 : decode cX3_chooseLast 41 = .ok (.aload_n 0, 1) := by decide +kernel
theorem dX3_chooseLast_42 : decode cX3_chooseLast 42 = .ok (.getfield 32, 3) := by decide +kernel
theorem dX3_chooseLast_45 : decode cX3_chooseLast 45 = .ok (.iload_n 1, 1) := by decide +kernel
theorem dX3_chooseLast_46 : decode cX3_chooseLast 46 = .ok (.iload_n 3, 1) := by decide +kernel
theorem dX3_chooseLast_47 : decode cX3_chooseLast 47 = .ok (.iastore, 1) := by decide +kernel
theorem dX3_chooseLast_48 : decode cX3_chooseLast 48 = .ok (.aload_n 0, 1) := by decide +kernel
theorem dX3_chooseLast_49 : decode cX3_chooseLast 49 = .ok (.getfield 67, 3) := by decide +kernel
theorem dX3_chooseLast_52 : decode cX3_chooseLast 52 = .ok (.ifCond .ne 19, 3) := by decide +kernel
theorem dX3_chooseLast_55 : decode cX3_chooseLast 55 = .ok (.aload_n 0, 1) := by decide +kernel
theorem dX3_chooseLast_56 : decode cX3_chooseLast 56 = .ok (.getfield 32, 3) := by decide +kernel
theorem dX3_chooseLast_59 : decode cX3_chooseLast 59 = .ok (.iconst 0, 1) := by decide +kernel
theorem dX3_chooseLast_60 : decode cX3_chooseLast 60 = .ok (.aload_n 0, 1) := by decide +kernel
theorem dX3_chooseLast_61 : decode cX3_chooseLast 61 = .ok (.getfield 9, 3) := by decide +kernel
theorem dX3_chooseLast_64 : decode cX3_chooseLast 64 = .ok (.iconst 0, 1) := by decide +kernel
theorem dX3_chooseLast_65 : decode cX3_chooseLast 65 = .ok (.iload_n 1, 1) := by decide +kernel
theorem dX3_chooseLast_66 : decode cX3_chooseLast 66 = .ok (.iconst 1, 1) := by decide +kernel
theorem dX3_chooseLast_67 : decode cX3_chooseLast 67 = .ok (.iadd, 1) := by decide +kernel
theorem dX3_chooseLast_68 : decode cX3_chooseLast 68 = .ok (.invokestatic 93, 3) := by decide +kernel
theorem dX3_chooseLast_71 : decode cX3_chooseLast 71 = .ok (.aload_n 0, 1) := by decide +kernel
theorem dX3_chooseLast_72 : decode cX3_chooseLast 72 = .ok (.dup, 1) := by decide +kernel
theorem dX3_chooseLast_73 : decode cX3_chooseLast 73 = .ok (.getfield 67, 3) := by decide +kernel
theorem dX3_chooseLast_76 : decode cX3_chooseLast 76 = .ok (.iconst 1, 1) := by decide +kernel
theorem dX3_chooseLast_77 : decode cX3_chooseLast 77 = .ok (.iadd, 1) := by decide +kernel
theorem dX3_chooseLast_78 : decode cX3_chooseLast 78 = .ok (.putfield 67, 3) := by decide +kernel
theorem dX3_chooseLast_81 : decode cX3_chooseLast 81 = .ok (.iinc 3 1, 3) := by decide +kernel
theorem dX3_chooseLast_84 : decode cX3_chooseLast 84 = .ok (.goto (-67), 3) := by decide +kernel
theorem dX3_chooseLast_87 : decode cX3_chooseLast 87 = .ok (.return_, 1) := by decide +kernel
theorem dX3_bringForward_0 : decode cX3_bringForward 0 = .ok (.iload_n 2, 1) := by decide +kernel
theorem dX3_bringForward_1 : decode cX3_bringForward 1 = .ok (.istore_n 3, 1) := by decide +kernel
theorem dX3_bringForward_2 : decode cX3_bringForward 2 = .ok (.iload_n 3, 1) := by decide +kernel
theorem dX3_bringForward_3 : decode cX3_bringForward 3 = .ok (.aload_n 0, 1) := by decide +kernel
theorem dX3_bringForward_4 : decode cX3_bringForward 4 = .ok (.getfield 60, 3) := by decide +kernel
theorem dX3_bringForward_7 : decode cX3_bringForward 7 = .ok (.if_icmp .ge 49, 3) := by decide +kernel
theorem dX3_bringForward_10 : decode cX3_bringForward 10 = .ok (.aload_n 0, 1) := by decide +kernel
theorem dX3_bringForward_11 : decode cX3_bringForward 11 = .ok (.getfield 20, 3) := by decide +kernel
theorem dX3_bringForward_14 : decode cX3_bringForward 14 = .ok (.iload_n 3, 1) := by decide +kernel
theorem dX3_bringForward_15 : decode cX3_bringForward 15 = .ok (.iaload, 1) := by decide +kernel
theorem dX3_bringForward_16 : decode cX3_bringForward 16 = .ok (.istore 4, 2) := by decide +kernel
theorem dX3_bringForward_18 : decode cX3_bringForward 18 = .ok (.aload_n 1, 1) := by decide +kernel
theorem dX3_bringForward_19 : decode cX3_bringForward 19 = .ok (.iload 4, 2) := by decide +kernel
theorem dX3_bringForward_21 : decode cX3_bringForward 21 = .ok (.iaload, 1) := by decide +kernel
theorem dX3_bringForward_22 : decode cX3_bringForward 22 = .ok (.ifCond .eq 28, 3) := by decide +kernel
theorem dX3_bringForward_25 : decode cX3_bringForward 25 = .ok (.aload_n 0, 1) := by decide +kernel
theorem dX3_bringForward_26 : decode cX3_bringForward 26 = .ok (.getfield 20, 3) := by decide +kernel
theorem dX3_bringForward_29 : decode cX3_bringForward 29 = .ok (.iload_n 3, 1) := by decide +kernel
theorem dX3_bringForward_30 : decode cX3_bringForward 30 = .ok (.aload_n 0, 1) := by decide +kernel
theorem dX3_bringForward_31 : decode cX3_bringForward 31 = .ok (.getfield 20, 3) := by decide +kernel
theorem dX3_bringForward_34 : decode cX3_bringForward 34 = .ok (.iload_n 2, 1) := by decide +kernel
theorem dX3_bringForward_35 : decode cX3_bringForward 35 = .ok (.iaload, 1) := by decide +kernel
theorem dX3_bringForward_36 : decode cX3_bringForward 36 = .ok (.iastore, 1) := by decide +kernel
theorem dX3_bringForward_37 : decode cX3_bringForward 37 = .ok (.aload_n 0, 1) := by decide +kernel
theorem dX3_bringForward_38 : decode cX3_bringForward 38 = .ok (.getfield 20, 3) := by decide +kernel
theorem dX3_bringForward_41 : decode cX3_bringForward 41 = .ok (.iload_n 2, 1) := by decide +kernel
theorem dX3_bringForward_42 : decode cX3_bringForward 42 = .ok (.iload 4, 2) := by decide +kernel
theorem dX3_bringForward_44 : decode cX3_bringForward 44 = .ok (.iastore, 1) := by decide +kernel
theorem dX3_bringForward_45 : decode cX3_bringForward 45 = .ok (.aload_n 1, 1) := by decide +kernel
theorem dX3_bringForward_46 : decode cX3_bringForward 46 = .ok (.iload 4, 2) := by decide +kernel
theorem dX3_bringForward_48 : decode cX3_bringForward 48 = .ok (.iaload, 1) := by decide +kernel
theorem dX3_bringForward_49 : decode cX3_bringForward 49 = .ok (.ireturn, 1) := by decide +kernel
theorem dX3_bringForward_50 : decode cX3_bringForward 50 = .ok (.iinc 3 1, 3) := by decide +kernel
theorem dX3_bringForward_53 : decode cX3_bringForward 53 = .ok (.goto (-51), 3) := by decide +kernel
theorem dX3_bringForward_56 : decode cX3_bringForward 56 = .ok (.iconst 0, 1) := by decide +kernel
theorem dX3_bringForward_57 : decode cX3_bringForward 57 = .ok (.ireturn, 1) := by decide +kernel
theorem dX3_takeIntoBase_0 : decode cX3_takeIntoBase 0 = .ok (.aload_n 0, 1) := by decide +kernel
theorem dX3_takeIntoBase_1 : decode cX3_takeIntoBase 1 = .ok (.iload_n 1, 1) := by decide +kernel
theorem dX3_takeIntoBase_2 : decode cX3_takeIntoBase 2 = .ok (.iload_n 2, 1) := by decide +kernel
theorem dX3_takeIntoBase_3 : decode cX3_takeIntoBase 3 = .ok (.invokevirtual 99, 3) := by decide +kernel
theorem dX3_takeIntoBase_6 : decode cX3_takeIntoBase 6 = .ok (.iload_n 1, 1) := by decide +kernel
theorem dX3_takeIntoBase_7 : decode cX3_takeIntoBase 7 = .ok (.istore_n 3, 1) := by decide +kernel
theorem dX3_takeIntoBase_8 : decode cX3_takeIntoBase 8 = .ok (.iload_n 3, 1) := by decide +kernel
theorem dX3_takeIntoBase_9 : decode cX3_takeIntoBase 9 = .ok (.aload_n 0, 1) := by decide +kernel
theorem dX3_takeIntoBase_10 : decode cX3_takeIntoBase 10 = .ok (.getfield 60, 3) := by decide +kernel
theorem dX3_takeIntoBase_13 : decode cX3_takeIntoBase 13 = .ok (.if_icmp .ge 34, 3) := by decide +kernel
theorem dX3_takeIntoBase_16 : decode cX3_takeIntoBase 16 = .ok (.aload_n 0, 1) := by decide +kernel
theorem dX3_takeIntoBase_17 : decode cX3_takeIntoBase 17 = .ok (.getfield 23, 3) := by decide +kernel
theorem dX3_takeIntoBase_20 : decode cX3_takeIntoBase 20 = .ok (.iload_n 1, 1) := by decide +kernel
theorem dX3_takeIntoBase_21 : decode cX3_takeIntoBase 21 = .ok (.aaload, 1) := by decide +kernel
theorem dX3_takeIntoBase_22 : decode cX3_takeIntoBase 22 = .ok (.aload_n 0, 1) := by decide +kernel
theorem dX3_takeIntoBase_23 : decode cX3_takeIntoBase 23 = .ok (.getfield 20, 3) := by decide +kernel
theorem dX3_takeIntoBase_26 : decode cX3_takeIntoBase 26 = .ok (.iload_n 3, 1) := by decide +kernel
theorem dX3_takeIntoBase_27 : decode cX3_takeIntoBase 27 = .ok (.iaload, 1) := by decide +kernel
theorem dX3_takeIntoBase_28 : decode cX3_takeIntoBase 28 = .ok (.aload_n 0, 1) := by decide +kernel
theorem dX3_takeIntoBase_29 : decode cX3_takeIntoBase 29 = .ok (.iload_n 1, 1) := by decide +kernel
theorem dX3_takeIntoBase_30 : decode cX3_takeIntoBase 30 = .ok (.iload_n 2, 1) := by decide +kernel
theorem dX3_takeIntoBase_31 : decode cX3_takeIntoBase 31 = .ok (.aload_n 0, 1) := by decide +kernel
theorem dX3_takeIntoBase_32 : decode cX3_takeIntoBase 32 = .ok (.getfield 20, 3) := by decide +kernel
theorem dX3_takeIntoBase_35 : decode cX3_takeIntoBase 35 = .ok (.iload_n 3, 1) := by decide +kernel
theorem dX3_takeIntoBase_36 : decode cX3_takeIntoBase 36 = .ok (.iaload, 1) := by decide +kernel
theorem dX3_takeIntoBase_37 : decode cX3_takeIntoBase 37 = .ok (.invokevirtual 102, 3) := by decide +kernel
theorem dX3_takeIntoBase_40 : decode cX3_takeIntoBase 40 = .ok (.iastore, 1) := by decide +kernel
theorem dX3_takeIntoBase_41 : decode cX3_takeIntoBase 41 = .ok (.iinc 3 1, 3) := by decide +kernel
theorem dX3_takeIntoBase_44 : decode cX3_takeIntoBase 44 = .ok (.goto (-36), 3) := by decide +kernel
theorem dX3_takeIntoBase_47 : decode cX3_takeIntoBase 47 = .ok (.aload_n 0, 1) := by decide +kernel
theorem dX3_takeIntoBase_48 : decode cX3_takeIntoBase 48 = .ok (.aload_n 0, 1) := by decide +kernel
theorem dX3_takeIntoBase_49 : decode cX3_takeIntoBase 49 = .ok (.getfield 23, 3) := by decide +kernel
theorem dX3_takeIntoBase_52 : decode cX3_takeIntoBase 52 = .ok (.iload_n 1, 1) := by decide +kernel
theorem dX3_takeIntoBase_53 : decode cX3_takeIntoBase 53 = .ok (.aaload, 1) := by decide +kernel
theorem dX3_takeIntoBase_54 : decode cX3_takeIntoBase 54 = .ok (.iload_n 1, 1) := by decide +kernel
theorem dX3_takeIntoBase_55 : decode cX3_takeIntoBase 55 = .ok (.invokevirtual 70, 3) := by decide +kernel
theorem dX3_takeIntoBase_58 : decode cX3_takeIntoBase 58 = .ok (.istore_n 3, 1) := by decide +kernel
theorem dX3_takeIntoBase_59 : decode cX3_takeIntoBase 59 = .ok (.iload_n 3, 1) := by decide +kernel
theorem dX3_takeIntoBase_60 : decode cX3_takeIntoBase 60 = .ok (.ifCond .ne 5, 3) := by decide +kernel
theorem dX3_takeIntoBase_63 : decode cX3_takeIntoBase 63 = .ok (.iconst 0, 1) := by decide +kernel
theorem dX3_takeIntoBase_64 : decode cX3_takeIntoBase 64 = .ok (.ireturn, 1) := by decide +kernel
theorem dX3_takeIntoBase_65 : decode cX3_takeIntoBase 65 = .ok (.iload_n 3, 1) := by decide +kernel
theorem dX3_takeIntoBase_66 : decode cX3_takeIntoBase 66 = .ok (.aload_n 0, 1) := by decide +kernel
theorem dX3_takeIntoBase_67 : decode cX3_takeIntoBase 67 = .ok (.getfield 47, 3) := by decide +kernel
theorem dX3_takeIntoBase_70 : decode cX3_takeIntoBase 70 = .ok (.invokestatic 106, 3) := by decide +kernel
theorem dX3_takeIntoBase_73 : decode cX3_takeIntoBase 73 = .ok (.istore 4, 2) := by decide +kernel
theorem dX3_takeIntoBase_75 : decode cX3_takeIntoBase 75 = .ok (.aload_n 0, 1) := by decide +kernel
theorem dX3_takeIntoBase_76 : decode cX3_takeIntoBase 76 = .ok (.getfield 26, 3) := by decide +kernel
theorem dX3_takeIntoBase_79 : decode cX3_takeIntoBase 79 = .ok (.iload_n 1, 1) := by decide +kernel
theorem dX3_takeIntoBase_80 : decode cX3_takeIntoBase 80 = .ok (.aaload, 1) := by decide +kernel
theorem dX3_takeIntoBase_81 : decode cX3_takeIntoBase 81 = .ok (.aload_n 0, 1) := by decide +kernel
theorem dX3_takeIntoBase_82 : decode cX3_takeIntoBase 82 = .ok (.getfield 20, 3) := by decide +kernel
theorem dX3_takeIntoBase_85 : decode cX3_takeIntoBase 85 = .ok (.iload_n 1, 1) := by decide +kernel
theorem dX3_takeIntoBase_86 : decode cX3_takeIntoBase 86 = .ok (.iaload, 1) := by decide +kernel
theorem dX3_takeIntoBase_87 : decode cX3_takeIntoBase 87 = .ok (.iaload, 1) := by decide +kernel
theorem dX3_takeIntoBase_88 : decode cX3_takeIntoBase 88 = .ok (.istore 5, 2) := by decide +kernel
theorem dX3_takeIntoBase_90 : decode cX3_takeIntoBase 90 = .ok (.iload_n 1, 1) := by decide +kernel
theorem dX3_takeIntoBase_91 : decode cX3_takeIntoBase 91 = .ok (.istore 6, 2) := by decide +kernel
theorem dX3_takeIntoBase_93 : decode cX3_takeIntoBase 93 = .ok (.iload 6, 2) := by decide +kernel
theorem dX3_takeIntoBase_95 : decode cX3_takeIntoBase 95 = .ok (.aload_n 0, 1) := by decide +kernel
theorem dX3_takeIntoBase_96 : decode cX3_takeIntoBase 96 = .ok (.getfield 60, 3) := by decide +kernel
theorem dX3_takeIntoBase_99 : decode cX3_takeIntoBase 99 = .ok (.if_icmp .ge 90, 3) := by decide +kernel
theorem dX3_takeIntoBase_102 : decode cX3_takeIntoBase 102 = .ok (.aload_n 0, 1) := by decide +kernel
theorem dX3_takeIntoBase_103 : decode cX3_takeIntoBase 103 = .ok (.getfield 20, 3) := by decide +kernel
theorem dX3_takeIntoBase_106 : decode cX3_takeIntoBase 106 = .ok (.iload 6, 2) := by decide +kernel
theorem dX3_takeIntoBase_108 : decode cX3_takeIntoBase 108 = .ok (.iaload, 1) := by decide +kernel
theorem dX3_takeIntoBase_109 : decode cX3_takeIntoBase 109 = .ok (.istore 7, 2) := by decide +kernel
theorem dX3_takeIntoBase_111 : decode cX3_takeIntoBase 111 = .ok (.aload_n 0, 1) := by decide +kernel
theorem dX3_takeIntoBase_112 : decode cX3_takeIntoBase 112 = .ok (.getfield 23, 3) := by decide +kernel
theorem dX3_takeIntoBase_115 : decode cX3_takeIntoBase 115 = .ok (.iload_n 1, 1) := by decide +kernel
theorem dX3_takeIntoBase_116 : decode cX3_takeIntoBase 116 = .ok (.aaload, 1) := by decide +kernel
theorem dX3_takeIntoBase_117 : decode cX3_takeIntoBase 117 = .ok (.iload 7, 2) := by decide +kernel
theorem dX3_takeIntoBase_119 : decode cX3_takeIntoBase 119 = .ok (.aload_n 0, 1) := by decide +kernel
theorem dX3_takeIntoBase_120 : decode cX3_takeIntoBase 120 = .ok (.getfield 23, 3) := by decide +kernel
theorem dX3_takeIntoBase_123 : decode cX3_takeIntoBase 123 = .ok (.iload_n 1, 1) := by decide +kernel
theorem dX3_takeIntoBase_124 : decode cX3_takeIntoBase 124 = .ok (.aaload, 1) := by decide +kernel
theorem dX3_takeIntoBase_125 : decode cX3_takeIntoBase 125 = .ok (.iload 7, 2) := by decide +kernel
theorem dX3_takeIntoBase_127 : decode cX3_takeIntoBase 127 = .ok (.iaload, 1) := by decide +kernel
theorem dX3_takeIntoBase_128 : decode cX3_takeIntoBase 128 = .ok (.iload 4, 2) := by decide +kernel
theorem dX3_takeIntoBase_130 : decode cX3_takeIntoBase 130 = .ok (.aload_n 0, 1) := by decide +kernel
theorem dX3_takeIntoBase_131 : decode cX3_takeIntoBase 131 = .ok (.getfield 47, 3) := by decide +kernel
theorem dX3_takeIntoBase_134 : decode cX3_takeIntoBase 134 = .ok (.invokestatic 109, 3) := by decide +kernel
theorem dX3_takeIntoBase_137 : decode cX3_takeIntoBase 137 = .ok (.iastore, 1) := by decide +kernel
theorem dX3_takeIntoBase_138 : decode cX3_takeIntoBase 138 = .ok (.aload_n 0, 1) := by decide +kernel
theorem dX3_takeIntoBase_139 : decode cX3_takeIntoBase 139 = .ok (.getfield 26, 3) := by decide +kernel
theorem dX3_takeIntoBase_142 : decode cX3_takeIntoBase 142 = .ok (.iload_n 1, 1) := by decide +kernel
theorem dX3_takeIntoBase_143 : decode cX3_takeIntoBase 143 = .ok (.iconst 1, 1) := by decide +kernel
theorem dX3_takeIntoBase_144 : decode cX3_takeIntoBase 144 = .ok (.iadd, 1) := by decide +kernel
theorem dX3_takeIntoBase_145 : decode cX3_takeIntoBase 145 = .ok (.aaload, 1) := by decide +kernel
theorem dX3_takeIntoBase_146 : decode cX3_takeIntoBase 146 = .ok (.iload 7, 2) := by decide +kernel
theorem dX3_takeIntoBase_148 : decode cX3_takeIntoBase 148 = .ok (.aload_n 0, 1) := by decide +kernel
theorem dX3_takeIntoBase_149 : decode cX3_takeIntoBase 149 = .ok (.getfield 26, 3) := by decide +kernel
theorem dX3_takeIntoBase_152 : decode cX3_takeIntoBase 152 = .ok (.iload_n 1, 1) := by decide +kernel
theorem dX3_takeIntoBase_153 : decode cX3_takeIntoBase 153 = .ok (.aaload, 1) := by decide +kernel
theorem dX3_takeIntoBase_154 : decode cX3_takeIntoBase 154 = .ok (.iload 7, 2) := by decide +kernel
theorem dX3_takeIntoBase_156 : decode cX3_takeIntoBase 156 = .ok (.iaload, 1) := by decide +kernel
theorem dX3_takeIntoBase_157 : decode cX3_takeIntoBase 157 = .ok (.iload 5, 2) := by decide +kernel
theorem dX3_takeIntoBase_159 : decode cX3_takeIntoBase 159 = .ok (.aload_n 0, 1) := by decide +kernel
theorem dX3_takeIntoBase_160 : decode cX3_takeIntoBase 160 = .ok (.getfield 23, 3) := by decide +kernel
theorem dX3_takeIntoBase_163 : decode cX3_takeIntoBase 163 = .ok (.iload_n 1, 1) := by decide +kernel
theorem dX3_takeIntoBase_164 : decode cX3_takeIntoBase 164 = .ok (.aaload, 1) := by decide +kernel
theorem dX3_takeIntoBase_165 : decode cX3_takeIntoBase 165 = .ok (.iload 7, 2) := by decide +kernel
theorem dX3_takeIntoBase_167 : decode cX3_takeIntoBase 167 = .ok (.iaload, 1) := by decide +kernel
theorem dX3_takeIntoBase_168 : decode cX3_takeIntoBase 168 = .ok (.aload_n 0, 1) := by decide +kernel
theorem dX3_takeIntoBase_169 : decode cX3_takeIntoBase 169 = .ok (.getfield 47, 3) := by decide +kernel
theorem dX3_takeIntoBase_172 : decode cX3_takeIntoBase 172 = .ok (.invokestatic 109, 3) := by decide +kernel
theorem dX3_takeIntoBase_175 : decode cX3_takeIntoBase 175 = .ok (.aload_n 0, 1) := by decide +kernel
theorem dX3_takeIntoBase_176 : decode cX3_takeIntoBase 176 = .ok (.getfield 47, 3) := by decide +kernel
theorem dX3_takeIntoBase_179 : decode cX3_takeIntoBase 179 = .ok (.invokestatic 112, 3) := by decide +kernel
theorem dX3_takeIntoBase_182 : decode cX3_takeIntoBase 182 = .ok (.iastore, 1) := by decide +kernel
theorem dX3_takeIntoBase_183 : decode cX3_takeIntoBase 183 = .ok (.iinc 6 1, 3) := by decide +kernel
theorem dX3_takeIntoBase_186 : decode cX3_takeIntoBase 186 = .ok (.goto (-93), 3) := by decide +kernel
theorem dX3_takeIntoBase_189 : decode cX3_takeIntoBase 189 = .ok (.iconst 1, 1) := by decide +kernel
theorem dX3_takeIntoBase_190 : decode cX3_takeIntoBase 190 = .ok (.ireturn, 1) := by decide +kernel
theorem dX3_findTimes_0 : decode cX3_findTimes 0 = .ok (.iconst 0, 1) := by decide +kernel
theorem dX3_findTimes_1 : decode cX3_findTimes 1 = .ok (.istore_n 3, 1) := by decide +kernel
theorem dX3_findTimes_2 : decode cX3_findTimes 2 = .ok (.iload_n 3, 1) := by decide +kernel
theorem dX3_findTimes_3 : decode cX3_findTimes 3 = .ok (.iload_n 1, 1) := by decide +kernel
theorem dX3_findTimes_4 : decode cX3_findTimes 4 = .ok (.if_icmp .ge 27, 3) := by decide +kernel
theorem dX3_findTimes_7 : decode cX3_findTimes 7 = .ok (.aload_n 0, 1) := by decide +kernel
theorem dX3_findTimes_8 : decode cX3_findTimes 8 = .ok (.getfield 29, 3) := by decide +kernel
theorem dX3_findTimes_11 : decode cX3_findTimes 11 = .ok (.iload_n 3, 1) := by decide +kernel
theorem dX3_findTimes_12 : decode cX3_findTimes 12 = .ok (.aload_n 0, 1) := by decide +kernel
theorem dX3_findTimes_13 : decode cX3_findTimes 13 = .ok (.iload_n 3, 1) := by decide +kernel
theorem dX3_findTimes_14 : decode cX3_findTimes 14 = .ok (.iload_n 2, 1) := by decide +kernel
theorem dX3_findTimes_15 : decode cX3_findTimes 15 = .ok (.aload_n 0, 1) := by decide +kernel
theorem dX3_findTimes_16 : decode cX3_findTimes 16 = .ok (.getfield 20, 3) := by decide +kernel
theorem dX3_findTimes_19 : decode cX3_findTimes 19 = .ok (.iload_n 3, 1) := by decide +kernel
theorem dX3_findTimes_20 : decode cX3_findTimes 20 = .ok (.iaload, 1) := by decide +kernel
theorem dX3_findTimes_21 : decode cX3_findTimes 21 = .ok (.invokevirtual 102, 3) := by decide +kernel
theorem dX3_findTimes_24 : decode cX3_findTimes 24 = .ok (.iastore, 1) := by decide +kernel
theorem dX3_findTimes_25 : decode cX3_findTimes 25 = .ok (.iinc 3 1, 3) := by decide +kernel
theorem dX3_findTimes_28 : decode cX3_findTimes 28 = .ok (.goto (-26), 3) := by decide +kernel
theorem dX3_findTimes_31 : decode cX3_findTimes 31 = .ok (.return_, 1) := by decide +kernel
theorem dX3_lessBase_0 : decode cX3_lessBase 0 = .ok (.aload_n 0, 1) := by decide +kernel
theorem dX3_lessBase_1 : decode cX3_lessBase 1 = .ok (.getfield 17, 3) := by decide +kernel
theorem dX3_lessBase_4 : decode cX3_lessBase 4 = .ok (.iload_n 2, 1) := by decide +kernel
theorem dX3_lessBase_5 : decode cX3_lessBase 5 = .ok (.aaload, 1) := by decide +kernel
theorem dX3_lessBase_6 : decode cX3_lessBase 6 = .ok (.iload_n 3, 1) := by decide +kernel
theorem dX3_lessBase_7 : decode cX3_lessBase 7 = .ok (.iaload, 1) := by decide +kernel
theorem dX3_lessBase_8 : decode cX3_lessBase 8 = .ok (.istore 4, 2) := by decide +kernel
theorem dX3_lessBase_10 : decode cX3_lessBase 10 = .ok (.iconst 0, 1) := by decide +kernel
theorem dX3_lessBase_11 : decode cX3_lessBase 11 = .ok (.istore 5, 2) := by decide +kernel
theorem dX3_lessBase_13 : decode cX3_lessBase 13 = .ok (.iload 5, 2) := by decide +kernel
theorem dX3_lessBase_15 : decode cX3_lessBase 15 = .ok (.iload_n 1, 1) := by decide +kernel
theorem dX3_lessBase_16 : decode cX3_lessBase 16 = .ok (.if_icmp .ge 36, 3) := by decide +kernel
theorem dX3_lessBase_19 : decode cX3_lessBase 19 = .ok (.iload 4, 2) := by decide +kernel
theorem dX3_lessBase_21 : decode cX3_lessBase 21 = .ok (.aload_n 0, 1) := by decide +kernel
theorem dX3_lessBase_22 : decode cX3_lessBase 22 = .ok (.getfield 47, 3) := by decide +kernel
theorem dX3_lessBase_25 : decode cX3_lessBase 25 = .ok (.aload_n 0, 1) := by decide +kernel
theorem dX3_lessBase_26 : decode cX3_lessBase 26 = .ok (.getfield 29, 3) := by decide +kernel
theorem dX3_lessBase_29 : decode cX3_lessBase 29 = .ok (.iload 5, 2) := by decide +kernel
theorem dX3_lessBase_31 : decode cX3_lessBase 31 = .ok (.iaload, 1) := by decide +kernel
theorem dX3_lessBase_32 : decode cX3_lessBase 32 = .ok (.isub, 1) := by decide +kernel
theorem dX3_lessBase_33 : decode cX3_lessBase 33 = .ok (.aload_n 0, 1) := by decide +kernel
theorem dX3_lessBase_34 : decode cX3_lessBase 34 = .ok (.getfield 23, 3) := by decide +kernel
theorem dX3_lessBase_37 : decode cX3_lessBase 37 = .ok (.iload 5, 2) := by decide +kernel
theorem dX3_lessBase_39 : decode cX3_lessBase 39 = .ok (.aaload, 1) := by decide +kernel
theorem dX3_lessBase_40 : decode cX3_lessBase 40 = .ok (.iload_n 3, 1) := by decide +kernel
theorem dX3_lessBase_41 : decode cX3_lessBase 41 = .ok (.iaload, 1) := by decide +kernel
theorem dX3_lessBase_42 : decode cX3_lessBase 42 = .ok (.imul, 1) := by decide +kernel
theorem dX3_lessBase_43 : decode cX3_lessBase 43 = .ok (.iadd, 1) := by decide +kernel
theorem dX3_lessBase_44 : decode cX3_lessBase 44 = .ok (.istore 4, 2) := by decide +kernel
theorem dX3_lessBase_46 : decode cX3_lessBase 46 = .ok (.iinc 5 1, 3) := by decide +kernel
theorem dX3_lessBase_49 : decode cX3_lessBase 49 = .ok (.goto (-36), 3) := by decide +kernel
theorem dX3_lessBase_52 : decode cX3_lessBase 52 = .ok (.iload 4, 2) := by decide +kernel
theorem dX3_lessBase_54 : decode cX3_lessBase 54 = .ok (.aload_n 0, 1) := by decide +kernel
theorem dX3_lessBase_55 : decode cX3_lessBase 55 = .ok (.getfield 47, 3) := by decide +kernel
theorem dX3_lessBase_58 : decode cX3_lessBase 58 = .ok (.irem, 1) := by decide +kernel
theorem dX3_lessBase_59 : decode cX3_lessBase 59 = .ok (.ireturn, 1) := by decide +kernel
theorem dX3_makesRest_0 : decode cX3_makesRest 0 = .ok (.aload_n 0, 1) := by decide +kernel
theorem dX3_makesRest_1 : decode cX3_makesRest 1 = .ok (.iload_n 1, 1) := by decide +kernel
theorem dX3_makesRest_2 : decode cX3_makesRest 2 = .ok (.iload_n 2, 1) := by decide +kernel
theorem dX3_makesRest_3 : decode cX3_makesRest 3 = .ok (.invokevirtual 99, 3) := by decide +kernel
theorem dX3_makesRest_6 : decode cX3_makesRest 6 = .ok (.aload_n 0, 1) := by decide +kernel
theorem dX3_makesRest_7 : decode cX3_makesRest 7 = .ok (.getfield 20, 3) := by decide +kernel
theorem dX3_makesRest_10 : decode cX3_makesRest 10 = .ok (.iload_n 1, 1) := by decide +kernel
theorem dX3_makesRest_11 : decode cX3_makesRest 11 = .ok (.iaload, 1) := by decide +kernel
theorem dX3_makesRest_12 : decode cX3_makesRest 12 = .ok (.istore_n 3, 1) := by decide +kernel
theorem dX3_makesRest_13 : decode cX3_makesRest 13 = .ok (.aload_n 0, 1) := by decide +kernel
theorem dX3_makesRest_14 : decode cX3_makesRest 14 = .ok (.iload_n 1, 1) := by decide +kernel
theorem dX3_makesRest_15 : decode cX3_makesRest 15 = .ok (.iload_n 2, 1) := by decide +kernel
theorem dX3_makesRest_16 : decode cX3_makesRest 16 = .ok (.iload_n 3, 1) := by decide +kernel
theorem dX3_makesRest_17 : decode cX3_makesRest 17 = .ok (.invokevirtual 102, 3) := by decide +kernel
theorem dX3_makesRest_20 : decode cX3_makesRest 20 = .ok (.istore 4, 2) := by decide +kernel
theorem dX3_makesRest_22 : decode cX3_makesRest 22 = .ok (.iload 4, 2) := by decide +kernel
theorem dX3_makesRest_24 : decode cX3_makesRest 24 = .ok (.ifCond .ne 5, 3) := by decide +kernel
theorem dX3_makesRest_27 : decode cX3_makesRest 27 = .ok (.iconst 0, 1) := by decide +kernel
theorem dX3_makesRest_28 : decode cX3_makesRest 28 = .ok (.ireturn, 1) := by decide +kernel
theorem dX3_makesRest_29 : decode cX3_makesRest 29 = .ok (.aload_n 0, 1) := by decide +kernel
theorem dX3_makesRest_30 : decode cX3_makesRest 30 = .ok (.getfield 26, 3) := by decide +kernel
theorem dX3_makesRest_33 : decode cX3_makesRest 33 = .ok (.iload_n 1, 1) := by decide +kernel
theorem dX3_makesRest_34 : decode cX3_makesRest 34 = .ok (.aaload, 1) := by decide +kernel
theorem dX3_makesRest_35 : decode cX3_makesRest 35 = .ok (.iload_n 3, 1) := by decide +kernel
theorem dX3_makesRest_36 : decode cX3_makesRest 36 = .ok (.iaload, 1) := by decide +kernel
theorem dX3_makesRest_37 : decode cX3_makesRest 37 = .ok (.istore 5, 2) := by decide +kernel
theorem dX3_makesRest_39 : decode cX3_makesRest 39 = .ok (.iload_n 1, 1) := by decide +kernel
theorem dX3_makesRest_40 : decode cX3_makesRest 40 = .ok (.iconst 1, 1) := by decide +kernel
theorem dX3_makesRest_41 : decode cX3_makesRest 41 = .ok (.iadd, 1) := by decide +kernel
theorem dX3_makesRest_42 : decode cX3_makesRest 42 = .ok (.istore 6, 2) := by decide +kernel
theorem dX3_makesRest_44 : decode cX3_makesRest 44 = .ok (.iload 6, 2) := by decide +kernel
theorem dX3_makesRest_46 : decode cX3_makesRest 46 = .ok (.aload_n 0, 1) := by decide +kernel
theorem dX3_makesRest_47 : decode cX3_makesRest 47 = .ok (.getfield 60, 3) := by decide +kernel
theorem dX3_makesRest_50 : decode cX3_makesRest 50 = .ok (.if_icmp .ge 58, 3) := by decide +kernel
theorem dX3_makesRest_53 : decode cX3_makesRest 53 = .ok (.aload_n 0, 1) := by decide +kernel
theorem dX3_makesRest_54 : decode cX3_makesRest 54 = .ok (.getfield 20, 3) := by decide +kernel
theorem dX3_makesRest_57 : decode cX3_makesRest 57 = .ok (.iload 6, 2) := by decide +kernel
theorem dX3_makesRest_59 : decode cX3_makesRest 59 = .ok (.iaload, 1) := by decide +kernel
theorem dX3_makesRest_60 : decode cX3_makesRest 60 = .ok (.istore 7, 2) := by decide +kernel
theorem dX3_makesRest_62 : decode cX3_makesRest 62 = .ok (.aload_n 0, 1) := by decide +kernel
theorem dX3_makesRest_63 : decode cX3_makesRest 63 = .ok (.iload_n 1, 1) := by decide +kernel
theorem dX3_makesRest_64 : decode cX3_makesRest 64 = .ok (.iload_n 2, 1) := by decide +kernel
theorem dX3_makesRest_65 : decode cX3_makesRest 65 = .ok (.iload 7, 2) := by decide +kernel
theorem dX3_makesRest_67 : decode cX3_makesRest 67 = .ok (.invokevirtual 102, 3) := by decide +kernel
theorem dX3_makesRest_70 : decode cX3_makesRest 70 = .ok (.iload 5, 2) := by decide +kernel
theorem dX3_makesRest_72 : decode cX3_makesRest 72 = .ok (.aload_n 0, 1) := by decide +kernel
theorem dX3_makesRest_73 : decode cX3_makesRest 73 = .ok (.getfield 47, 3) := by decide +kernel
theorem dX3_makesRest_76 : decode cX3_makesRest 76 = .ok (.invokestatic 109, 3) := by decide +kernel
theorem dX3_makesRest_79 : decode cX3_makesRest 79 = .ok (.iload 4, 2) := by decide +kernel
theorem dX3_makesRest_81 : decode cX3_makesRest 81 = .ok (.aload_n 0, 1) := by decide +kernel
theorem dX3_makesRest_82 : decode cX3_makesRest 82 = .ok (.getfield 26, 3) := by decide +kernel
theorem dX3_makesRest_85 : decode cX3_makesRest 85 = .ok (.iload_n 1, 1) := by decide +kernel
theorem dX3_makesRest_86 : decode cX3_makesRest 86 = .ok (.aaload, 1) := by decide +kernel
theorem dX3_makesRest_87 : decode cX3_makesRest 87 = .ok (.iload 7, 2) := by decide +kernel
theorem dX3_makesRest_89 : decode cX3_makesRest 89 = .ok (.iaload, 1) := by decide +kernel
theorem dX3_makesRest_90 : decode cX3_makesRest 90 = .ok (.aload_n 0, 1) := by decide +kernel
theorem dX3_makesRest_91 : decode cX3_makesRest 91 = .ok (.getfield 47, 3) := by decide +kernel
theorem dX3_makesRest_94 : decode cX3_makesRest 94 = .ok (.invokestatic 109, 3) := by decide +kernel
theorem dX3_makesRest_97 : decode cX3_makesRest 97 = .ok (.if_icmp .eq 5, 3) := by decide +kernel
theorem dX3_makesRest_100 : decode cX3_makesRest 100 = .ok (.iconst 0, 1) := by decide +kernel
theorem dX3_makesRest_101 : decode cX3_makesRest 101 = .ok (.ireturn, 1) := by decide +kernel
theorem dX3_makesRest_102 : decode cX3_makesRest 102 = .ok (.iinc 6 1, 3) := by decide +kernel
theorem dX3_makesRest_105 : decode cX3_makesRest 105 = .ok (.goto (-61), 3) := by decide +kernel
theorem dX3_makesRest_108 : decode cX3_makesRest 108 = .ok (.iconst 1, 1) := by decide +kernel
theorem dX3_makesRest_109 : decode cX3_makesRest 109 = .ok (.ireturn, 1) := by decide +kernel
theorem dX4_init_0 : decode cX4_init 0 = .ok (.aload_n 0, 1) := by decide +kernel
theorem dX4_init_1 : decode cX4_init 1 = .ok (.invokespecial 3, 3) := by decide +kernel
theorem dX4_init_4 : decode cX4_init 4 = .ok (.aload_n 0, 1) := by decide +kernel
theorem dX4_init_5 : decode cX4_init 5 = .ok (.iconst 0, 1) := by decide +kernel
theorem dX4_init_6 : decode cX4_init 6 = .ok (.newarray .int, 2) := by decide +kernel
theorem dX4_init_8 : decode cX4_init 8 = .ok (.putfield 9, 3) := by decide +kernel
theorem dX4_init_11 : decode cX4_init 11 = .ok (.aload_n 0, 1) := by decide +kernel
theorem dX4_init_12 : decode cX4_init 12 = .ok (.bipush 6, 2) := by decide +kernel
theorem dX4_init_14 : decode cX4_init 14 = .ok (.newarray .long, 2) := by decide +kernel
theorem dX4_init_16 : decode cX4_init 16 = .ok (.putfield 15, 3) := by decide +kernel
theorem dX4_init_19 : decode cX4_init 19 = .ok (.aload_n 0, 1) := by decide +kernel
theorem dX4_init_20 : decode cX4_init 20 = .ok (.iconst 4, 1) := by decide +kernel
theorem dX4_init_21 : decode cX4_init 21 = .ok (.newarray .long, 2) := by decide +kernel
theorem dX4_init_23 : decode cX4_init 23 = .ok (.putfield 19, 3) := by decide +kernel
theorem dX4_init_26 : decode cX4_init 26 = .ok (.return_, 1) := by decide +kernel
theorem dX4_readInto_0 : decode cX4_readInto 0 = .ok (.aload_n 0, 1) := by decide +kernel
theorem dX4_readInto_1 : decode cX4_readInto 1 = .ok (.aload_n 2, 1) := by decide +kernel
theorem dX4_readInto_2 : decode cX4_readInto 2 = .ok (.getfield 22, 3) := by decide +kernel
theorem dX4_readInto_5 : decode cX4_readInto 5 = .ok (.putfield 9, 3) := by decide +kernel
theorem dX4_readInto_8 : decode cX4_readInto 8 = .ok (.aload_n 0, 1) := by decide +kernel
theorem dX4_readInto_9 : decode cX4_readInto 9 = .ok (.aload_n 2, 1) := by decide +kernel
theorem dX4_readInto_10 : decode cX4_readInto 10 = .ok (.getfield 25, 3) := by decide +kernel
theorem dX4_readInto_13 : decode cX4_readInto 13 = .ok (.putfield 29, 3) := by decide +kernel
theorem dX4_readInto_16 : decode cX4_readInto 16 = .ok (.aload_n 1, 1) := by decide +kernel
theorem dX4_readInto_17 : decode cX4_readInto 17 = .ok (.invokevirtual 30, 3) := by decide +kernel
theorem dX4_readInto_20 : decode cX4_readInto 20 = .ok (.aload_n 0, 1) := by decide +kernel
theorem dX4_readInto_21 : decode cX4_readInto 21 = .ok (.iconst 0, 1) := by decide +kernel
theorem dX4_readInto_22 : decode cX4_readInto 22 = .ok (.putfield 35, 3) := by decide +kernel
theorem dX4_readInto_25 : decode cX4_readInto 25 = .ok (.aload_n 0, 1) := by decide +kernel
theorem dX4_readInto_26 : decode cX4_readInto 26 = .ok (.bipush 12, 2) := by decide +kernel
theorem dX4_readInto_28 : decode cX4_readInto 28 = .ok (.putfield 38, 3) := by decide +kernel
theorem dX4_readInto_31 : decode cX4_readInto 31 = .ok (.aload_n 0, 1) := by decide +kernel
theorem dX4_readInto_32 : decode cX4_readInto 32 = .ok (.iconst 0, 1) := by decide +kernel
theorem dX4_readInto_33 : decode cX4_readInto 33 = .ok (.putfield 41, 3) := by decide +kernel
theorem dX4_readInto_36 : decode cX4_readInto 36 = .ok (.aload_n 0, 1) := by decide +kernel
theorem dX4_readInto_37 : decode cX4_readInto 37 = .ok (.iconst 0, 1) := by decide +kernel
theorem dX4_readInto_38 : decode cX4_readInto 38 = .ok (.putfield 45, 3) := by decide +kernel
theorem dX4_readInto_41 : decode cX4_readInto 41 = .ok (.aload_n 0, 1) := by decide +kernel
theorem dX4_readInto_42 : decode cX4_readInto 42 = .ok (.invokevirtual 48, 3) := by decide +kernel
theorem dX4_readInto_45 : decode cX4_readInto 45 = .ok (.iconst 0, 1) := by decide +kernel
theorem dX4_readInto_46 : decode cX4_readInto 46 = .ok (.istore_n 3, 1) := by decide +kernel
theorem dX4_readInto_47 : decode cX4_readInto 47 = .ok (.iload_n 3, 1) := by decide +kernel
theorem dX4_readInto_48 : decode cX4_readInto 48 = .ok (.sipush 900, 3) := by decide +kernel
theorem dX4_readInto_51 : decode cX4_readInto 51 = .ok (.if_icmp .gt 47, 3) := by decide +kernel
theorem dX4_readInto_54 : decode cX4_readInto 54 = .ok (.aload_n 0, 1) := by decide +kernel
theorem dX4_readInto_55 : decode cX4_readInto 55 = .ok (.getfield 51, 3) := by decide +kernel
theorem dX4_readInto_58 : decode cX4_readInto 58 = .ok (.ifCond .ne 17, 3) := by decide +kernel
theorem dX4_readInto_61 : decode cX4_readInto 61 = .ok (.aload_n 0, 1) := by decide +kernel
theorem dX4_readInto_62 : decode cX4_readInto 62 = .ok (.aload_n 1, 1) := by decide +kernel
theorem dX4_readInto_63 : decode cX4_readInto 63 = .ok (.invokevirtual 54, 3) := by decide +kernel
theorem dX4_readInto_66 : decode cX4_readInto 66 = .ok (.ifCond .eq 7, 3) := by decide +kernel
theorem dX4_readInto_69 : decode cX4_readInto 69 = .ok (.iload_n 3, 1) := by decide +kernel
theorem dX4_readInto_70 : decode cX4_readInto 70 = .ok (.goto 4, 3) := by decide +kernel
theorem dX4_readInto_73 : decode cX4_readInto 73 = .ok (.iconst (-1), 1) := by decide +kernel
theorem dX4_readInto_74 : decode cX4_readInto 74 = .ok (.ireturn, 1) := by decide +kernel
theorem dX4_readInto_75 : decode cX4_readInto 75 = .ok (.aload_n 0, 1) := by decide +kernel
theorem dX4_readInto_76 : decode cX4_readInto 76 = .ok (.aload_n 1, 1) := by decide +kernel
theorem dX4_readInto_77 : decode cX4_readInto 77 = .ok (.invokevirtual 58, 3) := by decide +kernel
theorem dX4_readInto_80 : decode cX4_readInto 80 = .ok (.ifCond .eq 10, 3) := by decide +kernel
theorem dX4_readInto_83 : decode cX4_readInto 83 = .ok (.aload_n 0, 1) := by decide +kernel
theorem dX4_readInto_84 : decode cX4_readInto 84 = .ok (.invokevirtual 61, 3) := by decide +kernel
theorem dX4_readInto_87 : decode cX4_readInto 87 = .ok (.ifCond .ne 5, 3) := by decide +kernel
theorem dX4_readInto_90 : decode cX4_readInto 90 = .ok (.iconst (-1), 1) := by decide +kernel
theorem dX4_readInto_91 : decode cX4_readInto 91 = .ok (.ireturn, 1) := by decide +kernel
theorem dX4_readInto_92 : decode cX4_readInto 92 = .ok (.iinc 3 1, 3) := by decide +kernel
theorem dX4_readInto_95 : decode cX4_readInto 95 = .ok (.goto (-48), 3) := by decide +kernel
theorem dX4_readInto_98 : decode cX4_readInto 98 = .ok (.iconst (-1), 1) := by decide +kernel
theorem dX4_readInto_99 : decode cX4_readInto 99 = .ok (.ireturn, 1) := by decide +kernel
theorem dX4_readToEnd_0 : decode cX4_readToEnd 0 = .ok (.aload_n 0, 1) := by decide +kernel
theorem dX4_readToEnd_1 : decode cX4_readToEnd 1 = .ok (.getfield 29, 3) := by decide +kernel
theorem dX4_readToEnd_4 : decode cX4_readToEnd 4 = .ok (.sipush 900, 3) := by decide +kernel
theorem dX4_readToEnd_7 : decode cX4_readToEnd 7 = .ok (.if_icmp .le 9, 3) := by decide +kernel
theorem dX4_readToEnd_10 : decode cX4_readToEnd 10 = .ok (.aload_n 0, 1) := by decide +kernel
theorem dX4_readToEnd_11 : decode cX4_readToEnd 11 = .ok (.iconst 1, 1) := by decide +kernel
theorem dX4_readToEnd_12 : decode cX4_readToEnd 12 = .ok (.invokevirtual 65, 3) := by decide +kernel
theorem dX4_readToEnd_15 : decode cX4_readToEnd 15 = .ok (.ireturn, 1) := by decide +kernel
theorem dX4_readToEnd_16 : decode cX4_readToEnd 16 = .ok (.aload_n 1, 1) := by decide +kernel
theorem dX4_readToEnd_17 : decode cX4_readToEnd 17 = .ok (.getfield 69, 3) := by decide +kernel
theorem dX4_readToEnd_20 : decode cX4_readToEnd 20 = .ok (.aload_n 0, 1) := by decide +kernel
theorem dX4_readToEnd_21 : decode cX4_readToEnd 21 = .ok (.getfield 38, 3) := by decide +kernel
theorem dX4_readToEnd_24 : decode cX4_readToEnd 24 = .ok (.invokevirtual 73, 3) := by decide +kernel
theorem dX4_readToEnd_27 : decode cX4_readToEnd 27 = .ok (.iconst 1, 1) := by decide +kernel
theorem dX4_readToEnd_28 : decode cX4_readToEnd 28 = .ok (.ireturn, 1) := by decide +kernel
theorem dX4_readLine_0 : decode cX4_readLine 0 = .ok (.aload_n 0, 1) := by decide +kernel
theorem dX4_readLine_1 : decode cX4_readLine 1 = .ok (.getfield 51, 3) := by decide +kernel
theorem dX4_readLine_4 : decode cX4_readLine 4 = .ok (.iconst 2, 1) := by decide +kernel
theorem dX4_readLine_5 : decode cX4_readLine 5 = .ok (.if_icmp .eq 9, 3) := by decide +kernel
theorem dX4_readLine_8 : decode cX4_readLine 8 = .ok (.aload_n 0, 1) := by decide +kernel
theorem dX4_readLine_9 : decode cX4_readLine 9 = .ok (.iconst 1, 1) := by decide +kernel
theorem dX4_readLine_10 : decode cX4_readLine 10 = .ok (.invokevirtual 65, 3) := by decide +kernel
theorem dX4_readLine_13 : decode cX4_readLine 13 = .ok (.ireturn, 1) := by decide +kernel
theorem dX4_readLine_14 : decode cX4_readLine 14 = .ok (.aload_n 0, 1) := by decide +kernel
theorem dX4_readLine_15 : decode cX4_readLine 15 = .ok (.getfield 79, 3) := by decide +kernel
theorem dX4_readLine_18 : decode cX4_readLine 18 = .ok (.ldc2_w 83, 3) := by decide +kernel
theorem dX4_readLine_21 : decode cX4_readLine 21 = .ok (.lcmp, 1) := by decide +kernel
theorem dX4_readLine_22 : decode cX4_readLine 22 = .ok (.ifCond .ne 9, 3) := by decide +kernel
theorem dX4_readLine_25 : decode cX4_readLine 25 = .ok (.aload_n 0, 1) := by decide +kernel
theorem dX4_readLine_26 : decode cX4_readLine 26 = .ok (.aload_n 1, 1) := by decide +kernel
theorem dX4_readLine_27 : decode cX4_readLine 27 = .ok (.invokevirtual 85, 3) := by decide +kernel
theorem dX4_readLine_30 : decode cX4_readLine 30 = .ok (.ireturn, 1) := by decide +kernel
theorem dX4_readLine_31 : decode cX4_readLine 31 = .ok (.aload_n 0, 1) := by decide +kernel
theorem dX4_readLine_32 : decode cX4_readLine 32 = .ok (.getfield 79, 3) := by decide +kernel
theorem dX4_readLine_35 : decode cX4_readLine 35 = .ok (.ldc2_w 88, 3) := by decide +kernel
theorem dX4_readLine_38 : decode cX4_readLine 38 = .ok (.lcmp, 1) := by decide +kernel
theorem dX4_readLine_39 : decode cX4_readLine 39 = .ok (.ifCond .ne 9, 3) := by decide +kernel
theorem dX4_readLine_42 : decode cX4_readLine 42 = .ok (.aload_n 0, 1) := by decide +kernel
theorem dX4_readLine_43 : decode cX4_readLine 43 = .ok (.aload_n 1, 1) := by decide +kernel
theorem dX4_readLine_44 : decode cX4_readLine 44 = .ok (.invokevirtual 90, 3) := by decide +kernel
theorem dX4_readLine_47 : decode cX4_readLine 47 = .ok (.ireturn, 1) := by decide +kernel
theorem dX4_readLine_48 : decode cX4_readLine 48 = .ok (.aload_n 0, 1) := by decide +kernel
theorem dX4_readLine_49 : decode cX4_readLine 49 = .ok (.getfield 79, 3) := by decide +kernel
theorem dX4_readLine_52 : decode cX4_readLine 52 = .ok (.ldc2_w 93, 3) := by decide +kernel
theorem dX4_readLine_55 : decode cX4_readLine 55 = .ok (.lcmp, 1) := by decide +kernel
theorem dX4_readLine_56 : decode cX4_readLine 56 = .ok (.ifCond .ne 9, 3) := by decide +kernel
theorem dX4_readLine_59 : decode cX4_readLine 59 = .ok (.aload_n 0, 1) := by decide +kernel
theorem dX4_readLine_60 : decode cX4_readLine 60 = .ok (.aload_n 1, 1) := by decide +kernel
theorem dX4_readLine_61 : decode cX4_readLine 61 = .ok (.invokevirtual 95, 3) := by decide +kernel
theorem dX4_readLine_64 : decode cX4_readLine 64 = .ok (.ireturn, 1) := by decide +kernel
theorem dX4_readLine_65 : decode cX4_readLine 65 = .ok (.aload_n 0, 1) := by decide +kernel
theorem dX4_readLine_66 : decode cX4_readLine 66 = .ok (.getfield 79, 3) := by decide +kernel
theorem dX4_readLine_69 : decode cX4_readLine 69 = .ok (.ldc2_w 98, 3) := by decide +kernel
theorem dX4_readLine_72 : decode cX4_readLine 72 = .ok (.lcmp, 1) := by decide +kernel
theorem dX4_readLine_73 : decode cX4_readLine 73 = .ok (.ifCond .ne 16, 3) := by decide +kernel
theorem dX4_readLine_76 : decode cX4_readLine 76 = .ok (.aload_n 0, 1) := by decide +kernel
theorem dX4_readLine_77 : decode cX4_readLine 77 = .ok (.aload_n 1, 1) := by decide +kernel
theorem dX4_readLine_78 : decode cX4_readLine 78 = .ok (.getfield 100, 3) := by decide +kernel
theorem dX4_readLine_81 : decode cX4_readLine 81 = .ok (.aload_n 1, 1) := by decide +kernel
theorem dX4_readLine_82 : decode cX4_readLine 82 = .ok (.getfield 104, 3) := by decide +kernel
theorem dX4_readLine_85 : decode cX4_readLine 85 = .ok (.invokevirtual 107, 3) := by decide +kernel
theorem dX4_readLine_88 : decode cX4_readLine 88 = .ok (.ireturn, 1) := by decide +kernel
theorem dX4_readLine_89 : decode cX4_readLine 89 = .ok (.aload_n 0, 1) := by decide +kernel
theorem dX4_readLine_90 : decode cX4_readLine 90 = .ok (.getfield 79, 3) := by decide +kernel
theorem dX4_readLine_93 : decode cX4_readLine 93 = .ok (.ldc2_w 111, 3) := by decide +kernel
theorem dX4_readLine_96 : decode cX4_readLine 96 = .ok (.lcmp, 1) := by decide +kernel
theorem dX4_readLine_97 : decode cX4_readLine 97 = .ok (.ifCond .ne 12, 3) := by decide +kernel
theorem dX4_readLine_100 : decode cX4_readLine 100 = .ok (.aload_n 0, 1) := by decide +kernel
theorem dX4_readLine_101 : decode cX4_readLine 101 = .ok (.aload_n 1, 1) := by decide +kernel
theorem dX4_readLine_102 : decode cX4_readLine 102 = .ok (.getfield 100, 3) := by decide +kernel
theorem dX4_readLine_105 : decode cX4_readLine 105 = .ok (.invokevirtual 113, 3) := by decide +kernel
theorem dX4_readLine_108 : decode cX4_readLine 108 = .ok (.ireturn, 1) := by decide +kernel
theorem dX4_readLine_109 : decode cX4_readLine 109 = .ok (.aload_n 0, 1) := by decide +kernel
theorem dX4_readLine_110 : decode cX4_readLine 110 = .ok (.iconst 1, 1) := by decide +kernel
theorem dX4_readLine_111 : decode cX4_readLine 111 = .ok (.invokevirtual 65, 3) := by decide +kernel
theorem dX4_readLine_114 : decode cX4_readLine 114 = .ok (.ireturn, 1) := by decide +kernel
theorem dX4_readLattice_0 : decode cX4_readLattice 0 = .ok (.aload_n 0, 1) := by decide +kernel
theorem dX4_readLattice_1 : decode cX4_readLattice 1 = .ok (.getfield 41, 3) := by decide +kernel
theorem dX4_readLattice_4 : decode cX4_readLattice 4 = .ok (.ifCond .ne 10, 3) := by decide +kernel
theorem dX4_readLattice_7 : decode cX4_readLattice 7 = .ok (.aload_n 1, 1) := by decide +kernel
theorem dX4_readLattice_8 : decode cX4_readLattice 8 = .ok (.getfield 104, 3) := by decide +kernel
theorem dX4_readLattice_11 : decode cX4_readLattice 11 = .ok (.ifCond .le 9, 3) := by decide +kernel
theorem dX4_readLattice_14 : decode cX4_readLattice 14 = .ok (.aload_n 0, 1) := by decide +kernel
theorem dX4_readLattice_15 : decode cX4_readLattice 15 = .ok (.iconst 3, 1) := by decide +kernel
theorem dX4_readLattice_16 : decode cX4_readLattice 16 = .ok (.invokevirtual 65, 3) := by decide +kernel
theorem dX4_readLattice_19 : decode cX4_readLattice 19 = .ok (.ireturn, 1) := by decide +kernel
theorem dX4_readLattice_20 : decode cX4_readLattice 20 = .ok (.aload_n 0, 1) := by decide +kernel
theorem dX4_readLattice_21 : decode cX4_readLattice 21 = .ok (.invokevirtual 48, 3) := by decide +kernel
theorem dX4_readLattice_24 : decode cX4_readLattice 24 = .ok (.aload_n 0, 1) := by decide +kernel
theorem dX4_readLattice_25 : decode cX4_readLattice 25 = .ok (.iconst 2, 1) := by decide +kernel
theorem dX4_readLattice_26 : decode cX4_readLattice 26 = .ok (.bipush 60, 2) := by decide +kernel
theorem dX4_readLattice_28 : decode cX4_readLattice 28 = .ok (.invokevirtual 117, 3) := by decide +kernel
theorem dX4_readLattice_31 : decode cX4_readLattice 31 = .ok (.ifCond .ne 5, 3) := by decide +kernel
theorem dX4_readLattice_34 : decode cX4_readLattice 34 = .ok (.iconst 0, 1) := by decide +kernel
theorem dX4_readLattice_35 : decode cX4_readLattice 35 = .ok (.ireturn, 1) := by decide +kernel
theorem dX4_readLattice_36 : decode cX4_readLattice 36 = .ok (.aload_n 0, 1) := by decide +kernel
theorem dX4_readLattice_37 : decode cX4_readLattice 37 = .ok (.aload_n 0, 1) := by decide +kernel
theorem dX4_readLattice_38 : decode cX4_readLattice 38 = .ok (.getfield 121, 3) := by decide +kernel
theorem dX4_readLattice_41 : decode cX4_readLattice 41 = .ok (.putfield 38, 3) := by decide +kernel
theorem dX4_readLattice_44 : decode cX4_readLattice 44 = .ok (.aload_n 0, 1) := by decide +kernel
theorem dX4_readLattice_45 : decode cX4_readLattice 45 = .ok (.iconst 1, 1) := by decide +kernel
theorem dX4_readLattice_46 : decode cX4_readLattice 46 = .ok (.putfield 41, 3) := by decide +kernel
theorem dX4_readLattice_49 : decode cX4_readLattice 49 = .ok (.aload_n 0, 1) := by decide +kernel
theorem dX4_readLattice_50 : decode cX4_readLattice 50 = .ok (.invokevirtual 48, 3) := by decide +kernel
theorem dX4_readLattice_53 : decode cX4_readLattice 53 = .ok (.iconst 1, 1) := by decide +kernel
theorem dX4_readLattice_54 : decode cX4_readLattice 54 = .ok (.ireturn, 1) := by decide +kernel
theorem dX4_readHearer_0 : decode cX4_readHearer 0 = .ok (.aload_n 1, 1) := by decide +kernel
theorem dX4_readHearer_1 : decode cX4_readHearer 1 = .ok (.getfield 124, 3) := by decide +kernel
theorem dX4_readHearer_4 : decode cX4_readHearer 4 = .ok (.bipush 10, 2) := by decide +kernel
theorem dX4_readHearer_6 : decode cX4_readHearer 6 = .ok (.if_icmp .lt 9, 3) := by decide +kernel
theorem dX4_readHearer_9 : decode cX4_readHearer 9 = .ok (.aload_n 0, 1) := by decide +kernel
theorem dX4_readHearer_10 : decode cX4_readHearer 10 = .ok (.iconst 4, 1) := by decide +kernel
theorem dX4_readHearer_11 : decode cX4_readHearer 11 = .ok (.invokevirtual 65, 3) := by decide +kernel
theorem dX4_readHearer_14 : decode cX4_readHearer 14 = .ok (.ireturn, 1) := by decide +kernel
theorem dX4_readHearer_15 : decode cX4_readHearer 15 = .ok (.aload_n 0, 1) := by decide +kernel
theorem dX4_readHearer_16 : decode cX4_readHearer 16 = .ok (.invokevirtual 48, 3) := by decide +kernel
theorem dX4_readHearer_19 : decode cX4_readHearer 19 = .ok (.aload_n 0, 1) := by decide +kernel
theorem dX4_readHearer_20 : decode cX4_readHearer 20 = .ok (.iconst 0, 1) := by decide +kernel
theorem dX4_readHearer_21 : decode cX4_readHearer 21 = .ok (.bipush 99, 2) := by decide +kernel
theorem dX4_readHearer_23 : decode cX4_readHearer 23 = .ok (.invokevirtual 117, 3) := by decide +kernel
theorem dX4_readHearer_26 : decode cX4_readHearer 26 = .ok (.ifCond .ne 5, 3) := by decide +kernel
theorem dX4_readHearer_29 : decode cX4_readHearer 29 = .ok (.iconst 0, 1) := by decide +kernel
theorem dX4_readHearer_30 : decode cX4_readHearer 30 = .ok (.ireturn, 1) := by decide +kernel
theorem dX4_readHearer_31 : decode cX4_readHearer 31 = .ok (.aload_n 1, 1) := by decide +kernel
theorem dX4_readHearer_32 : decode cX4_readHearer 32 = .ok (.aload_n 0, 1) := by decide +kernel
theorem dX4_readHearer_33 : decode cX4_readHearer 33 = .ok (.getfield 121, 3) := by decide +kernel
theorem dX4_readHearer_36 : decode cX4_readHearer 36 = .ok (.invokevirtual 127, 3) := by decide +kernel
theorem dX4_readHearer_39 : decode cX4_readHearer 39 = .ok (.ifCond .eq 9, 3) := by decide +kernel
theorem dX4_readHearer_42 : decode cX4_readHearer 42 = .ok (.aload_n 0, 1) := by decide +kernel
theorem dX4_readHearer_43 : decode cX4_readHearer 43 = .ok (.iconst 3, 1) := by decide +kernel
theorem dX4_readHearer_44 : decode cX4_readHearer 44 = .ok (.invokevirtual 65, 3) := by decide +kernel
theorem dX4_readHearer_47 : decode cX4_readHearer 47 = .ok (.ireturn, 1) := by decide +kernel
theorem dX4_readHearer_48 : decode cX4_readHearer 48 = .ok (.aload_n 0, 1) := by decide +kernel
theorem dX4_readHearer_49 : decode cX4_readHearer 49 = .ok (.getfield 121, 3) := by decide +kernel
theorem dX4_readHearer_52 : decode cX4_readHearer 52 = .ok (.istore_n 2, 1) := by decide +kernel
theorem dX4_readHearer_53 : decode cX4_readHearer 53 = .ok (.iconst 1, 1) := by decide +kernel
theorem dX4_readHearer_54 : decode cX4_readHearer 54 = .ok (.istore_n 3, 1) := by decide +kernel
theorem dX4_readHearer_55 : decode cX4_readHearer 55 = .ok (.aload_n 0, 1) := by decide +kernel
theorem dX4_readHearer_56 : decode cX4_readHearer 56 = .ok (.invokevirtual 48, 3) := by decide +kernel
theorem dX4_readHearer_59 : decode cX4_readHearer 59 = .ok (.aload_n 0, 1) := by decide +kernel
theorem dX4_readHearer_60 : decode cX4_readHearer 60 = .ok (.ldc2_w 130, 3) := by decide +kernel
theorem dX4_readHearer_63 : decode cX4_readHearer 63 = .ok (.invokevirtual 132, 3) := by decide +kernel
theorem dX4_readHearer_66 : decode cX4_readHearer 66 = .ok (.ifCond .eq 29, 3) := by decide +kernel
theorem dX4_readHearer_69 : decode cX4_readHearer 69 = .ok (.aload_n 0, 1) := by decide +kernel
theorem dX4_readHearer_70 : decode cX4_readHearer 70 = .ok (.invokevirtual 48, 3) := by decide +kernel
theorem dX4_readHearer_73 : decode cX4_readHearer 73 = .ok (.aload_n 0, 1) := by decide +kernel
theorem dX4_readHearer_74 : decode cX4_readHearer 74 = .ok (.iconst 1, 1) := by decide +kernel
theorem dX4_readHearer_75 : decode cX4_readHearer 75 = .ok (.sipush 999, 3) := by decide +kernel
theorem dX4_readHearer_78 : decode cX4_readHearer 78 = .ok (.invokevirtual 117, 3) := by decide +kernel
theorem dX4_readHearer_81 : decode cX4_readHearer 81 = .ok (.ifCond .ne 5, 3) := by decide +kernel
theorem dX4_readHearer_84 : decode cX4_readHearer 84 = .ok (.iconst 0, 1) := by decide +kernel
theorem dX4_readHearer_85 : decode cX4_readHearer 85 = .ok (.ireturn, 1) := by decide +kernel
theorem dX4_readHearer_86 : decode cX4_readHearer 86 = .ok (.aload_n 0, 1) := by decide +kernel
theorem dX4_readHearer_87 : decode cX4_readHearer 87 = .ok (.getfield 121, 3) := by decide +kernel
theorem dX4_readHearer_90 : decode cX4_readHearer 90 = .ok (.istore_n 3, 1) := by decide +kernel
theorem dX4_readHearer_91 : decode cX4_readHearer 91 = .ok (.aload_n 0, 1) := by decide +kernel
theorem dX4_readHearer_92 : decode cX4_readHearer 92 = .ok (.invokevirtual 48, 3) := by decide +kernel
theorem dX4_readHearer_95 : decode cX4_readHearer 95 = .ok (.aload_n 1, 1) := by decide +kernel
theorem dX4_readHearer_96 : decode cX4_readHearer 96 = .ok (.iload_n 2, 1) := by decide +kernel
theorem dX4_readHearer_97 : decode cX4_readHearer 97 = .ok (.iload_n 3, 1) := by decide +kernel
theorem dX4_readHearer_98 : decode cX4_readHearer 98 = .ok (.invokevirtual 136, 3) := by decide +kernel
theorem dX4_readHearer_101 : decode cX4_readHearer 101 = .ok (.iconst 1, 1) := by decide +kernel
theorem dX4_readHearer_102 : decode cX4_readHearer 102 = .ok (.ireturn, 1) := by decide +kernel
theorem dX4_readSender_0 : decode cX4_readSender 0 = .ok (.aload_n 1, 1) := by decide +kernel
theorem dX4_readSender_1 : decode cX4_readSender 1 = .ok (.getfield 104, 3) := by decide +kernel
theorem dX4_readSender_4 : decode cX4_readSender 4 = .ok (.bipush 6, 2) := by decide +kernel
theorem dX4_readSender_6 : decode cX4_readSender 6 = .ok (.if_icmp .lt 9, 3) := by decide +kernel
theorem dX4_readSender_9 : decode cX4_readSender 9 = .ok (.aload_n 0, 1) := by decide +kernel
theorem dX4_readSender_10 : decode cX4_readSender 10 = .ok (.iconst 4, 1) := by decide +kernel
theorem dX4_readSender_11 : decode cX4_readSender 11 = .ok (.invokevirtual 65, 3) := by decide +kernel
theorem dX4_readSender_14 : decode cX4_readSender 14 = .ok (.ireturn, 1) := by decide +kernel
theorem dX4_readSender_15 : decode cX4_readSender 15 = .ok (.aload_n 0, 1) := by decide +kernel
theorem dX4_readSender_16 : decode cX4_readSender 16 = .ok (.invokevirtual 48, 3) := by decide +kernel
theorem dX4_readSender_19 : decode cX4_readSender 19 = .ok (.aload_n 0, 1) := by decide +kernel
theorem dX4_readSender_20 : decode cX4_readSender 20 = .ok (.aload_n 1, 1) := by decide +kernel
theorem dX4_readSender_21 : decode cX4_readSender 21 = .ok (.getfield 104, 3) := by decide +kernel
theorem dX4_readSender_24 : decode cX4_readSender 24 = .ok (.aload_n 1, 1) := by decide +kernel
theorem dX4_readSender_25 : decode cX4_readSender 25 = .ok (.getfield 100, 3) := by decide +kernel
theorem dX4_readSender_28 : decode cX4_readSender 28 = .ok (.getfield 140, 3) := by decide +kernel
theorem dX4_readSender_31 : decode cX4_readSender 31 = .ok (.invokevirtual 145, 3) := by decide +kernel
theorem dX4_readSender_34 : decode cX4_readSender 34 = .ok (.ifCond .ne 5, 3) := by decide +kernel
theorem dX4_readSender_37 : decode cX4_readSender 37 = .ok (.iconst 0, 1) := by decide +kernel
theorem dX4_readSender_38 : decode cX4_readSender 38 = .ok (.ireturn, 1) := by decide +kernel
theorem dX4_readSender_39 : decode cX4_readSender 39 = .ok (.aload_n 0, 1) := by decide +kernel
theorem dX4_readSender_40 : decode cX4_readSender 40 = .ok (.getfield 15, 3) := by decide +kernel
theorem dX4_readSender_43 : decode cX4_readSender 43 = .ok (.aload_n 1, 1) := by decide +kernel
theorem dX4_readSender_44 : decode cX4_readSender 44 = .ok (.getfield 104, 3) := by decide +kernel
theorem dX4_readSender_47 : decode cX4_readSender 47 = .ok (.aload_n 0, 1) := by decide +kernel
theorem dX4_readSender_48 : decode cX4_readSender 48 = .ok (.getfield 79, 3) := by decide +kernel
theorem dX4_readSender_51 : decode cX4_readSender 51 = .ok (.lastore, 1) := by decide +kernel
theorem dX4_readSender_52 : decode cX4_readSender 52 = .ok (.aload_n 0, 1) := by decide +kernel
theorem dX4_readSender_53 : decode cX4_readSender 53 = .ok (.invokevirtual 48, 3) := by decide +kernel
theorem dX4_readSender_56 : decode cX4_readSender 56 = .ok (.aload_n 0, 1) := by decide +kernel
theorem dX4_readSender_57 : decode cX4_readSender 57 = .ok (.iconst 0, 1) := by decide +kernel
theorem dX4_readSender_58 : decode cX4_readSender 58 = .ok (.aload_n 0, 1) := by decide +kernel
theorem dX4_readSender_59 : decode cX4_readSender 59 = .ok (.getfield 38, 3) := by decide +kernel
theorem dX4_readSender_62 : decode cX4_readSender 62 = .ok (.iconst 1, 1) := by decide +kernel
theorem dX4_readSender_63 : decode cX4_readSender 63 = .ok (.isub, 1) := by decide +kernel
theorem dX4_readSender_64 : decode cX4_readSender 64 = .ok (.invokevirtual 117, 3) := by decide +kernel
theorem dX4_readSender_67 : decode cX4_readSender 67 = .ok (.ifCond .ne 5, 3) := by decide +kernel
theorem dX4_readSender_70 : decode cX4_readSender 70 = .ok (.iconst 0, 1) := by decide +kernel
theorem dX4_readSender_71 : decode cX4_readSender 71 = .ok (.ireturn, 1) := by decide +kernel
theorem dX4_readSender_72 : decode cX4_readSender 72 = .ok (.aload_n 0, 1) := by decide +kernel
theorem dX4_readSender_73 : decode cX4_readSender 73 = .ok (.getfield 121, 3) := by decide +kernel
theorem dX4_readSender_76 : decode cX4_readSender 76 = .ok (.istore_n 2, 1) := by decide +kernel
theorem dX4_readSender_77 : decode cX4_readSender 77 = .ok (.aload_n 0, 1) := by decide +kernel
theorem dX4_readSender_78 : decode cX4_readSender 78 = .ok (.invokevirtual 48, 3) := by decide +kernel
theorem dX4_readSender_81 : decode cX4_readSender 81 = .ok (.aload_n 0, 1) := by decide +kernel
theorem dX4_readSender_82 : decode cX4_readSender 82 = .ok (.iconst 1, 1) := by decide +kernel
theorem dX4_readSender_83 : decode cX4_readSender 83 = .ok (.sipush 999, 3) := by decide +kernel
theorem dX4_readSender_86 : decode cX4_readSender 86 = .ok (.invokevirtual 117, 3) := by decide +kernel
theorem dX4_readSender_89 : decode cX4_readSender 89 = .ok (.ifCond .ne 5, 3) := by decide +kernel
theorem dX4_readSender_92 : decode cX4_readSender 92 = .ok (.iconst 0, 1) := by decide +kernel
theorem dX4_readSender_93 : decode cX4_readSender 93 = .ok (.ireturn, 1) := by decide +kernel
theorem dX4_readSender_94 : decode cX4_readSender 94 = .ok (.aload_n 0, 1) := by decide +kernel
theorem dX4_readSender_95 : decode cX4_readSender 95 = .ok (.getfield 121, 3) := by decide +kernel
theorem dX4_readSender_98 : decode cX4_readSender 98 = .ok (.istore_n 3, 1) := by decide +kernel
theorem dX4_readSender_99 : decode cX4_readSender 99 = .ok (.aload_n 0, 1) := by decide +kernel
theorem dX4_readSender_100 : decode cX4_readSender 100 = .ok (.invokevirtual 48, 3) := by decide +kernel
theorem dX4_readSender_103 : decode cX4_readSender 103 = .ok (.aload_n 0, 1) := by decide +kernel
theorem dX4_readSender_104 : decode cX4_readSender 104 = .ok (.aload_n 1, 1) := by decide +kernel
theorem dX4_readSender_105 : decode cX4_readSender 105 = .ok (.iload_n 2, 1) := by decide +kernel
theorem dX4_readSender_106 : decode cX4_readSender 106 = .ok (.iload_n 3, 1) := by decide +kernel
theorem dX4_readSender_107 : decode cX4_readSender 107 = .ok (.invokevirtual 148, 3) := by decide +kernel
theorem dX4_readSender_110 : decode cX4_readSender 110 = .ok (.ireturn, 1) := by decide +kernel
theorem dX4_readSenderTail_0 : decode cX4_readSenderTail 0 = .ok (.iconst 0, 1) := by decide +kernel
theorem dX4_readSenderTail_1 : decode cX4_readSenderTail 1 = .ok (.istore 4, 2) := by decide +kernel
theorem dX4_readSenderTail_3 : decode cX4_readSenderTail 3 = .ok (.iconst (-1), 1) := by decide +kernel
theorem dX4_readSenderTail_4 : decode cX4_readSenderTail 4 = .ok (.istore 5, 2) := by decide +kernel
theorem dX4_readSenderTail_6 : decode cX4_readSenderTail 6 = .ok (.aload_n 0, 1) := by decide +kernel
theorem dX4_readSenderTail_7 : decode cX4_readSenderTail 7 = .ok (.ldc2_w 152, 3) := by decide +kernel
theorem dX4_readSenderTail_10 : decode cX4_readSenderTail 10 = .ok (.invokevirtual 132, 3) := by decide +kernel
theorem dX4_readSenderTail_13 : decode cX4_readSenderTail 13 = .ok (.ifCond .eq 33, 3) := by decide +kernel
theorem dX4_readSenderTail_16 : decode cX4_readSenderTail 16 = .ok (.aload_n 0, 1) := by decide +kernel
theorem dX4_readSenderTail_17 : decode cX4_readSenderTail 17 = .ok (.invokevirtual 48, 3) := by decide +kernel
theorem dX4_readSenderTail_20 : decode cX4_readSenderTail 20 = .ok (.aload_n 0, 1) := by decide +kernel
theorem dX4_readSenderTail_21 : decode cX4_readSenderTail 21 = .ok (.iconst 0, 1) := by decide +kernel
theorem dX4_readSenderTail_22 : decode cX4_readSenderTail 22 = .ok (.aload_n 0, 1) := by decide +kernel
theorem dX4_readSenderTail_23 : decode cX4_readSenderTail 23 = .ok (.getfield 38, 3) := by decide +kernel
theorem dX4_readSenderTail_26 : decode cX4_readSenderTail 26 = .ok (.iconst 1, 1) := by decide +kernel
theorem dX4_readSenderTail_27 : decode cX4_readSenderTail 27 = .ok (.isub, 1) := by decide +kernel
theorem dX4_readSenderTail_28 : decode cX4_readSenderTail 28 = .ok (.invokevirtual 117, 3) := by decide +kernel
theorem dX4_readSenderTail_31 : decode cX4_readSenderTail 31 = .ok (.ifCond .ne 5, 3) := by decide +kernel
theorem dX4_readSenderTail_34 : decode cX4_readSenderTail 34 = .ok (.iconst 0, 1) := by decide +kernel
theorem dX4_readSenderTail_35 : decode cX4_readSenderTail 35 = .ok (.ireturn, 1) := by decide +kernel
theorem dX4_readSenderTail_36 : decode cX4_readSenderTail 36 = .ok (.aload_n 0, 1) := by decide +kernel
theorem dX4_readSenderTail_37 : decode cX4_readSenderTail 37 = .ok (.getfield 121, 3) := by decide +kernel
theorem dX4_readSenderTail_40 : decode cX4_readSenderTail 40 = .ok (.istore 4, 2) := by decide +kernel
theorem dX4_readSenderTail_42 : decode cX4_readSenderTail 42 = .ok (.aload_n 0, 1) := by decide +kernel
theorem dX4_readSenderTail_43 : decode cX4_readSenderTail 43 = .ok (.invokevirtual 48, 3) := by decide +kernel
theorem dX4_readSenderTail_46 : decode cX4_readSenderTail 46 = .ok (.aload_n 0, 1) := by decide +kernel
theorem dX4_readSenderTail_47 : decode cX4_readSenderTail 47 = .ok (.ldc2_w 154, 3) := by decide +kernel
theorem dX4_readSenderTail_50 : decode cX4_readSenderTail 50 = .ok (.invokevirtual 132, 3) := by decide +kernel
theorem dX4_readSenderTail_53 : decode cX4_readSenderTail 53 = .ok (.ifCond .eq 33, 3) := by decide +kernel
theorem dX4_readSenderTail_56 : decode cX4_readSenderTail 56 = .ok (.aload_n 0, 1) := by decide +kernel
theorem dX4_readSenderTail_57 : decode cX4_readSenderTail 57 = .ok (.invokevirtual 48, 3) := by decide +kernel
theorem dX4_readSenderTail_60 : decode cX4_readSenderTail 60 = .ok (.aload_n 0, 1) := by decide +kernel
theorem dX4_readSenderTail_61 : decode cX4_readSenderTail 61 = .ok (.aload_n 0, 1) := by decide +kernel
theorem dX4_readSenderTail_62 : decode cX4_readSenderTail 62 = .ok (.getfield 15, 3) := by decide +kernel
theorem dX4_readSenderTail_65 : decode cX4_readSenderTail 65 = .ok (.aload_n 1, 1) := by decide +kernel
theorem dX4_readSenderTail_66 : decode cX4_readSenderTail 66 = .ok (.getfield 104, 3) := by decide +kernel
theorem dX4_readSenderTail_69 : decode cX4_readSenderTail 69 = .ok (.invokevirtual 156, 3) := by decide +kernel
theorem dX4_readSenderTail_72 : decode cX4_readSenderTail 72 = .ok (.istore 5, 2) := by decide +kernel
theorem dX4_readSenderTail_74 : decode cX4_readSenderTail 74 = .ok (.iload 5, 2) := by decide +kernel
theorem dX4_readSenderTail_76 : decode cX4_readSenderTail 76 = .ok (.iconst (-1), 1) := by decide +kernel
theorem dX4_readSenderTail_77 : decode cX4_readSenderTail 77 = .ok (.if_icmp .ne 5, 3) := by decide +kernel
theorem dX4_readSenderTail_80 : decode cX4_readSenderTail 80 = .ok (.iconst 0, 1) := by decide +kernel
theorem dX4_readSenderTail_81 : decode cX4_readSenderTail 81 = .ok (.ireturn, 1) := by decide +kernel
theorem dX4_readSenderTail_82 : decode cX4_readSenderTail 82 = .ok (.aload_n 0, 1) := by decide +kernel
theorem dX4_readSenderTail_83 : decode cX4_readSenderTail 83 = .ok (.invokevirtual 48, 3) := by decide +kernel
theorem dX4_readSenderTail_86 : decode cX4_readSenderTail 86 = .ok (.aload_n 1, 1) := by decide +kernel
theorem dX4_readSenderTail_87 : decode cX4_readSenderTail 87 = .ok (.iload_n 2, 1) := by decide +kernel
theorem dX4_readSenderTail_88 : decode cX4_readSenderTail 88 = .ok (.iload_n 3, 1) := by decide +kernel
theorem dX4_readSenderTail_89 : decode cX4_readSenderTail 89 = .ok (.iload 4, 2) := by decide +kernel
theorem dX4_readSenderTail_91 : decode cX4_readSenderTail 91 = .ok (.iload 5, 2) := by decide +kernel
theorem dX4_readSenderTail_93 : decode cX4_readSenderTail 93 = .ok (.invokevirtual 160, 3) := by decide +kernel
theorem dX4_readSenderTail_96 : decode cX4_readSenderTail 96 = .ok (.iconst 1, 1) := by decide +kernel
theorem dX4_readSenderTail_97 : decode cX4_readSenderTail 97 = .ok (.ireturn, 1) := by decide +kernel
theorem dX4_readStation_0 : decode cX4_readStation 0 = .ok (.aload_n 1, 1) := by decide +kernel
theorem dX4_readStation_1 : decode cX4_readStation 1 = .ok (.getfield 140, 3) := by decide +kernel
theorem dX4_readStation_4 : decode cX4_readStation 4 = .ok (.iconst 4, 1) := by decide +kernel
theorem dX4_readStation_5 : decode cX4_readStation 5 = .ok (.if_icmp .lt 9, 3) := by decide +kernel
theorem dX4_readStation_8 : decode cX4_readStation 8 = .ok (.aload_n 0, 1) := by decide +kernel
theorem dX4_readStation_9 : decode cX4_readStation 9 = .ok (.iconst 4, 1) := by decide +kernel
theorem dX4_readStation_10 : decode cX4_readStation 10 = .ok (.invokevirtual 65, 3) := by decide +kernel
theorem dX4_readStation_13 : decode cX4_readStation 13 = .ok (.ireturn, 1) := by decide +kernel
theorem dX4_readStation_14 : decode cX4_readStation 14 = .ok (.aload_n 0, 1) := by decide +kernel
theorem dX4_readStation_15 : decode cX4_readStation 15 = .ok (.invokevirtual 48, 3) := by decide +kernel
theorem dX4_readStation_18 : decode cX4_readStation 18 = .ok (.aload_n 0, 1) := by decide +kernel
theorem dX4_readStation_19 : decode cX4_readStation 19 = .ok (.iload_n 2, 1) := by decide +kernel
theorem dX4_readStation_20 : decode cX4_readStation 20 = .ok (.aload_n 1, 1) := by decide +kernel
theorem dX4_readStation_21 : decode cX4_readStation 21 = .ok (.getfield 140, 3) := by decide +kernel
theorem dX4_readStation_24 : decode cX4_readStation 24 = .ok (.invokevirtual 145, 3) := by decide +kernel
theorem dX4_readStation_27 : decode cX4_readStation 27 = .ok (.ifCond .ne 5, 3) := by decide +kernel
theorem dX4_readStation_30 : decode cX4_readStation 30 = .ok (.iconst 0, 1) := by decide +kernel
theorem dX4_readStation_31 : decode cX4_readStation 31 = .ok (.ireturn, 1) := by decide +kernel
theorem dX4_readStation_32 : decode cX4_readStation 32 = .ok (.aload_n 0, 1) := by decide +kernel
theorem dX4_readStation_33 : decode cX4_readStation 33 = .ok (.getfield 19, 3) := by decide +kernel
theorem dX4_readStation_36 : decode cX4_readStation 36 = .ok (.aload_n 1, 1) := by decide +kernel
theorem dX4_readStation_37 : decode cX4_readStation 37 = .ok (.getfield 140, 3) := by decide +kernel
theorem dX4_readStation_40 : decode cX4_readStation 40 = .ok (.aload_n 0, 1) := by decide +kernel
theorem dX4_readStation_41 : decode cX4_readStation 41 = .ok (.getfield 79, 3) := by decide +kernel
theorem dX4_readStation_44 : decode cX4_readStation 44 = .ok (.lastore, 1) := by decide +kernel
theorem dX4_readStation_45 : decode cX4_readStation 45 = .ok (.aload_n 0, 1) := by decide +kernel
theorem dX4_readStation_46 : decode cX4_readStation 46 = .ok (.invokevirtual 48, 3) := by decide +kernel
theorem dX4_readStation_49 : decode cX4_readStation 49 = .ok (.aload_n 0, 1) := by decide +kernel
theorem dX4_readStation_50 : decode cX4_readStation 50 = .ok (.invokevirtual 164, 3) := by decide +kernel
theorem dX4_readStation_53 : decode cX4_readStation 53 = .ok (.ifCond .ne 5, 3) := by decide +kernel
theorem dX4_readStation_56 : decode cX4_readStation 56 = .ok (.iconst 0, 1) := by decide +kernel
theorem dX4_readStation_57 : decode cX4_readStation 57 = .ok (.ireturn, 1) := by decide +kernel
theorem dX4_readStation_58 : decode cX4_readStation 58 = .ok (.aload_n 0, 1) := by decide +kernel
theorem dX4_readStation_59 : decode cX4_readStation 59 = .ok (.getfield 121, 3) := by decide +kernel
theorem dX4_readStation_62 : decode cX4_readStation 62 = .ok (.istore_n 3, 1) := by decide +kernel
theorem dX4_readStation_63 : decode cX4_readStation 63 = .ok (.aload_n 0, 1) := by decide +kernel
theorem dX4_readStation_64 : decode cX4_readStation 64 = .ok (.invokevirtual 48, 3) := by decide +kernel
theorem dX4_readStation_67 : decode cX4_readStation 67 = .ok (.aload_n 0, 1) := by decide +kernel
theorem dX4_readStation_68 : decode cX4_readStation 68 = .ok (.invokevirtual 164, 3) := by decide +kernel
theorem dX4_readStation_71 : decode cX4_readStation 71 = .ok (.ifCond .ne 5, 3) := by decide +kernel
theorem dX4_readStation_74 : decode cX4_readStation 74 = .ok (.iconst 0, 1) := by decide +kernel
theorem dX4_readStation_75 : decode cX4_readStation 75 = .ok (.ireturn, 1) := by decide +kernel
theorem dX4_readStation_76 : decode cX4_readStation 76 = .ok (.aload_n 1, 1) := by decide +kernel
theorem dX4_readStation_77 : decode cX4_readStation 77 = .ok (.iload_n 3, 1) := by decide +kernel
theorem dX4_readStation_78 : decode cX4_readStation 78 = .ok (.aload_n 0, 1) := by decide +kernel
theorem dX4_readStation_79 : decode cX4_readStation 79 = .ok (.getfield 121, 3) := by decide +kernel
theorem dX4_readStation_82 : decode cX4_readStation 82 = .ok (.invokevirtual 167, 3) := by decide +kernel
theorem dX4_readStation_85 : decode cX4_readStation 85 = .ok (.aload_n 0, 1) := by decide +kernel
theorem dX4_readStation_86 : decode cX4_readStation 86 = .ok (.invokevirtual 48, 3) := by decide +kernel
theorem dX4_readStation_89 : decode cX4_readStation 89 = .ok (.iconst 1, 1) := by decide +kernel
theorem dX4_readStation_90 : decode cX4_readStation 90 = .ok (.ireturn, 1) := by decide +kernel
theorem dX4_readBearing_0 : decode cX4_readBearing 0 = .ok (.aload_n 1, 1) := by decide +kernel
theorem dX4_readBearing_1 : decode cX4_readBearing 1 = .ok (.getfield 170, 3) := by decide +kernel
theorem dX4_readBearing_4 : decode cX4_readBearing 4 = .ok (.bipush 8, 2) := by decide +kernel
theorem dX4_readBearing_6 : decode cX4_readBearing 6 = .ok (.if_icmp .lt 9, 3) := by decide +kernel
theorem dX4_readBearing_9 : decode cX4_readBearing 9 = .ok (.aload_n 0, 1) := by decide +kernel
theorem dX4_readBearing_10 : decode cX4_readBearing 10 = .ok (.iconst 4, 1) := by decide +kernel
theorem dX4_readBearing_11 : decode cX4_readBearing 11 = .ok (.invokevirtual 65, 3) := by decide +kernel
theorem dX4_readBearing_14 : decode cX4_readBearing 14 = .ok (.ireturn, 1) := by decide +kernel
theorem dX4_readBearing_15 : decode cX4_readBearing 15 = .ok (.aload_n 0, 1) := by decide +kernel
theorem dX4_readBearing_16 : decode cX4_readBearing 16 = .ok (.invokevirtual 48, 3) := by decide +kernel
theorem dX4_readBearing_19 : decode cX4_readBearing 19 = .ok (.aload_n 0, 1) := by decide +kernel
theorem dX4_readBearing_20 : decode cX4_readBearing 20 = .ok (.aload_n 0, 1) := by decide +kernel
theorem dX4_readBearing_21 : decode cX4_readBearing 21 = .ok (.getfield 19, 3) := by decide +kernel
theorem dX4_readBearing_24 : decode cX4_readBearing 24 = .ok (.aload_n 1, 1) := by decide +kernel
theorem dX4_readBearing_25 : decode cX4_readBearing 25 = .ok (.getfield 140, 3) := by decide +kernel
theorem dX4_readBearing_28 : decode cX4_readBearing 28 = .ok (.invokevirtual 156, 3) := by decide +kernel
theorem dX4_readBearing_31 : decode cX4_readBearing 31 = .ok (.istore_n 2, 1) := by decide +kernel
theorem dX4_readBearing_32 : decode cX4_readBearing 32 = .ok (.iload_n 2, 1) := by decide +kernel
theorem dX4_readBearing_33 : decode cX4_readBearing 33 = .ok (.iconst (-1), 1) := by decide +kernel
theorem dX4_readBearing_34 : decode cX4_readBearing 34 = .ok (.if_icmp .ne 5, 3) := by decide +kernel
theorem dX4_readBearing_37 : decode cX4_readBearing 37 = .ok (.iconst 0, 1) := by decide +kernel
theorem dX4_readBearing_38 : decode cX4_readBearing 38 = .ok (.ireturn, 1) := by decide +kernel
theorem dX4_readBearing_39 : decode cX4_readBearing 39 = .ok (.aload_n 0, 1) := by decide +kernel
theorem dX4_readBearing_40 : decode cX4_readBearing 40 = .ok (.invokevirtual 48, 3) := by decide +kernel
theorem dX4_readBearing_43 : decode cX4_readBearing 43 = .ok (.aload_n 0, 1) := by decide +kernel
theorem dX4_readBearing_44 : decode cX4_readBearing 44 = .ok (.invokevirtual 164, 3) := by decide +kernel
theorem dX4_readBearing_47 : decode cX4_readBearing 47 = .ok (.ifCond .ne 5, 3) := by decide +kernel
theorem dX4_readBearing_50 : decode cX4_readBearing 50 = .ok (.iconst 0, 1) := by decide +kernel
theorem dX4_readBearing_51 : decode cX4_readBearing 51 = .ok (.ireturn, 1) := by decide +kernel
theorem dX4_readBearing_52 : decode cX4_readBearing 52 = .ok (.aload_n 0, 1) := by decide +kernel
theorem dX4_readBearing_53 : decode cX4_readBearing 53 = .ok (.getfield 121, 3) := by decide +kernel
theorem dX4_readBearing_56 : decode cX4_readBearing 56 = .ok (.istore_n 3, 1) := by decide +kernel
theorem dX4_readBearing_57 : decode cX4_readBearing 57 = .ok (.aload_n 0, 1) := by decide +kernel
theorem dX4_readBearing_58 : decode cX4_readBearing 58 = .ok (.invokevirtual 48, 3) := by decide +kernel
theorem dX4_readBearing_61 : decode cX4_readBearing 61 = .ok (.aload_n 0, 1) := by decide +kernel
theorem dX4_readBearing_62 : decode cX4_readBearing 62 = .ok (.invokevirtual 164, 3) := by decide +kernel
theorem dX4_readBearing_65 : decode cX4_readBearing 65 = .ok (.ifCond .ne 5, 3) := by decide +kernel
theorem dX4_readBearing_68 : decode cX4_readBearing 68 = .ok (.iconst 0, 1) := by decide +kernel
theorem dX4_readBearing_69 : decode cX4_readBearing 69 = .ok (.ireturn, 1) := by decide +kernel
theorem dX4_readBearing_70 : decode cX4_readBearing 70 = .ok (.iload_n 3, 1) := by decide +kernel
theorem dX4_readBearing_71 : decode cX4_readBearing 71 = .ok (.ifCond .ne 16, 3) := by decide +kernel
theorem dX4_readBearing_74 : decode cX4_readBearing 74 = .ok (.aload_n 0, 1) := by decide +kernel
theorem dX4_readBearing_75 : decode cX4_readBearing 75 = .ok (.getfield 121, 3) := by decide +kernel
theorem dX4_readBearing_78 : decode cX4_readBearing 78 = .ok (.ifCond .ne 9, 3) := by decide +kernel
theorem dX4_readBearing_81 : decode cX4_readBearing 81 = .ok (.aload_n 0, 1) := by decide +kernel
theorem dX4_readBearing_82 : decode cX4_readBearing 82 = .ok (.iconst 2, 1) := by decide +kernel
theorem dX4_readBearing_83 : decode cX4_readBearing 83 = .ok (.invokevirtual 65, 3) := by decide +kernel
theorem dX4_readBearing_86 : decode cX4_readBearing 86 = .ok (.ireturn, 1) := by decide +kernel
theorem dX4_readBearing_87 : decode cX4_readBearing 87 = .ok (.aload_n 1, 1) := by decide +kernel
theorem dX4_readBearing_88 : decode cX4_readBearing 88 = .ok (.iload_n 2, 1) := by decide +kernel
theorem dX4_readBearing_89 : decode cX4_readBearing 89 = .ok (.iload_n 3, 1) := by decide +kernel
theorem dX4_readBearing_90 : decode cX4_readBearing 90 = .ok (.aload_n 0, 1) := by decide +kernel
theorem dX4_readBearing_91 : decode cX4_readBearing 91 = .ok (.getfield 121, 3) := by decide +kernel
theorem dX4_readBearing_94 : decode cX4_readBearing 94 = .ok (.invokevirtual 173, 3) := by decide +kernel
theorem dX4_readBearing_97 : decode cX4_readBearing 97 = .ok (.aload_n 0, 1) := by decide +kernel
theorem dX4_readBearing_98 : decode cX4_readBearing 98 = .ok (.invokevirtual 48, 3) := by decide +kernel
theorem dX4_readBearing_101 : decode cX4_readBearing 101 = .ok (.iconst 1, 1) := by decide +kernel
theorem dX4_readBearing_102 : decode cX4_readBearing 102 = .ok (.ireturn, 1) := by decide +kernel
theorem dX4_closeLine_0 : decode cX4_closeLine 0 = .ok (.aload_n 0, 1) := by decide +kernel
theorem dX4_closeLine_1 : decode cX4_closeLine 1 = .ok (.getfield 51, 3) := by decide +kernel
theorem dX4_closeLine_4 : decode cX4_closeLine 4 = .ok (.iconst 4, 1) := by decide +kernel
theorem dX4_closeLine_5 : decode cX4_closeLine 5 = .ok (.if_icmp .eq 9, 3) := by decide +kernel
theorem dX4_closeLine_8 : decode cX4_closeLine 8 = .ok (.aload_n 0, 1) := by decide +kernel
theorem dX4_closeLine_9 : decode cX4_closeLine 9 = .ok (.iconst 1, 1) := by decide +kernel
theorem dX4_closeLine_10 : decode cX4_closeLine 10 = .ok (.invokevirtual 65, 3) := by decide +kernel
theorem dX4_closeLine_13 : decode cX4_closeLine 13 = .ok (.ireturn, 1) := by decide +kernel
theorem dX4_closeLine_14 : decode cX4_closeLine 14 = .ok (.aload_n 0, 1) := by decide +kernel
theorem dX4_closeLine_15 : decode cX4_closeLine 15 = .ok (.invokevirtual 48, 3) := by decide +kernel
theorem dX4_closeLine_18 : decode cX4_closeLine 18 = .ok (.iconst 1, 1) := by decide +kernel
theorem dX4_closeLine_19 : decode cX4_closeLine 19 = .ok (.ireturn, 1) := by decide +kernel
theorem dX4_blame_0 : decode cX4_blame 0 = .ok (.aload_n 0, 1) := by decide +kernel
theorem dX4_blame_1 : decode cX4_blame 1 = .ok (.iload_n 1, 1) := by decide +kernel
theorem dX4_blame_2 : decode cX4_blame 2 = .ok (.putfield 35, 3) := by decide +kernel
theorem dX4_blame_5 : decode cX4_blame 5 = .ok (.aload_n 0, 1) := by decide +kernel
theorem dX4_blame_6 : decode cX4_blame 6 = .ok (.aload_n 0, 1) := by decide +kernel
theorem dX4_blame_7 : decode cX4_blame 7 = .ok (.getfield 177, 3) := by decide +kernel
theorem dX4_blame_10 : decode cX4_blame 10 = .ok (.putfield 180, 3) := by decide +kernel
theorem dX4_blame_13 : decode cX4_blame 13 = .ok (.iconst 0, 1) := by decide +kernel
theorem dX4_blame_14 : decode cX4_blame 14 = .ok (.ireturn, 1) := by decide +kernel
theorem dX4_isWord_0 : decode cX4_isWord 0 = .ok (.aload_n 0, 1) := by decide +kernel
theorem dX4_isWord_1 : decode cX4_isWord 1 = .ok (.getfield 51, 3) := by decide +kernel
theorem dX4_isWord_4 : decode cX4_isWord 4 = .ok (.iconst 2, 1) := by decide +kernel
theorem dX4_isWord_5 : decode cX4_isWord 5 = .ok (.if_icmp .ne 16, 3) := by decide +kernel
theorem dX4_isWord_8 : decode cX4_isWord 8 = .ok (.aload_n 0, 1) := by decide +kernel
theorem dX4_isWord_9 : decode cX4_isWord 9 = .ok (.getfield 79, 3) := by decide +kernel
theorem dX4_isWord_12 : decode cX4_isWord 12 = .ok (.lload_n 1, 1) := by decide +kernel
theorem dX4_isWord_13 : decode cX4_isWord 13 = .ok (.lcmp, 1) := by decide +kernel
theorem dX4_isWord_14 : decode cX4_isWord 14 = .ok (.ifCond .ne 7, 3) := by decide +kernel
theorem dX4_isWord_17 : decode cX4_isWord 17 = .ok (.iconst 1, 1) := by decide +kernel
theorem dX4_isWord_18 : decode cX4_isWord 18 = .ok (.goto 4, 3) := by decide +kernel
theorem dX4_isWord_21 : decode cX4_isWord 21 = .ok (.iconst 0, 1) := by decide +kernel
theorem dX4_isWord_22 : decode cX4_isWord 22 = .ok (.ireturn, 1) := by decide +kernel
theorem dX4_isNumber_0 : decode cX4_isNumber 0 = .ok (.aload_n 0, 1) := by decide +kernel
theorem dX4_isNumber_1 : decode cX4_isNumber 1 = .ok (.getfield 51, 3) := by decide +kernel
theorem dX4_isNumber_4 : decode cX4_isNumber 4 = .ok (.iconst 3, 1) := by decide +kernel
theorem dX4_isNumber_5 : decode cX4_isNumber 5 = .ok (.if_icmp .eq 9, 3) := by decide +kernel
theorem dX4_isNumber_8 : decode cX4_isNumber 8 = .ok (.aload_n 0, 1) := by decide +kernel
theorem dX4_isNumber_9 : decode cX4_isNumber 9 = .ok (.iconst 1, 1) := by decide +kernel
theorem dX4_isNumber_10 : decode cX4_isNumber 10 = .ok (.invokevirtual 65, 3) := by decide +kernel
theorem dX4_isNumber_13 : decode cX4_isNumber 13 = .ok (.ireturn, 1) := by decide +kernel
theorem dX4_isNumber_14 : decode cX4_isNumber 14 = .ok (.aload_n 0, 1) := by decide +kernel
theorem dX4_isNumber_15 : decode cX4_isNumber 15 = .ok (.getfield 121, 3) := by decide +kernel
theorem dX4_isNumber_18 : decode cX4_isNumber 18 = .ok (.iload_n 1, 1) := by decide +kernel
theorem dX4_isNumber_19 : decode cX4_isNumber 19 = .ok (.if_icmp .lt 11, 3) := by decide +kernel
theorem dX4_isNumber_22 : decode cX4_isNumber 22 = .ok (.aload_n 0, 1) := by decide +kernel
theorem dX4_isNumber_23 : decode cX4_isNumber 23 = .ok (.getfield 121, 3) := by decide +kernel
theorem dX4_isNumber_26 : decode cX4_isNumber 26 = .ok (.iload_n 2, 1) := by decide +kernel
theorem dX4_isNumber_27 : decode cX4_isNumber 27 = .ok (.if_icmp .le 11, 3) := by decide +kernel
theorem dX4_isNumber_30 : decode cX4_isNumber 30 = .ok (.aload_n 0, 1) := by decide +kernel
theorem dX4_isNumber_31 : decode cX4_isNumber 31 = .ok (.iconst 2, 1) := by decide +kernel
theorem dX4_isNumber_32 : decode cX4_isNumber 32 = .ok (.invokevirtual 65, 3) := by decide +kernel
theorem dX4_isNumber_35 : decode cX4_isNumber 35 = .ok (.ifCond .eq 7, 3) := by decide +kernel
theorem dX4_isNumber_38 : decode cX4_isNumber 38 = .ok (.iconst 1, 1) := by decide +kernel
theorem dX4_isNumber_39 : decode cX4_isNumber 39 = .ok (.goto 4, 3) := by decide +kernel
theorem dX4_isNumber_42 : decode cX4_isNumber 42 = .ok (.iconst 0, 1) := by decide +kernel
theorem dX4_isNumber_43 : decode cX4_isNumber 43 = .ok (.ireturn, 1) := by decide +kernel
theorem dX4_isSigned_0 : decode cX4_isSigned 0 = .ok (.aload_n 0, 1) := by decide +kernel
theorem dX4_isSigned_1 : decode cX4_isSigned 1 = .ok (.getfield 51, 3) := by decide +kernel
theorem dX4_isSigned_4 : decode cX4_isSigned 4 = .ok (.iconst 5, 1) := by decide +kernel
theorem dX4_isSigned_5 : decode cX4_isSigned 5 = .ok (.if_icmp .ne 7, 3) := by decide +kernel
theorem dX4_isSigned_8 : decode cX4_isSigned 8 = .ok (.iconst 1, 1) := by decide +kernel
theorem dX4_isSigned_9 : decode cX4_isSigned 9 = .ok (.goto 4, 3) := by decide +kernel
theorem dX4_isSigned_12 : decode cX4_isSigned 12 = .ok (.iconst 0, 1) := by decide +kernel
theorem dX4_isSigned_13 : decode cX4_isSigned 13 = .ok (.istore_n 1, 1) := by decide +kernel
theorem dX4_isSigned_14 : decode cX4_isSigned 14 = .ok (.iload_n 1, 1) := by decide +kernel
theorem dX4_isSigned_15 : decode cX4_isSigned 15 = .ok (.ifCond .eq 7, 3) := by decide +kernel
theorem dX4_isSigned_18 : decode cX4_isSigned 18 = .ok (.aload_n 0, 1) := by decide +kernel
theorem dX4_isSigned_19 : decode cX4_isSigned 19 = .ok (.invokevirtual 48, 3) := by decide +kernel
theorem dX4_isSigned_22 : decode cX4_isSigned 22 = .ok (.aload_n 0, 1) := by decide +kernel
theorem dX4_isSigned_23 : decode cX4_isSigned 23 = .ok (.iconst 0, 1) := by decide +kernel
theorem dX4_isSigned_24 : decode cX4_isSigned 24 = .ok (.bipush 99, 2) := by decide +kernel
theorem dX4_isSigned_26 : decode cX4_isSigned 26 = .ok (.invokevirtual 117, 3) := by decide +kernel
theorem dX4_isSigned_29 : decode cX4_isSigned 29 = .ok (.ifCond .ne 5, 3) := by decide +kernel
theorem dX4_isSigned_32 : decode cX4_isSigned 32 = .ok (.iconst 0, 1) := by decide +kernel
theorem dX4_isSigned_33 : decode cX4_isSigned 33 = .ok (.ireturn, 1) := by decide +kernel
theorem dX4_isSigned_34 : decode cX4_isSigned 34 = .ok (.aload_n 0, 1) := by decide +kernel
theorem dX4_isSigned_35 : decode cX4_isSigned 35 = .ok (.iload_n 1, 1) := by decide +kernel
theorem dX4_isSigned_36 : decode cX4_isSigned 36 = .ok (.ifCond .eq 11, 3) := by decide +kernel
theorem dX4_isSigned_39 : decode cX4_isSigned 39 = .ok (.aload_n 0, 1) := by decide +kernel
theorem dX4_isSigned_40 : decode cX4_isSigned 40 = .ok (.getfield 121, 3) := by decide +kernel
theorem dX4_isSigned_43 : decode cX4_isSigned 43 = .ok (.ineg, 1) := by decide +kernel
theorem dX4_isSigned_44 : decode cX4_isSigned 44 = .ok (.goto 7, 3) := by decide +kernel
theorem dX4_isSigned_47 : decode cX4_isSigned 47 = .ok (.aload_n 0, 1) := by decide +kernel
theorem dX4_isSigned_48 : decode cX4_isSigned 48 = .ok (.getfield 121, 3) := by decide +kernel
theorem dX4_isSigned_51 : decode cX4_isSigned 51 = .ok (.putfield 121, 3) := by decide +kernel
theorem dX4_isSigned_54 : decode cX4_isSigned 54 = .ok (.iconst 1, 1) := by decide +kernel
theorem dX4_isSigned_55 : decode cX4_isSigned 55 = .ok (.ireturn, 1) := by decide +kernel
theorem dX4_isName_0 : decode cX4_isName 0 = .ok (.aload_n 0, 1) := by decide +kernel
theorem dX4_isName_1 : decode cX4_isName 1 = .ok (.getfield 51, 3) := by decide +kernel
theorem dX4_isName_4 : decode cX4_isName 4 = .ok (.iconst 2, 1) := by decide +kernel
theorem dX4_isName_5 : decode cX4_isName 5 = .ok (.if_icmp .eq 5, 3) := by decide +kernel
theorem dX4_isName_8 : decode cX4_isName 8 = .ok (.iconst 0, 1) := by decide +kernel
theorem dX4_isName_9 : decode cX4_isName 9 = .ok (.ireturn, 1) := by decide +kernel
theorem dX4_isName_10 : decode cX4_isName 10 = .ok (.aload_n 0, 1) := by decide +kernel
theorem dX4_isName_11 : decode cX4_isName 11 = .ok (.getfield 79, 3) := by decide +kernel
theorem dX4_isName_14 : decode cX4_isName 14 = .ok (.ldc2_w 83, 3) := by decide +kernel
theorem dX4_isName_17 : decode cX4_isName 17 = .ok (.lcmp, 1) := by decide +kernel
theorem dX4_isName_18 : decode cX4_isName 18 = .ok (.ifCond .eq 84, 3) := by decide +kernel
theorem dX4_isName_21 : decode cX4_isName 21 = .ok (.aload_n 0, 1) := by decide +kernel
theorem dX4_isName_22 : decode cX4_isName 22 = .ok (.getfield 79, 3) := by decide +kernel
theorem dX4_isName_25 : decode cX4_isName 25 = .ok (.ldc2_w 88, 3) := by decide +kernel
theorem dX4_isName_28 : decode cX4_isName 28 = .ok (.lcmp, 1) := by decide +kernel
theorem dX4_isName_29 : decode cX4_isName 29 = .ok (.ifCond .eq 73, 3) := by decide +kernel
theorem dX4_isName_32 : decode cX4_isName 32 = .ok (.aload_n 0, 1) := by decide +kernel
theorem dX4_isName_33 : decode cX4_isName 33 = .ok (.getfield 79, 3) := by decide +kernel
theorem dX4_isName_36 : decode cX4_isName 36 = .ok (.ldc2_w 130, 3) := by decide +kernel
theorem dX4_isName_39 : decode cX4_isName 39 = .ok (.lcmp, 1) := by decide +kernel
theorem dX4_isName_40 : decode cX4_isName 40 = .ok (.ifCond .eq 62, 3) := by decide +kernel
theorem dX4_isName_43 : decode cX4_isName 43 = .ok (.aload_n 0, 1) := by decide +kernel
theorem dX4_isName_44 : decode cX4_isName 44 = .ok (.getfield 79, 3) := by decide +kernel
theorem dX4_isName_47 : decode cX4_isName 47 = .ok (.ldc2_w 93, 3) := by decide +kernel
theorem dX4_isName_50 : decode cX4_isName 50 = .ok (.lcmp, 1) := by decide +kernel
theorem dX4_isName_51 : decode cX4_isName 51 = .ok (.ifCond .eq 51, 3) := by decide +kernel
theorem dX4_isName_54 : decode cX4_isName 54 = .ok (.aload_n 0, 1) := by decide +kernel
theorem dX4_isName_55 : decode cX4_isName 55 = .ok (.getfield 79, 3) := by decide +kernel
theorem dX4_isName_58 : decode cX4_isName 58 = .ok (.ldc2_w 152, 3) := by decide +kernel
theorem dX4_isName_61 : decode cX4_isName 61 = .ok (.lcmp, 1) := by decide +kernel
theorem dX4_isName_62 : decode cX4_isName 62 = .ok (.ifCond .eq 40, 3) := by decide +kernel
theorem dX4_isName_65 : decode cX4_isName 65 = .ok (.aload_n 0, 1) := by decide +kernel
theorem dX4_isName_66 : decode cX4_isName 66 = .ok (.getfield 79, 3) := by decide +kernel
theorem dX4_isName_69 : decode cX4_isName 69 = .ok (.ldc2_w 154, 3) := by decide +kernel
theorem dX4_isName_72 : decode cX4_isName 72 = .ok (.lcmp, 1) := by decide +kernel
theorem dX4_isName_73 : decode cX4_isName 73 = .ok (.ifCond .eq 29, 3) := by decide +kernel
theorem dX4_isName_76 : decode cX4_isName 76 = .ok (.aload_n 0, 1) := by decide +kernel
theorem dX4_isName_77 : decode cX4_isName 77 = .ok (.getfield 79, 3) := by decide +kernel
theorem dX4_isName_80 : decode cX4_isName 80 = .ok (.ldc2_w 98, 3) := by decide +kernel
theorem dX4_isName_83 : decode cX4_isName 83 = .ok (.lcmp, 1) := by decide +kernel
theorem dX4_isName_84 : decode cX4_isName 84 = .ok (.ifCond .eq 18, 3) := by decide +kernel
theorem dX4_isName_87 : decode cX4_isName 87 = .ok (.aload_n 0, 1) := by decide +kernel
theorem dX4_isName_88 : decode cX4_isName 88 = .ok (.getfield 79, 3) := by decide +kernel
theorem dX4_isName_91 : decode cX4_isName 91 = .ok (.ldc2_w 111, 3) := by decide +kernel
theorem dX4_isName_94 : decode cX4_isName 94 = .ok (.lcmp, 1) := by decide +kernel
theorem dX4_isName_95 : decode cX4_isName 95 = .ok (.ifCond .eq 7, 3) := by decide +kernel
theorem dX4_isName_98 : decode cX4_isName 98 = .ok (.iconst 1, 1) := by decide +kernel
theorem dX4_isName_99 : decode cX4_isName 99 = .ok (.goto 4, 3) := by decide +kernel
theorem dX4_isName_102 : decode cX4_isName 102 = .ok (.iconst 0, 1) := by decide +kernel
theorem dX4_isName_103 : decode cX4_isName 103 = .ok (.ireturn, 1) := by decide +kernel
theorem dX4_isNewName_0 : decode cX4_isNewName 0 = .ok (.aload_n 0, 1) := by decide +kernel
theorem dX4_isNewName_1 : decode cX4_isNewName 1 = .ok (.invokevirtual 183, 3) := by decide +kernel
theorem dX4_isNewName_4 : decode cX4_isNewName 4 = .ok (.ifCond .ne 9, 3) := by decide +kernel
theorem dX4_isNewName_7 : decode cX4_isNewName 7 = .ok (.aload_n 0, 1) := by decide +kernel
theorem dX4_isNewName_8 : decode cX4_isNewName 8 = .ok (.iconst 1, 1) := by decide +kernel
theorem dX4_isNewName_9 : decode cX4_isNewName 9 = .ok (.invokevirtual 65, 3) := by decide +kernel
theorem dX4_isNewName_12 : decode cX4_isNewName 12 = .ok (.ireturn, 1) := by decide +kernel
theorem dX4_isNewName_13 : decode cX4_isNewName 13 = .ok (.aload_n 0, 1) := by decide +kernel
theorem dX4_isNewName_14 : decode cX4_isNewName 14 = .ok (.aload_n 0, 1) := by decide +kernel
theorem dX4_isNewName_15 : decode cX4_isNewName 15 = .ok (.getfield 15, 3) := by decide +kernel
theorem dX4_isNewName_18 : decode cX4_isNewName 18 = .ok (.iload_n 1, 1) := by decide +kernel
theorem dX4_isNewName_19 : decode cX4_isNewName 19 = .ok (.invokevirtual 186, 3) := by decide +kernel
theorem dX4_isNewName_22 : decode cX4_isNewName 22 = .ok (.iconst (-1), 1) := by decide +kernel
theorem dX4_isNewName_23 : decode cX4_isNewName 23 = .ok (.if_icmp .ne 16, 3) := by decide +kernel
theorem dX4_isNewName_26 : decode cX4_isNewName 26 = .ok (.aload_n 0, 1) := by decide +kernel
theorem dX4_isNewName_27 : decode cX4_isNewName 27 = .ok (.aload_n 0, 1) := by decide +kernel
theorem dX4_isNewName_28 : decode cX4_isNewName 28 = .ok (.getfield 19, 3) := by decide +kernel
theorem dX4_isNewName_31 : decode cX4_isNewName 31 = .ok (.iload_n 2, 1) := by decide +kernel
theorem dX4_isNewName_32 : decode cX4_isNewName 32 = .ok (.invokevirtual 186, 3) := by decide +kernel
theorem dX4_isNewName_35 : decode cX4_isNewName 35 = .ok (.iconst (-1), 1) := by decide +kernel
theorem dX4_isNewName_36 : decode cX4_isNewName 36 = .ok (.if_icmp .eq 7, 3) := by decide +kernel
theorem dX4_isNewName_39 : decode cX4_isNewName 39 = .ok (.iconst 1, 1) := by decide +kernel
theorem dX4_isNewName_40 : decode cX4_isNewName 40 = .ok (.goto 4, 3) := by decide +kernel
theorem dX4_isNewName_43 : decode cX4_isNewName 43 = .ok (.iconst 0, 1) := by decide +kernel
theorem dX4_isNewName_44 : decode cX4_isNewName 44 = .ok (.istore_n 3, 1) := by decide +kernel
theorem dX4_isNewName_45 : decode cX4_isNewName 45 = .ok (.iload_n 3, 1) := by decide +kernel
theorem dX4_isNewName_46 : decode cX4_isNewName 46 = .ok (.ifCond .eq 11, 3) := by decide +kernel
theorem dX4_isNewName_49 : decode cX4_isNewName 49 = .ok (.aload_n 0, 1) := by decide +kernel
theorem dX4_isNewName_50 : decode cX4_isNewName 50 = .ok (.iconst 3, 1) := by decide +kernel
theorem dX4_isNewName_51 : decode cX4_isNewName 51 = .ok (.invokevirtual 65, 3) := by decide +kernel
theorem dX4_isNewName_54 : decode cX4_isNewName 54 = .ok (.ifCond .eq 7, 3) := by decide +kernel
theorem dX4_isNewName_57 : decode cX4_isNewName 57 = .ok (.iconst 1, 1) := by decide +kernel
theorem dX4_isNewName_58 : decode cX4_isNewName 58 = .ok (.goto 4, 3) := by decide +kernel
theorem dX4_isNewName_61 : decode cX4_isNewName 61 = .ok (.iconst 0, 1) := by decide +kernel
theorem dX4_isNewName_62 : decode cX4_isNewName 62 = .ok (.ireturn, 1) := by decide +kernel
theorem dX4_namedOne_0 : decode cX4_namedOne 0 = .ok (.aload_n 0, 1) := by decide +kernel
theorem dX4_namedOne_1 : decode cX4_namedOne 1 = .ok (.invokevirtual 183, 3) := by decide +kernel
theorem dX4_namedOne_4 : decode cX4_namedOne 4 = .ok (.ifCond .ne 11, 3) := by decide +kernel
theorem dX4_namedOne_7 : decode cX4_namedOne 7 = .ok (.aload_n 0, 1) := by decide +kernel
theorem dX4_namedOne_8 : decode cX4_namedOne 8 = .ok (.iconst 1, 1) := by decide +kernel
theorem dX4_namedOne_9 : decode cX4_namedOne 9 = .ok (.invokevirtual 65, 3) := by decide +kernel
theorem dX4_namedOne_12 : decode cX4_namedOne 12 = .ok (.pop, 1) := by decide +kernel
theorem dX4_namedOne_13 : decode cX4_namedOne 13 = .ok (.iconst (-1), 1) := by decide +kernel
theorem dX4_namedOne_14 : decode cX4_namedOne 14 = .ok (.ireturn, 1) := by decide +kernel
theorem dX4_namedOne_15 : decode cX4_namedOne 15 = .ok (.aload_n 0, 1) := by decide +kernel
theorem dX4_namedOne_16 : decode cX4_namedOne 16 = .ok (.aload_n 1, 1) := by decide +kernel
theorem dX4_namedOne_17 : decode cX4_namedOne 17 = .ok (.iload_n 2, 1) := by decide +kernel
theorem dX4_namedOne_18 : decode cX4_namedOne 18 = .ok (.invokevirtual 186, 3) := by decide +kernel
theorem dX4_namedOne_21 : decode cX4_namedOne 21 = .ok (.istore_n 3, 1) := by decide +kernel
theorem dX4_namedOne_22 : decode cX4_namedOne 22 = .ok (.iload_n 3, 1) := by decide +kernel
theorem dX4_namedOne_23 : decode cX4_namedOne 23 = .ok (.iconst (-1), 1) := by decide +kernel
theorem dX4_namedOne_24 : decode cX4_namedOne 24 = .ok (.if_icmp .ne 9, 3) := by decide +kernel
theorem dX4_namedOne_27 : decode cX4_namedOne 27 = .ok (.aload_n 0, 1) := by decide +kernel
theorem dX4_namedOne_28 : decode cX4_namedOne 28 = .ok (.iconst 3, 1) := by decide +kernel
theorem dX4_namedOne_29 : decode cX4_namedOne 29 = .ok (.invokevirtual 65, 3) := by decide +kernel
theorem dX4_namedOne_32 : decode cX4_namedOne 32 = .ok (.pop, 1) := by decide +kernel
theorem dX4_namedOne_33 : decode cX4_namedOne 33 = .ok (.iload_n 3, 1) := by decide +kernel
theorem dX4_namedOne_34 : decode cX4_namedOne 34 = .ok (.ireturn, 1) := by decide +kernel
theorem dX4_placeOf_0 : decode cX4_placeOf 0 = .ok (.iconst 0, 1) := by decide +kernel
theorem dX4_placeOf_1 : decode cX4_placeOf 1 = .ok (.istore_n 3, 1) := by decide +kernel
theorem dX4_placeOf_2 : decode cX4_placeOf 2 = .ok (.iload_n 3, 1) := by decide +kernel
theorem dX4_placeOf_3 : decode cX4_placeOf 3 = .ok (.iload_n 2, 1) := by decide +kernel
theorem dX4_placeOf_4 : decode cX4_placeOf 4 = .ok (.if_icmp .ge 28, 3) := by decide +kernel
theorem dX4_placeOf_7 : decode cX4_placeOf 7 = .ok (.iload_n 3, 1) := by decide +kernel
theorem dX4_placeOf_8 : decode cX4_placeOf 8 = .ok (.aload_n 1, 1) := by decide +kernel
theorem dX4_placeOf_9 : decode cX4_placeOf 9 = .ok (.arraylength, 1) := by decide +kernel
theorem dX4_placeOf_10 : decode cX4_placeOf 10 = .ok (.if_icmp .ge 22, 3) := by decide +kernel
theorem dX4_placeOf_13 : decode cX4_placeOf 13 = .ok (.aload_n 1, 1) := by decide +kernel
theorem dX4_placeOf_14 : decode cX4_placeOf 14 = .ok (.iload_n 3, 1) := by decide +kernel
theorem dX4_placeOf_15 : decode cX4_placeOf 15 = .ok (.laload, 1) := by decide +kernel
theorem dX4_placeOf_16 : decode cX4_placeOf 16 = .ok (.aload_n 0, 1) := by decide +kernel
theorem dX4_placeOf_17 : decode cX4_placeOf 17 = .ok (.getfield 79, 3) := by decide +kernel
theorem dX4_placeOf_20 : decode cX4_placeOf 20 = .ok (.lcmp, 1) := by decide +kernel
theorem dX4_placeOf_21 : decode cX4_placeOf 21 = .ok (.ifCond .ne 5, 3) := by decide +kernel
theorem dX4_placeOf_24 : decode cX4_placeOf 24 = .ok (.iload_n 3, 1) := by decide +kernel
theorem dX4_placeOf_25 : decode cX4_placeOf 25 = .ok (.ireturn, 1) := by decide +kernel
theorem dX4_placeOf_26 : decode cX4_placeOf 26 = .ok (.iinc 3 1, 3) := by decide +kernel
theorem dX4_placeOf_29 : decode cX4_placeOf 29 = .ok (.goto (-27), 3) := by decide +kernel
theorem dX4_placeOf_32 : decode cX4_placeOf 32 = .ok (.iconst (-1), 1) := by decide +kernel
theorem dX4_placeOf_33 : decode cX4_placeOf 33 = .ok (.ireturn, 1) := by decide +kernel
theorem dX4_advance_0 : decode cX4_advance 0 = .ok (.aload_n 0, 1) := by decide +kernel
theorem dX4_advance_1 : decode cX4_advance 1 = .ok (.getfield 29, 3) := by decide +kernel
theorem dX4_advance_4 : decode cX4_advance 4 = .ok (.sipush 900, 3) := by decide +kernel
theorem dX4_advance_7 : decode cX4_advance 7 = .ok (.invokestatic 189, 3) := by decide +kernel
theorem dX4_advance_10 : decode cX4_advance 10 = .ok (.istore_n 1, 1) := by decide +kernel
theorem dX4_advance_11 : decode cX4_advance 11 = .ok (.aload_n 0, 1) := by decide +kernel
theorem dX4_advance_12 : decode cX4_advance 12 = .ok (.getfield 45, 3) := by decide +kernel
theorem dX4_advance_15 : decode cX4_advance 15 = .ok (.iload_n 1, 1) := by decide +kernel
theorem dX4_advance_16 : decode cX4_advance 16 = .ok (.if_icmp .ge 44, 3) := by decide +kernel
theorem dX4_advance_19 : decode cX4_advance 19 = .ok (.aload_n 0, 1) := by decide +kernel
theorem dX4_advance_20 : decode cX4_advance 20 = .ok (.getfield 9, 3) := by decide +kernel
theorem dX4_advance_23 : decode cX4_advance 23 = .ok (.aload_n 0, 1) := by decide +kernel
theorem dX4_advance_24 : decode cX4_advance 24 = .ok (.getfield 45, 3) := by decide +kernel
theorem dX4_advance_27 : decode cX4_advance 27 = .ok (.iaload, 1) := by decide +kernel
theorem dX4_advance_28 : decode cX4_advance 28 = .ok (.bipush 32, 2) := by decide +kernel
theorem dX4_advance_30 : decode cX4_advance 30 = .ok (.if_icmp .eq 17, 3) := by decide +kernel
theorem dX4_advance_33 : decode cX4_advance 33 = .ok (.aload_n 0, 1) := by decide +kernel
theorem dX4_advance_34 : decode cX4_advance 34 = .ok (.getfield 9, 3) := by decide +kernel
theorem dX4_advance_37 : decode cX4_advance 37 = .ok (.aload_n 0, 1) := by decide +kernel
theorem dX4_advance_38 : decode cX4_advance 38 = .ok (.getfield 45, 3) := by decide +kernel
theorem dX4_advance_41 : decode cX4_advance 41 = .ok (.iaload, 1) := by decide +kernel
theorem dX4_advance_42 : decode cX4_advance 42 = .ok (.bipush 10, 2) := by decide +kernel
theorem dX4_advance_44 : decode cX4_advance 44 = .ok (.if_icmp .ne 16, 3) := by decide +kernel
theorem dX4_advance_47 : decode cX4_advance 47 = .ok (.aload_n 0, 1) := by decide +kernel
theorem dX4_advance_48 : decode cX4_advance 48 = .ok (.dup, 1) := by decide +kernel
theorem dX4_advance_49 : decode cX4_advance 49 = .ok (.getfield 45, 3) := by decide +kernel
theorem dX4_advance_52 : decode cX4_advance 52 = .ok (.iconst 1, 1) := by decide +kernel
theorem dX4_advance_53 : decode cX4_advance 53 = .ok (.iadd, 1) := by decide +kernel
theorem dX4_advance_54 : decode cX4_advance 54 = .ok (.putfield 45, 3) := by decide +kernel
theorem dX4_advance_57 : decode cX4_advance 57 = .ok (.goto (-46), 3) := by decide +kernel
theorem dX4_advance_60 : decode cX4_advance 60 = .ok (.aload_n 0, 1) := by decide +kernel
theorem dX4_advance_61 : decode cX4_advance 61 = .ok (.aload_n 0, 1) := by decide +kernel
theorem dX4_advance_62 : decode cX4_advance 62 = .ok (.getfield 45, 3) := by decide +kernel
theorem dX4_advance_65 : decode cX4_advance 65 = .ok (.iload_n 1, 1) := by decide +kernel
theorem dX4_advance_66 : decode cX4_advance 66 = .ok (.invokestatic 189, 3) := by decide +kernel
theorem dX4_advance_69 : decode cX4_advance 69 = .ok (.putfield 177, 3) := by decide +kernel
theorem dX4_advance_72 : decode cX4_advance 72 = .ok (.aload_n 0, 1) := by decide +kernel
theorem dX4_advance_73 : decode cX4_advance 73 = .ok (.getfield 45, 3) := by decide +kernel
theorem dX4_advance_76 : decode cX4_advance 76 = .ok (.iload_n 1, 1) := by decide +kernel
theorem dX4_advance_77 : decode cX4_advance 77 = .ok (.if_icmp .lt 9, 3) := by decide +kernel
theorem dX4_advance_80 : decode cX4_advance 80 = .ok (.aload_n 0, 1) := by decide +kernel
theorem dX4_advance_81 : decode cX4_advance 81 = .ok (.iconst 0, 1) := by decide +kernel
theorem dX4_advance_82 : decode cX4_advance 82 = .ok (.putfield 51, 3) := by decide +kernel
theorem dX4_advance_85 : decode cX4_advance 85 = .ok (.return_, 1) := by decide +kernel
theorem dX4_advance_86 : decode cX4_advance 86 = .ok (.aload_n 0, 1) := by decide +kernel
theorem dX4_advance_87 : decode cX4_advance 87 = .ok (.invokevirtual 195, 3) := by decide +kernel
theorem dX4_advance_90 : decode cX4_advance 90 = .ok (.ifCond .eq 4, 3) := by decide +kernel
theorem dX4_advance_93 : decode cX4_advance 93 = .ok (.return_, 1) := by decide +kernel
theorem dX4_advance_94 : decode cX4_advance 94 = .ok (.aload_n 0, 1) := by decide +kernel
theorem dX4_advance_95 : decode cX4_advance 95 = .ok (.getfield 9, 3) := by decide +kernel
theorem dX4_advance_98 : decode cX4_advance 98 = .ok (.aload_n 0, 1) := by decide +kernel
theorem dX4_advance_99 : decode cX4_advance 99 = .ok (.getfield 45, 3) := by decide +kernel
theorem dX4_advance_102 : decode cX4_advance 102 = .ok (.iaload, 1) := by decide +kernel
theorem dX4_advance_103 : decode cX4_advance 103 = .ok (.istore_n 2, 1) := by decide +kernel
theorem dX4_advance_104 : decode cX4_advance 104 = .ok (.aload_n 0, 1) := by decide +kernel
theorem dX4_advance_105 : decode cX4_advance 105 = .ok (.iload_n 2, 1) := by decide +kernel
theorem dX4_advance_106 : decode cX4_advance 106 = .ok (.bipush 59, 2) := by decide +kernel
theorem dX4_advance_108 : decode cX4_advance 108 = .ok (.if_icmp .ne 7, 3) := by decide +kernel
theorem dX4_advance_111 : decode cX4_advance 111 = .ok (.iconst 4, 1) := by decide +kernel
theorem dX4_advance_112 : decode cX4_advance 112 = .ok (.goto 14, 3) := by decide +kernel
theorem dX4_advance_115 : decode cX4_advance 115 = .ok (.iload_n 2, 1) := by decide +kernel
theorem dX4_advance_116 : decode cX4_advance 116 = .ok (.bipush 45, 2) := by decide +kernel
theorem dX4_advance_118 : decode cX4_advance 118 = .ok (.if_icmp .ne 7, 3) := by decide +kernel
theorem dX4_advance_121 : decode cX4_advance 121 = .ok (.iconst 5, 1) := by decide +kernel
theorem dX4_advance_122 : decode cX4_advance 122 = .ok (.goto 4, 3) := by decide +kernel
theorem dX4_advance_125 : decode cX4_advance 125 = .ok (.iconst 1, 1) := by decide +kernel
theorem dX4_advance_126 : decode cX4_advance 126 = .ok (.putfield 51, 3) := by decide +kernel
theorem dX4_advance_129 : decode cX4_advance 129 = .ok (.aload_n 0, 1) := by decide +kernel
theorem dX4_advance_130 : decode cX4_advance 130 = .ok (.dup, 1) := by decide +kernel
theorem dX4_advance_131 : decode cX4_advance 131 = .ok (.getfield 45, 3) := by decide +kernel
theorem dX4_advance_134 : decode cX4_advance 134 = .ok (.iconst 1, 1) := by decide +kernel
theorem dX4_advance_135 : decode cX4_advance 135 = .ok (.iadd, 1) := by decide +kernel
theorem dX4_advance_136 : decode cX4_advance 136 = .ok (.putfield 45, 3) := by decide +kernel
theorem dX4_advance_139 : decode cX4_advance 139 = .ok (.return_, 1) := by decide +kernel
theorem dX4_readRun_0 : decode cX4_readRun 0 = .ok (.iconst 0, 1) := by decide +kernel
theorem dX4_readRun_1 : decode cX4_readRun 1 = .ok (.istore_n 1, 1) := by decide +kernel
theorem dX4_readRun_2 : decode cX4_readRun 2 = .ok (.iconst 0, 1) := by decide +kernel
theorem dX4_readRun_3 : decode cX4_readRun 3 = .ok (.istore_n 2, 1) := by decide +kernel
theorem dX4_readRun_4 : decode cX4_readRun 4 = .ok (.aload_n 0, 1) := by decide +kernel
theorem dX4_readRun_5 : decode cX4_readRun 5 = .ok (.lconst 0, 1) := by decide +kernel
theorem dX4_readRun_6 : decode cX4_readRun 6 = .ok (.putfield 79, 3) := by decide +kernel
theorem dX4_readRun_9 : decode cX4_readRun 9 = .ok (.aload_n 0, 1) := by decide +kernel
theorem dX4_readRun_10 : decode cX4_readRun 10 = .ok (.iconst 0, 1) := by decide +kernel
theorem dX4_readRun_11 : decode cX4_readRun 11 = .ok (.putfield 121, 3) := by decide +kernel
theorem dX4_readRun_14 : decode cX4_readRun 14 = .ok (.aload_n 0, 1) := by decide +kernel
theorem dX4_readRun_15 : decode cX4_readRun 15 = .ok (.getfield 45, 3) := by decide +kernel
theorem dX4_readRun_18 : decode cX4_readRun 18 = .ok (.aload_n 0, 1) := by decide +kernel
theorem dX4_readRun_19 : decode cX4_readRun 19 = .ok (.getfield 29, 3) := by decide +kernel
theorem dX4_readRun_22 : decode cX4_readRun 22 = .ok (.if_icmp .ge 101, 3) := by decide +kernel
theorem dX4_readRun_25 : decode cX4_readRun 25 = .ok (.aload_n 0, 1) := by decide +kernel
theorem dX4_readRun_26 : decode cX4_readRun 26 = .ok (.getfield 9, 3) := by decide +kernel
theorem dX4_readRun_29 : decode cX4_readRun 29 = .ok (.aload_n 0, 1) := by decide +kernel
theorem dX4_readRun_30 : decode cX4_readRun 30 = .ok (.getfield 45, 3) := by decide +kernel
theorem dX4_readRun_33 : decode cX4_readRun 33 = .ok (.iaload, 1) := by decide +kernel
theorem dX4_readRun_34 : decode cX4_readRun 34 = .ok (.istore_n 3, 1) := by decide +kernel
theorem dX4_readRun_35 : decode cX4_readRun 35 = .ok (.iload_n 3, 1) := by decide +kernel
theorem dX4_readRun_36 : decode cX4_readRun 36 = .ok (.bipush 97, 2) := by decide +kernel
theorem dX4_readRun_38 : decode cX4_readRun 38 = .ok (.if_icmp .lt 29, 3) := by decide +kernel
theorem dX4_readRun_41 : decode cX4_readRun 41 = .ok (.iload_n 3, 1) := by decide +kernel
theorem dX4_readRun_42 : decode cX4_readRun 42 = .ok (.bipush 122, 2) := by decide +kernel
theorem dX4_readRun_44 : decode cX4_readRun 44 = .ok (.if_icmp .gt 23, 3) := by decide +kernel
theorem dX4_readRun_47 : decode cX4_readRun 47 = .ok (.iinc 1 1, 3) := by decide +kernel
theorem dX4_readRun_50 : decode cX4_readRun 50 = .ok (.aload_n 0, 1) := by decide +kernel
theorem dX4_readRun_51 : decode cX4_readRun 51 = .ok (.aload_n 0, 1) := by decide +kernel
theorem dX4_readRun_52 : decode cX4_readRun 52 = .ok (.getfield 79, 3) := by decide +kernel
theorem dX4_readRun_55 : decode cX4_readRun 55 = .ok (.bipush 8, 2) := by decide +kernel
theorem dX4_readRun_57 : decode cX4_readRun 57 = .ok (.lshl, 1) := by decide +kernel
theorem dX4_readRun_58 : decode cX4_readRun 58 = .ok (.iload_n 3, 1) := by decide +kernel
theorem dX4_readRun_59 : decode cX4_readRun 59 = .ok (.i2l, 1) := by decide +kernel
theorem dX4_readRun_60 : decode cX4_readRun 60 = .ok (.lor, 1) := by decide +kernel
theorem dX4_readRun_61 : decode cX4_readRun 61 = .ok (.putfield 79, 3) := by decide +kernel
theorem dX4_readRun_64 : decode cX4_readRun 64 = .ok (.goto 46, 3) := by decide +kernel
theorem dX4_readRun_67 : decode cX4_readRun 67 = .ok (.iload_n 3, 1) := by decide +kernel
theorem dX4_readRun_68 : decode cX4_readRun 68 = .ok (.bipush 48, 2) := by decide +kernel
theorem dX4_readRun_70 : decode cX4_readRun 70 = .ok (.if_icmp .lt 53, 3) := by decide +kernel
theorem dX4_readRun_73 : decode cX4_readRun 73 = .ok (.iload_n 3, 1) := by decide +kernel
theorem dX4_readRun_74 : decode cX4_readRun 74 = .ok (.bipush 57, 2) := by decide +kernel
theorem dX4_readRun_76 : decode cX4_readRun 76 = .ok (.if_icmp .gt 47, 3) := by decide +kernel
theorem dX4_readRun_79 : decode cX4_readRun 79 = .ok (.iinc 2 1, 3) := by decide +kernel
theorem dX4_readRun_82 : decode cX4_readRun 82 = .ok (.aload_n 0, 1) := by decide +kernel
theorem dX4_readRun_83 : decode cX4_readRun 83 = .ok (.iload_n 2, 1) := by decide +kernel
theorem dX4_readRun_84 : decode cX4_readRun 84 = .ok (.iconst 3, 1) := by decide +kernel
theorem dX4_readRun_85 : decode cX4_readRun 85 = .ok (.if_icmp .gt 18, 3) := by decide +kernel
theorem dX4_readRun_88 : decode cX4_readRun 88 = .ok (.aload_n 0, 1) := by decide +kernel
theorem dX4_readRun_89 : decode cX4_readRun 89 = .ok (.getfield 121, 3) := by decide +kernel
theorem dX4_readRun_92 : decode cX4_readRun 92 = .ok (.bipush 10, 2) := by decide +kernel
theorem dX4_readRun_94 : decode cX4_readRun 94 = .ok (.imul, 1) := by decide +kernel
theorem dX4_readRun_95 : decode cX4_readRun 95 = .ok (.iload_n 3, 1) := by decide +kernel
theorem dX4_readRun_96 : decode cX4_readRun 96 = .ok (.iadd, 1) := by decide +kernel
theorem dX4_readRun_97 : decode cX4_readRun 97 = .ok (.bipush 48, 2) := by decide +kernel
theorem dX4_readRun_99 : decode cX4_readRun 99 = .ok (.isub, 1) := by decide +kernel
theorem dX4_readRun_100 : decode cX4_readRun 100 = .ok (.goto 7, 3) := by decide +kernel
theorem dX4_readRun_103 : decode cX4_readRun 103 = .ok (.aload_n 0, 1) := by decide +kernel
theorem dX4_readRun_104 : decode cX4_readRun 104 = .ok (.getfield 121, 3) := by decide +kernel
theorem dX4_readRun_107 : decode cX4_readRun 107 = .ok (.putfield 121, 3) := by decide +kernel
theorem dX4_readRun_110 : decode cX4_readRun 110 = .ok (.aload_n 0, 1) := by decide +kernel
theorem dX4_readRun_111 : decode cX4_readRun 111 = .ok (.dup, 1) := by decide +kernel
theorem dX4_readRun_112 : decode cX4_readRun 112 = .ok (.getfield 45, 3) := by decide +kernel
theorem dX4_readRun_115 : decode cX4_readRun 115 = .ok (.iconst 1, 1) := by decide +kernel
theorem dX4_readRun_116 : decode cX4_readRun 116 = .ok (.iadd, 1) := by decide +kernel
theorem dX4_readRun_117 : decode cX4_readRun 117 = .ok (.putfield 45, 3) := by decide +kernel
theorem dX4_readRun_120 : decode cX4_readRun 120 = .ok (.goto (-106), 3) := by decide +kernel
theorem dX4_readRun_123 : decode cX4_readRun 123 = .ok (.iload_n 2, 1) := by decide +kernel
theorem dX4_readRun_124 : decode cX4_readRun 124 = .ok (.ifCond .ne 13, 3) := by decide +kernel
theorem dX4_readRun_127 : decode cX4_readRun 127 = .ok (.iload_n 1, 1) := by decide +kernel
theorem dX4_readRun_128 : decode cX4_readRun 128 = .ok (.bipush 7, 2) := by decide +kernel
theorem dX4_readRun_130 : decode cX4_readRun 130 = .ok (.if_icmp .gt 7, 3) := by decide +kernel
theorem dX4_readRun_133 : decode cX4_readRun 133 = .ok (.iconst 1, 1) := by decide +kernel
theorem dX4_readRun_134 : decode cX4_readRun 134 = .ok (.goto 4, 3) := by decide +kernel
theorem dX4_readRun_137 : decode cX4_readRun 137 = .ok (.iconst 0, 1) := by decide +kernel
theorem dX4_readRun_138 : decode cX4_readRun 138 = .ok (.istore_n 3, 1) := by decide +kernel
theorem dX4_readRun_139 : decode cX4_readRun 139 = .ok (.iload_n 1, 1) := by decide +kernel
theorem dX4_readRun_140 : decode cX4_readRun 140 = .ok (.ifCond .ne 12, 3) := by decide +kernel
theorem dX4_readRun_143 : decode cX4_readRun 143 = .ok (.iload_n 2, 1) := by decide +kernel
theorem dX4_readRun_144 : decode cX4_readRun 144 = .ok (.iconst 3, 1) := by decide +kernel
theorem dX4_readRun_145 : decode cX4_readRun 145 = .ok (.if_icmp .gt 7, 3) := by decide +kernel
theorem dX4_readRun_148 : decode cX4_readRun 148 = .ok (.iconst 1, 1) := by decide +kernel
theorem dX4_readRun_149 : decode cX4_readRun 149 = .ok (.goto 4, 3) := by decide +kernel
theorem dX4_readRun_152 : decode cX4_readRun 152 = .ok (.iconst 0, 1) := by decide +kernel
theorem dX4_readRun_153 : decode cX4_readRun 153 = .ok (.istore 4, 2) := by decide +kernel
theorem dX4_readRun_155 : decode cX4_readRun 155 = .ok (.aload_n 0, 1) := by decide +kernel
theorem dX4_readRun_156 : decode cX4_readRun 156 = .ok (.iload_n 3, 1) := by decide +kernel
theorem dX4_readRun_157 : decode cX4_readRun 157 = .ok (.ifCond .eq 7, 3) := by decide +kernel
theorem dX4_readRun_160 : decode cX4_readRun 160 = .ok (.iconst 2, 1) := by decide +kernel
theorem dX4_readRun_161 : decode cX4_readRun 161 = .ok (.goto 13, 3) := by decide +kernel
theorem dX4_readRun_164 : decode cX4_readRun 164 = .ok (.iload 4, 2) := by decide +kernel
theorem dX4_readRun_166 : decode cX4_readRun 166 = .ok (.ifCond .eq 7, 3) := by decide +kernel
theorem dX4_readRun_169 : decode cX4_readRun 169 = .ok (.iconst 3, 1) := by decide +kernel
theorem dX4_readRun_170 : decode cX4_readRun 170 = .ok (.goto 4, 3) := by decide +kernel
theorem dX4_readRun_173 : decode cX4_readRun 173 = .ok (.iconst 1, 1) := by decide +kernel
theorem dX4_readRun_174 : decode cX4_readRun 174 = .ok (.putfield 51, 3) := by decide +kernel
theorem dX4_readRun_177 : decode cX4_readRun 177 = .ok (.iload_n 1, 1) := by decide +kernel
theorem dX4_readRun_178 : decode cX4_readRun 178 = .ok (.iload_n 2, 1) := by decide +kernel
theorem dX4_readRun_179 : decode cX4_readRun 179 = .ok (.iadd, 1) := by decide +kernel
theorem dX4_readRun_180 : decode cX4_readRun 180 = .ok (.ifCond .le 7, 3) := by decide +kernel
theorem dX4_readRun_183 : decode cX4_readRun 183 = .ok (.iconst 1, 1) := by decide +kernel
theorem dX4_readRun_184 : decode cX4_readRun 184 = .ok (.goto 4, 3) := by decide +kernel
theorem dX4_readRun_187 : decode cX4_readRun 187 = .ok (.iconst 0, 1) := by decide +kernel
theorem dX4_readRun_188 : decode cX4_readRun 188 = .ok (.ireturn, 1) := by decide +kernel
theorem dX5_init_0 : decode cX5_init 0 = .ok (.aload_n 0, 1) := by decide +kernel
theorem dX5_init_1 : decode cX5_init 1 = .ok (.invokespecial 3, 3) := by decide +kernel
theorem dX5_init_4 : decode cX5_init 4 = .ok (.aload_n 0, 1) := by decide +kernel
theorem dX5_init_5 : decode cX5_init 5 = .ok (.bipush 46, 2) := by decide +kernel
theorem dX5_init_7 : decode cX5_init 7 = .ok (.bipush 70, 2) := by decide +kernel
theorem dX5_init_9 : decode cX5_init 9 = .ok (.multianewarray 11 2, 4) := by decide +kernel
theorem dX5_init_13 : decode cX5_init 13 = .ok (.putfield 13, 3) := by decide +kernel
theorem dX5_init_16 : decode cX5_init 16 = .ok (.aload_n 0, 1) := by decide +kernel
theorem dX5_init_17 : decode cX5_init 17 = .ok (.bipush 46, 2) := by decide +kernel
theorem dX5_init_19 : decode cX5_init 19 = .ok (.newarray .int, 2) := by decide +kernel
theorem dX5_init_21 : decode cX5_init 21 = .ok (.putfield 16, 3) := by decide +kernel
theorem dX5_init_24 : decode cX5_init 24 = .ok (.return_, 1) := by decide +kernel
theorem dX5_reduce_0 : decode cX5_reduce 0 = .ok (.iconst 0, 1) := by decide +kernel
theorem dX5_reduce_1 : decode cX5_reduce 1 = .ok (.istore 5, 2) := by decide +kernel
theorem dX5_reduce_3 : decode cX5_reduce 3 = .ok (.iconst 0, 1) := by decide +kernel
theorem dX5_reduce_4 : decode cX5_reduce 4 = .ok (.istore 6, 2) := by decide +kernel
theorem dX5_reduce_6 : decode cX5_reduce 6 = .ok (.iload 6, 2) := by decide +kernel
theorem dX5_reduce_8 : decode cX5_reduce 8 = .ok (.iload_n 3, 1) := by decide +kernel
theorem dX5_reduce_9 : decode cX5_reduce 9 = .ok (.if_icmp .ge 88, 3) := by decide +kernel
theorem dX5_reduce_12 : decode cX5_reduce 12 = .ok (.iload 5, 2) := by decide +kernel
theorem dX5_reduce_14 : decode cX5_reduce 14 = .ok (.iload_n 1, 1) := by decide +kernel
theorem dX5_reduce_15 : decode cX5_reduce 15 = .ok (.if_icmp .ge 82, 3) := by decide +kernel
theorem dX5_reduce_18 : decode cX5_reduce 18 = .ok (.aload_n 0, 1) := by decide +kernel
theorem dX5_reduce_19 : decode cX5_reduce 19 = .ok (.iload 6, 2) := by decide +kernel
theorem dX5_reduce_21 : decode cX5_reduce 21 = .ok (.iload 5, 2) := by decide +kernel
theorem dX5_reduce_23 : decode cX5_reduce 23 = .ok (.iload_n 1, 1) := by decide +kernel
theorem dX5_reduce_24 : decode cX5_reduce 24 = .ok (.invokevirtual 20, 3) := by decide +kernel
theorem dX5_reduce_27 : decode cX5_reduce 27 = .ok (.istore 7, 2) := by decide +kernel
theorem dX5_reduce_29 : decode cX5_reduce 29 = .ok (.iload 7, 2) := by decide +kernel
theorem dX5_reduce_31 : decode cX5_reduce 31 = .ok (.iconst (-1), 1) := by decide +kernel
theorem dX5_reduce_32 : decode cX5_reduce 32 = .ok (.if_icmp .eq 59, 3) := by decide +kernel
theorem dX5_reduce_35 : decode cX5_reduce 35 = .ok (.aload_n 0, 1) := by decide +kernel
theorem dX5_reduce_36 : decode cX5_reduce 36 = .ok (.iload 5, 2) := by decide +kernel
theorem dX5_reduce_38 : decode cX5_reduce 38 = .ok (.iload 7, 2) := by decide +kernel
theorem dX5_reduce_40 : decode cX5_reduce 40 = .ok (.invokevirtual 24, 3) := by decide +kernel
theorem dX5_reduce_43 : decode cX5_reduce 43 = .ok (.aload_n 0, 1) := by decide +kernel
theorem dX5_reduce_44 : decode cX5_reduce 44 = .ok (.iload 5, 2) := by decide +kernel
theorem dX5_reduce_46 : decode cX5_reduce 46 = .ok (.iload_n 2, 1) := by decide +kernel
theorem dX5_reduce_47 : decode cX5_reduce 47 = .ok (.aload_n 0, 1) := by decide +kernel
theorem dX5_reduce_48 : decode cX5_reduce 48 = .ok (.getfield 13, 3) := by decide +kernel
theorem dX5_reduce_51 : decode cX5_reduce 51 = .ok (.iload 5, 2) := by decide +kernel
theorem dX5_reduce_53 : decode cX5_reduce 53 = .ok (.aaload, 1) := by decide +kernel
theorem dX5_reduce_54 : decode cX5_reduce 54 = .ok (.iload 6, 2) := by decide +kernel
theorem dX5_reduce_56 : decode cX5_reduce 56 = .ok (.iaload, 1) := by decide +kernel
theorem dX5_reduce_57 : decode cX5_reduce 57 = .ok (.iload 4, 2) := by decide +kernel
theorem dX5_reduce_59 : decode cX5_reduce 59 = .ok (.invokestatic 28, 3) := by decide +kernel
theorem dX5_reduce_62 : decode cX5_reduce 62 = .ok (.iload 4, 2) := by decide +kernel
theorem dX5_reduce_64 : decode cX5_reduce 64 = .ok (.invokevirtual 32, 3) := by decide +kernel
theorem dX5_reduce_67 : decode cX5_reduce 67 = .ok (.aload_n 0, 1) := by decide +kernel
theorem dX5_reduce_68 : decode cX5_reduce 68 = .ok (.iload 5, 2) := by decide +kernel
theorem dX5_reduce_70 : decode cX5_reduce 70 = .ok (.iload 6, 2) := by decide +kernel
theorem dX5_reduce_72 : decode cX5_reduce 72 = .ok (.iload_n 1, 1) := by decide +kernel
theorem dX5_reduce_73 : decode cX5_reduce 73 = .ok (.iload_n 2, 1) := by decide +kernel
theorem dX5_reduce_74 : decode cX5_reduce 74 = .ok (.iload 4, 2) := by decide +kernel
theorem dX5_reduce_76 : decode cX5_reduce 76 = .ok (.invokevirtual 36, 3) := by decide +kernel
theorem dX5_reduce_79 : decode cX5_reduce 79 = .ok (.aload_n 0, 1) := by decide +kernel
theorem dX5_reduce_80 : decode cX5_reduce 80 = .ok (.getfield 16, 3) := by decide +kernel
theorem dX5_reduce_83 : decode cX5_reduce 83 = .ok (.iload 5, 2) := by decide +kernel
theorem dX5_reduce_85 : decode cX5_reduce 85 = .ok (.iload 6, 2) := by decide +kernel
theorem dX5_reduce_87 : decode cX5_reduce 87 = .ok (.iastore, 1) := by decide +kernel
theorem dX5_reduce_88 : decode cX5_reduce 88 = .ok (.iinc 5 1, 3) := by decide +kernel
theorem dX5_reduce_91 : decode cX5_reduce 91 = .ok (.iinc 6 1, 3) := by decide +kernel
theorem dX5_reduce_94 : decode cX5_reduce 94 = .ok (.goto (-88), 3) := by decide +kernel
theorem dX5_reduce_97 : decode cX5_reduce 97 = .ok (.iload 5, 2) := by decide +kernel
theorem dX5_reduce_99 : decode cX5_reduce 99 = .ok (.ireturn, 1) := by decide +kernel
theorem dX5_columnsMade_0 : decode cX5_columnsMade 0 = .ok (.aload_n 0, 1) := by decide +kernel
theorem dX5_columnsMade_1 : decode cX5_columnsMade 1 = .ok (.iload_n 1, 1) := by decide +kernel
theorem dX5_columnsMade_2 : decode cX5_columnsMade 2 = .ok (.iload_n 1, 1) := by decide +kernel
theorem dX5_columnsMade_3 : decode cX5_columnsMade 3 = .ok (.aload_n 2, 1) := by decide +kernel
theorem dX5_columnsMade_4 : decode cX5_columnsMade 4 = .ok (.getfield 40, 3) := by decide +kernel
theorem dX5_columnsMade_7 : decode cX5_columnsMade 7 = .ok (.iadd, 1) := by decide +kernel
theorem dX5_columnsMade_8 : decode cX5_columnsMade 8 = .ok (.iload_n 1, 1) := by decide +kernel
theorem dX5_columnsMade_9 : decode cX5_columnsMade 9 = .ok (.aload_n 2, 1) := by decide +kernel
theorem dX5_columnsMade_10 : decode cX5_columnsMade 10 = .ok (.getfield 46, 3) := by decide +kernel
theorem dX5_columnsMade_13 : decode cX5_columnsMade 13 = .ok (.invokevirtual 49, 3) := by decide +kernel
theorem dX5_columnsMade_16 : decode cX5_columnsMade 16 = .ok (.istore_n 3, 1) := by decide +kernel
theorem dX5_columnsMade_17 : decode cX5_columnsMade 17 = .ok (.lconst 0, 1) := by decide +kernel
theorem dX5_columnsMade_18 : decode cX5_columnsMade 18 = .ok (.lstore 4, 2) := by decide +kernel
theorem dX5_columnsMade_20 : decode cX5_columnsMade 20 = .ok (.iconst 0, 1) := by decide +kernel
theorem dX5_columnsMade_21 : decode cX5_columnsMade 21 = .ok (.istore 6, 2) := by decide +kernel
theorem dX5_columnsMade_23 : decode cX5_columnsMade 23 = .ok (.iload 6, 2) := by decide +kernel
theorem dX5_columnsMade_25 : decode cX5_columnsMade 25 = .ok (.aload_n 2, 1) := by decide +kernel
theorem dX5_columnsMade_26 : decode cX5_columnsMade 26 = .ok (.getfield 40, 3) := by decide +kernel
theorem dX5_columnsMade_29 : decode cX5_columnsMade 29 = .ok (.if_icmp .ge 32, 3) := by decide +kernel
theorem dX5_columnsMade_32 : decode cX5_columnsMade 32 = .ok (.aload_n 0, 1) := by decide +kernel
theorem dX5_columnsMade_33 : decode cX5_columnsMade 33 = .ok (.iload_n 1, 1) := by decide +kernel
theorem dX5_columnsMade_34 : decode cX5_columnsMade 34 = .ok (.iload 6, 2) := by decide +kernel
theorem dX5_columnsMade_36 : decode cX5_columnsMade 36 = .ok (.iadd, 1) := by decide +kernel
theorem dX5_columnsMade_37 : decode cX5_columnsMade 37 = .ok (.iload_n 3, 1) := by decide +kernel
theorem dX5_columnsMade_38 : decode cX5_columnsMade 38 = .ok (.iload_n 1, 1) := by decide +kernel
theorem dX5_columnsMade_39 : decode cX5_columnsMade 39 = .ok (.invokevirtual 20, 3) := by decide +kernel
theorem dX5_columnsMade_42 : decode cX5_columnsMade 42 = .ok (.iconst (-1), 1) := by decide +kernel
theorem dX5_columnsMade_43 : decode cX5_columnsMade 43 = .ok (.if_icmp .ne 12, 3) := by decide +kernel
theorem dX5_columnsMade_46 : decode cX5_columnsMade 46 = .ok (.lload 4, 2) := by decide +kernel
theorem dX5_columnsMade_48 : decode cX5_columnsMade 48 = .ok (.lconst 1, 1) := by decide +kernel
theorem dX5_columnsMade_49 : decode cX5_columnsMade 49 = .ok (.iload 6, 2) := by decide +kernel
theorem dX5_columnsMade_51 : decode cX5_columnsMade 51 = .ok (.lshl, 1) := by decide +kernel
theorem dX5_columnsMade_52 : decode cX5_columnsMade 52 = .ok (.lor, 1) := by decide +kernel
theorem dX5_columnsMade_53 : decode cX5_columnsMade 53 = .ok (.lstore 4, 2) := by decide +kernel
theorem dX5_columnsMade_55 : decode cX5_columnsMade 55 = .ok (.iinc 6 1, 3) := by decide +kernel
theorem dX5_columnsMade_58 : decode cX5_columnsMade 58 = .ok (.goto (-35), 3) := by decide +kernel
theorem dX5_columnsMade_61 : decode cX5_columnsMade 61 = .ok (.lload 4, 2) := by decide +kernel
theorem dX5_columnsMade_63 : decode cX5_columnsMade 63 = .ok (.lreturn, 1) := by decide +kernel
theorem dX5_solve_0 : decode cX5_solve 0 = .ok (.aload_n 0, 1) := by decide +kernel
theorem dX5_solve_1 : decode cX5_solve 1 = .ok (.iload_n 1, 1) := by decide +kernel
theorem dX5_solve_2 : decode cX5_solve 2 = .ok (.iload_n 2, 1) := by decide +kernel
theorem dX5_solve_3 : decode cX5_solve 3 = .ok (.iconst 1, 1) := by decide +kernel
theorem dX5_solve_4 : decode cX5_solve 4 = .ok (.iadd, 1) := by decide +kernel
theorem dX5_solve_5 : decode cX5_solve 5 = .ok (.iload_n 2, 1) := by decide +kernel
theorem dX5_solve_6 : decode cX5_solve 6 = .ok (.iload_n 3, 1) := by decide +kernel
theorem dX5_solve_7 : decode cX5_solve 7 = .ok (.invokevirtual 49, 3) := by decide +kernel
theorem dX5_solve_10 : decode cX5_solve 10 = .ok (.istore 5, 2) := by decide +kernel
theorem dX5_solve_12 : decode cX5_solve 12 = .ok (.aload_n 0, 1) := by decide +kernel
theorem dX5_solve_13 : decode cX5_solve 13 = .ok (.iload_n 2, 1) := by decide +kernel
theorem dX5_solve_14 : decode cX5_solve 14 = .ok (.iload 5, 2) := by decide +kernel
theorem dX5_solve_16 : decode cX5_solve 16 = .ok (.iload_n 1, 1) := by decide +kernel
theorem dX5_solve_17 : decode cX5_solve 17 = .ok (.invokevirtual 20, 3) := by decide +kernel
theorem dX5_solve_20 : decode cX5_solve 20 = .ok (.iconst (-1), 1) := by decide +kernel
theorem dX5_solve_21 : decode cX5_solve 21 = .ok (.if_icmp .eq 5, 3) := by decide +kernel
theorem dX5_solve_24 : decode cX5_solve 24 = .ok (.iconst 0, 1) := by decide +kernel
theorem dX5_solve_25 : decode cX5_solve 25 = .ok (.ireturn, 1) := by decide +kernel
theorem dX5_solve_26 : decode cX5_solve 26 = .ok (.aload 4, 2) := by decide +kernel
theorem dX5_solve_28 : decode cX5_solve 28 = .ok (.iload_n 2, 1) := by decide +kernel
theorem dX5_solve_29 : decode cX5_solve 29 = .ok (.putfield 53, 3) := by decide +kernel
theorem dX5_solve_32 : decode cX5_solve 32 = .ok (.iconst 0, 1) := by decide +kernel
theorem dX5_solve_33 : decode cX5_solve 33 = .ok (.istore 6, 2) := by decide +kernel
theorem dX5_solve_35 : decode cX5_solve 35 = .ok (.iload 6, 2) := by decide +kernel
theorem dX5_solve_37 : decode cX5_solve 37 = .ok (.iload_n 2, 1) := by decide +kernel
theorem dX5_solve_38 : decode cX5_solve 38 = .ok (.if_icmp .ge 18, 3) := by decide +kernel
theorem dX5_solve_41 : decode cX5_solve 41 = .ok (.aload 4, 2) := by decide +kernel
theorem dX5_solve_43 : decode cX5_solve 43 = .ok (.getfield 58, 3) := by decide +kernel
theorem dX5_solve_46 : decode cX5_solve 46 = .ok (.iload 6, 2) := by decide +kernel
theorem dX5_solve_48 : decode cX5_solve 48 = .ok (.iconst 0, 1) := by decide +kernel
theorem dX5_solve_49 : decode cX5_solve 49 = .ok (.iastore, 1) := by decide +kernel
theorem dX5_solve_50 : decode cX5_solve 50 = .ok (.iinc 6 1, 3) := by decide +kernel
theorem dX5_solve_53 : decode cX5_solve 53 = .ok (.goto (-18), 3) := by decide +kernel
theorem dX5_solve_56 : decode cX5_solve 56 = .ok (.iconst 0, 1) := by decide +kernel
theorem dX5_solve_57 : decode cX5_solve 57 = .ok (.istore 6, 2) := by decide +kernel
theorem dX5_solve_59 : decode cX5_solve 59 = .ok (.iload 6, 2) := by decide +kernel
theorem dX5_solve_61 : decode cX5_solve 61 = .ok (.iload 5, 2) := by decide +kernel
theorem dX5_solve_63 : decode cX5_solve 63 = .ok (.if_icmp .ge 31, 3) := by decide +kernel
theorem dX5_solve_66 : decode cX5_solve 66 = .ok (.aload 4, 2) := by decide +kernel
theorem dX5_solve_68 : decode cX5_solve 68 = .ok (.getfield 58, 3) := by decide +kernel
theorem dX5_solve_71 : decode cX5_solve 71 = .ok (.aload_n 0, 1) := by decide +kernel
theorem dX5_solve_72 : decode cX5_solve 72 = .ok (.getfield 16, 3) := by decide +kernel
theorem dX5_solve_75 : decode cX5_solve 75 = .ok (.iload 6, 2) := by decide +kernel
theorem dX5_solve_77 : decode cX5_solve 77 = .ok (.iaload, 1) := by decide +kernel
theorem dX5_solve_78 : decode cX5_solve 78 = .ok (.aload_n 0, 1) := by decide +kernel
theorem dX5_solve_79 : decode cX5_solve 79 = .ok (.getfield 13, 3) := by decide +kernel
theorem dX5_solve_82 : decode cX5_solve 82 = .ok (.iload 6, 2) := by decide +kernel
theorem dX5_solve_84 : decode cX5_solve 84 = .ok (.aaload, 1) := by decide +kernel
theorem dX5_solve_85 : decode cX5_solve 85 = .ok (.iload_n 2, 1) := by decide +kernel
theorem dX5_solve_86 : decode cX5_solve 86 = .ok (.iaload, 1) := by decide +kernel
theorem dX5_solve_87 : decode cX5_solve 87 = .ok (.iastore, 1) := by decide +kernel
theorem dX5_solve_88 : decode cX5_solve 88 = .ok (.iinc 6 1, 3) := by decide +kernel
theorem dX5_solve_91 : decode cX5_solve 91 = .ok (.goto (-32), 3) := by decide +kernel
theorem dX5_solve_94 : decode cX5_solve 94 = .ok (.iconst 1, 1) := by decide +kernel
theorem dX5_solve_95 : decode cX5_solve 95 = .ok (.ireturn, 1) := by decide +kernel
theorem dX5_rowWith_0 : decode cX5_rowWith 0 = .ok (.iload_n 2, 1) := by decide +kernel
theorem dX5_rowWith_1 : decode cX5_rowWith 1 = .ok (.istore 4, 2) := by decide +kernel
theorem dX5_rowWith_3 : decode cX5_rowWith 3 = .ok (.iload 4, 2) := by decide +kernel
theorem dX5_rowWith_5 : decode cX5_rowWith 5 = .ok (.iload_n 3, 1) := by decide +kernel
theorem dX5_rowWith_6 : decode cX5_rowWith 6 = .ok (.if_icmp .ge 24, 3) := by decide +kernel
theorem dX5_rowWith_9 : decode cX5_rowWith 9 = .ok (.aload_n 0, 1) := by decide +kernel
theorem dX5_rowWith_10 : decode cX5_rowWith 10 = .ok (.getfield 13, 3) := by decide +kernel
theorem dX5_rowWith_13 : decode cX5_rowWith 13 = .ok (.iload 4, 2) := by decide +kernel
theorem dX5_rowWith_15 : decode cX5_rowWith 15 = .ok (.aaload, 1) := by decide +kernel
theorem dX5_rowWith_16 : decode cX5_rowWith 16 = .ok (.iload_n 1, 1) := by decide +kernel
theorem dX5_rowWith_17 : decode cX5_rowWith 17 = .ok (.iaload, 1) := by decide +kernel
theorem dX5_rowWith_18 : decode cX5_rowWith 18 = .ok (.ifCond .eq 6, 3) := by decide +kernel
theorem dX5_rowWith_21 : decode cX5_rowWith 21 = .ok (.iload 4, 2) := by decide +kernel
theorem dX5_rowWith_23 : decode cX5_rowWith 23 = .ok (.ireturn, 1) := by decide +kernel
theorem dX5_rowWith_24 : decode cX5_rowWith 24 = .ok (.iinc 4 1, 3) := by decide +kernel
theorem dX5_rowWith_27 : decode cX5_rowWith 27 = .ok (.goto (-24), 3) := by decide +kernel
theorem dX5_rowWith_30 : decode cX5_rowWith 30 = .ok (.iconst (-1), 1) := by decide +kernel
theorem dX5_rowWith_31 : decode cX5_rowWith 31 = .ok (.ireturn, 1) := by decide +kernel
theorem dX5_exchange_0 : decode cX5_exchange 0 = .ok (.aload_n 0, 1) := by decide +kernel
theorem dX5_exchange_1 : decode cX5_exchange 1 = .ok (.getfield 13, 3) := by decide +kernel
theorem dX5_exchange_4 : decode cX5_exchange 4 = .ok (.iload_n 1, 1) := by decide +kernel
theorem dX5_exchange_5 : decode cX5_exchange 5 = .ok (.aaload, 1) := by decide +kernel
theorem dX5_exchange_6 : decode cX5_exchange 6 = .ok (.astore_n 3, 1) := by decide +kernel
theorem dX5_exchange_7 : decode cX5_exchange 7 = .ok (.aload_n 0, 1) := by decide +kernel
theorem dX5_exchange_8 : decode cX5_exchange 8 = .ok (.getfield 13, 3) := by decide +kernel
theorem dX5_exchange_11 : decode cX5_exchange 11 = .ok (.iload_n 1, 1) := by decide +kernel
theorem dX5_exchange_12 : decode cX5_exchange 12 = .ok (.aload_n 0, 1) := by decide +kernel
theorem dX5_exchange_13 : decode cX5_exchange 13 = .ok (.getfield 13, 3) := by decide +kernel
theorem dX5_exchange_16 : decode cX5_exchange 16 = .ok (.iload_n 2, 1) := by decide +kernel
theorem dX5_exchange_17 : decode cX5_exchange 17 = .ok (.aaload, 1) := by decide +kernel
theorem dX5_exchange_18 : decode cX5_exchange 18 = .ok (.aastore, 1) := by decide +kernel
theorem dX5_exchange_19 : decode cX5_exchange 19 = .ok (.aload_n 0, 1) := by decide +kernel
theorem dX5_exchange_20 : decode cX5_exchange 20 = .ok (.getfield 13, 3) := by decide +kernel
theorem dX5_exchange_23 : decode cX5_exchange 23 = .ok (.iload_n 2, 1) := by decide +kernel
theorem dX5_exchange_24 : decode cX5_exchange 24 = .ok (.aload_n 3, 1) := by decide +kernel
theorem dX5_exchange_25 : decode cX5_exchange 25 = .ok (.aastore, 1) := by decide +kernel
theorem dX5_exchange_26 : decode cX5_exchange 26 = .ok (.return_, 1) := by decide +kernel
theorem dX5_scaleRow_0 : decode cX5_scaleRow 0 = .ok (.iconst 0, 1) := by decide +kernel
theorem dX5_scaleRow_1 : decode cX5_scaleRow 1 = .ok (.istore 5, 2) := by decide +kernel
theorem dX5_scaleRow_3 : decode cX5_scaleRow 3 = .ok (.iload 5, 2) := by decide +kernel
theorem dX5_scaleRow_5 : decode cX5_scaleRow 5 = .ok (.iload_n 2, 1) := by decide +kernel
theorem dX5_scaleRow_6 : decode cX5_scaleRow 6 = .ok (.if_icmp .ge 33, 3) := by decide +kernel
theorem dX5_scaleRow_9 : decode cX5_scaleRow 9 = .ok (.aload_n 0, 1) := by decide +kernel
theorem dX5_scaleRow_10 : decode cX5_scaleRow 10 = .ok (.getfield 13, 3) := by decide +kernel
theorem dX5_scaleRow_13 : decode cX5_scaleRow 13 = .ok (.iload_n 1, 1) := by decide +kernel
theorem dX5_scaleRow_14 : decode cX5_scaleRow 14 = .ok (.aaload, 1) := by decide +kernel
theorem dX5_scaleRow_15 : decode cX5_scaleRow 15 = .ok (.iload 5, 2) := by decide +kernel
theorem dX5_scaleRow_17 : decode cX5_scaleRow 17 = .ok (.aload_n 0, 1) := by decide +kernel
theorem dX5_scaleRow_18 : decode cX5_scaleRow 18 = .ok (.getfield 13, 3) := by decide +kernel
theorem dX5_scaleRow_21 : decode cX5_scaleRow 21 = .ok (.iload_n 1, 1) := by decide +kernel
theorem dX5_scaleRow_22 : decode cX5_scaleRow 22 = .ok (.aaload, 1) := by decide +kernel
theorem dX5_scaleRow_23 : decode cX5_scaleRow 23 = .ok (.iload 5, 2) := by decide +kernel
theorem dX5_scaleRow_25 : decode cX5_scaleRow 25 = .ok (.iaload, 1) := by decide +kernel
theorem dX5_scaleRow_26 : decode cX5_scaleRow 26 = .ok (.iload_n 3, 1) := by decide +kernel
theorem dX5_scaleRow_27 : decode cX5_scaleRow 27 = .ok (.iload 4, 2) := by decide +kernel
theorem dX5_scaleRow_29 : decode cX5_scaleRow 29 = .ok (.invokestatic 61, 3) := by decide +kernel
theorem dX5_scaleRow_32 : decode cX5_scaleRow 32 = .ok (.iastore, 1) := by decide +kernel
theorem dX5_scaleRow_33 : decode cX5_scaleRow 33 = .ok (.iinc 5 1, 3) := by decide +kernel
theorem dX5_scaleRow_36 : decode cX5_scaleRow 36 = .ok (.goto (-33), 3) := by decide +kernel
theorem dX5_scaleRow_39 : decode cX5_scaleRow 39 = .ok (.return_, 1) := by decide +kernel
theorem dX5_clearColumn_0 : decode cX5_clearColumn 0 = .ok (.iconst 0, 1) := by decide +kernel
theorem dX5_clearColumn_1 : decode cX5_clearColumn 1 = .ok (.istore 6, 2) := by decide +kernel
theorem dX5_clearColumn_3 : decode cX5_clearColumn 3 = .ok (.iload 6, 2) := by decide +kernel
theorem dX5_clearColumn_5 : decode cX5_clearColumn 5 = .ok (.iload_n 3, 1) := by decide +kernel
theorem dX5_clearColumn_6 : decode cX5_clearColumn 6 = .ok (.if_icmp .ge 88, 3) := by decide +kernel
theorem dX5_clearColumn_9 : decode cX5_clearColumn 9 = .ok (.aload_n 0, 1) := by decide +kernel
theorem dX5_clearColumn_10 : decode cX5_clearColumn 10 = .ok (.getfield 13, 3) := by decide +kernel
theorem dX5_clearColumn_13 : decode cX5_clearColumn 13 = .ok (.iload 6, 2) := by decide +kernel
theorem dX5_clearColumn_15 : decode cX5_clearColumn 15 = .ok (.aaload, 1) := by decide +kernel
theorem dX5_clearColumn_16 : decode cX5_clearColumn 16 = .ok (.iload_n 2, 1) := by decide +kernel
theorem dX5_clearColumn_17 : decode cX5_clearColumn 17 = .ok (.iaload, 1) := by decide +kernel
theorem dX5_clearColumn_18 : decode cX5_clearColumn 18 = .ok (.istore 7, 2) := by decide +kernel
theorem dX5_clearColumn_20 : decode cX5_clearColumn 20 = .ok (.iload 6, 2) := by decide +kernel
theorem dX5_clearColumn_22 : decode cX5_clearColumn 22 = .ok (.iload_n 1, 1) := by decide +kernel
theorem dX5_clearColumn_23 : decode cX5_clearColumn 23 = .ok (.if_icmp .eq 65, 3) := by decide +kernel
theorem dX5_clearColumn_26 : decode cX5_clearColumn 26 = .ok (.iload 7, 2) := by decide +kernel
theorem dX5_clearColumn_28 : decode cX5_clearColumn 28 = .ok (.ifCond .eq 60, 3) := by decide +kernel
theorem dX5_clearColumn_31 : decode cX5_clearColumn 31 = .ok (.iload_n 2, 1) := by decide +kernel
theorem dX5_clearColumn_32 : decode cX5_clearColumn 32 = .ok (.istore 8, 2) := by decide +kernel
theorem dX5_clearColumn_34 : decode cX5_clearColumn 34 = .ok (.iload 8, 2) := by decide +kernel
theorem dX5_clearColumn_36 : decode cX5_clearColumn 36 = .ok (.iload 4, 2) := by decide +kernel
theorem dX5_clearColumn_38 : decode cX5_clearColumn 38 = .ok (.if_icmp .ge 50, 3) := by decide +kernel
theorem dX5_clearColumn_41 : decode cX5_clearColumn 41 = .ok (.aload_n 0, 1) := by decide +kernel
theorem dX5_clearColumn_42 : decode cX5_clearColumn 42 = .ok (.getfield 13, 3) := by decide +kernel
theorem dX5_clearColumn_45 : decode cX5_clearColumn 45 = .ok (.iload 6, 2) := by decide +kernel
theorem dX5_clearColumn_47 : decode cX5_clearColumn 47 = .ok (.aaload, 1) := by decide +kernel
theorem dX5_clearColumn_48 : decode cX5_clearColumn 48 = .ok (.iload 8, 2) := by decide +kernel
theorem dX5_clearColumn_50 : decode cX5_clearColumn 50 = .ok (.aload_n 0, 1) := by decide +kernel
theorem dX5_clearColumn_51 : decode cX5_clearColumn 51 = .ok (.getfield 13, 3) := by decide +kernel
theorem dX5_clearColumn_54 : decode cX5_clearColumn 54 = .ok (.iload 6, 2) := by decide +kernel
theorem dX5_clearColumn_56 : decode cX5_clearColumn 56 = .ok (.aaload, 1) := by decide +kernel
theorem dX5_clearColumn_57 : decode cX5_clearColumn 57 = .ok (.iload 8, 2) := by decide +kernel
theorem dX5_clearColumn_59 : decode cX5_clearColumn 59 = .ok (.iaload, 1) := by decide +kernel
theorem dX5_clearColumn_60 : decode cX5_clearColumn 60 = .ok (.iload 7, 2) := by decide +kernel
theorem dX5_clearColumn_62 : decode cX5_clearColumn 62 = .ok (.aload_n 0, 1) := by decide +kernel
theorem dX5_clearColumn_63 : decode cX5_clearColumn 63 = .ok (.getfield 13, 3) := by decide +kernel
theorem dX5_clearColumn_66 : decode cX5_clearColumn 66 = .ok (.iload_n 1, 1) := by decide +kernel
theorem dX5_clearColumn_67 : decode cX5_clearColumn 67 = .ok (.aaload, 1) := by decide +kernel
theorem dX5_clearColumn_68 : decode cX5_clearColumn 68 = .ok (.iload 8, 2) := by decide +kernel
theorem dX5_clearColumn_70 : decode cX5_clearColumn 70 = .ok (.iaload, 1) := by decide +kernel
theorem dX5_clearColumn_71 : decode cX5_clearColumn 71 = .ok (.iload 5, 2) := by decide +kernel
theorem dX5_clearColumn_73 : decode cX5_clearColumn 73 = .ok (.invokestatic 61, 3) := by decide +kernel
theorem dX5_clearColumn_76 : decode cX5_clearColumn 76 = .ok (.iload 5, 2) := by decide +kernel
theorem dX5_clearColumn_78 : decode cX5_clearColumn 78 = .ok (.invokestatic 64, 3) := by decide +kernel
theorem dX5_clearColumn_81 : decode cX5_clearColumn 81 = .ok (.iastore, 1) := by decide +kernel
theorem dX5_clearColumn_82 : decode cX5_clearColumn 82 = .ok (.iinc 8 1, 3) := by decide +kernel
theorem dX5_clearColumn_85 : decode cX5_clearColumn 85 = .ok (.goto (-51), 3) := by decide +kernel
theorem dX5_clearColumn_88 : decode cX5_clearColumn 88 = .ok (.iinc 6 1, 3) := by decide +kernel
theorem dX5_clearColumn_91 : decode cX5_clearColumn 91 = .ok (.goto (-88), 3) := by decide +kernel
theorem dX5_clearColumn_94 : decode cX5_clearColumn 94 = .ok (.return_, 1) := by decide +kernel
theorem dX6_init_0 : decode cX6_init 0 = .ok (.aload_n 0, 1) := by decide +kernel
theorem dX6_init_1 : decode cX6_init 1 = .ok (.invokespecial 3, 3) := by decide +kernel
theorem dX6_init_4 : decode cX6_init 4 = .ok (.aload_n 0, 1) := by decide +kernel
theorem dX6_init_5 : decode cX6_init 5 = .ok (.bipush 46, 2) := by decide +kernel
theorem dX6_init_7 : decode cX6_init 7 = .ok (.newarray .int, 2) := by decide +kernel
theorem dX6_init_9 : decode cX6_init 9 = .ok (.putfield 9, 3) := by decide +kernel
theorem dX6_init_12 : decode cX6_init 12 = .ok (.aload_n 0, 1) := by decide +kernel
theorem dX6_init_13 : decode cX6_init 13 = .ok (.new 15, 3) := by decide +kernel
theorem dX6_init_16 : decode cX6_init 16 = .ok (.dup, 1) := by decide +kernel
theorem dX6_init_17 : decode cX6_init 17 = .ok (.bipush 46, 2) := by decide +kernel
theorem dX6_init_19 : decode cX6_init 19 = .ok (.invokespecial 17, 3) := by decide +kernel
theorem dX6_init_22 : decode cX6_init 22 = .ok (.putfield 20, 3) := by decide +kernel
theorem dX6_init_25 : decode cX6_init 25 = .ok (.aload_n 0, 1) := by decide +kernel
theorem dX6_init_26 : decode cX6_init 26 = .ok (.new 15, 3) := by decide +kernel
theorem dX6_init_29 : decode cX6_init 29 = .ok (.dup, 1) := by decide +kernel
theorem dX6_init_30 : decode cX6_init 30 = .ok (.bipush 46, 2) := by decide +kernel
theorem dX6_init_32 : decode cX6_init 32 = .ok (.invokespecial 17, 3) := by decide +kernel
theorem dX6_init_35 : decode cX6_init 35 = .ok (.putfield 24, 3) := by decide +kernel
theorem dX6_init_38 : decode cX6_init 38 = .ok (.return_, 1) := by decide +kernel
theorem dX6_find_0 : decode cX6_find 0 = .ok (.iconst 0, 1) := by decide +kernel
theorem dX6_find_1 : decode cX6_find 1 = .ok (.istore 4, 2) := by decide +kernel
theorem dX6_find_3 : decode cX6_find 3 = .ok (.iload 4, 2) := by decide +kernel
theorem dX6_find_5 : decode cX6_find 5 = .ok (.iload_n 1, 1) := by decide +kernel
theorem dX6_find_6 : decode cX6_find 6 = .ok (.if_icmp .gt 27, 3) := by decide +kernel
theorem dX6_find_9 : decode cX6_find 9 = .ok (.aload_n 0, 1) := by decide +kernel
theorem dX6_find_10 : decode cX6_find 10 = .ok (.iload 4, 2) := by decide +kernel
theorem dX6_find_12 : decode cX6_find 12 = .ok (.iload_n 1, 1) := by decide +kernel
theorem dX6_find_13 : decode cX6_find 13 = .ok (.aload_n 2, 1) := by decide +kernel
theorem dX6_find_14 : decode cX6_find 14 = .ok (.getfield 27, 3) := by decide +kernel
theorem dX6_find_17 : decode cX6_find 17 = .ok (.aload_n 3, 1) := by decide +kernel
theorem dX6_find_18 : decode cX6_find 18 = .ok (.invokevirtual 33, 3) := by decide +kernel
theorem dX6_find_21 : decode cX6_find 21 = .ok (.ifCond .eq 6, 3) := by decide +kernel
theorem dX6_find_24 : decode cX6_find 24 = .ok (.goto 9, 3) := by decide +kernel
theorem dX6_find_27 : decode cX6_find 27 = .ok (.iinc 4 1, 3) := by decide +kernel
theorem dX6_find_30 : decode cX6_find 30 = .ok (.goto (-27), 3) := by decide +kernel
theorem dX6_find_33 : decode cX6_find 33 = .ok (.aload_n 0, 1) := by decide +kernel
theorem dX6_find_34 : decode cX6_find 34 = .ok (.aload_n 2, 1) := by decide +kernel
theorem dX6_find_35 : decode cX6_find 35 = .ok (.invokevirtual 37, 3) := by decide +kernel
theorem dX6_find_38 : decode cX6_find 38 = .ok (.aload_n 0, 1) := by decide +kernel
theorem dX6_find_39 : decode cX6_find 39 = .ok (.aload_n 2, 1) := by decide +kernel
theorem dX6_find_40 : decode cX6_find 40 = .ok (.aload_n 3, 1) := by decide +kernel
theorem dX6_find_41 : decode cX6_find 41 = .ok (.invokevirtual 41, 3) := by decide +kernel
theorem dX6_find_44 : decode cX6_find 44 = .ok (.return_, 1) := by decide +kernel
theorem dX6_fits_0 : decode cX6_fits 0 = .ok (.iload_n 1, 1) := by decide +kernel
theorem dX6_fits_1 : decode cX6_fits 1 = .ok (.istore 5, 2) := by decide +kernel
theorem dX6_fits_3 : decode cX6_fits 3 = .ok (.iload 5, 2) := by decide +kernel
theorem dX6_fits_5 : decode cX6_fits 5 = .ok (.iload_n 2, 1) := by decide +kernel
theorem dX6_fits_6 : decode cX6_fits 6 = .ok (.if_icmp .ge 68, 3) := by decide +kernel
theorem dX6_fits_9 : decode cX6_fits 9 = .ok (.iconst 1, 1) := by decide +kernel
theorem dX6_fits_10 : decode cX6_fits 10 = .ok (.istore 6, 2) := by decide +kernel
theorem dX6_fits_12 : decode cX6_fits 12 = .ok (.iload 6, 2) := by decide +kernel
theorem dX6_fits_14 : decode cX6_fits 14 = .ok (.iload_n 1, 1) := by decide +kernel
theorem dX6_fits_15 : decode cX6_fits 15 = .ok (.if_icmp .gt 34, 3) := by decide +kernel
theorem dX6_fits_18 : decode cX6_fits 18 = .ok (.aload 4, 2) := by decide +kernel
theorem dX6_fits_20 : decode cX6_fits 20 = .ok (.getfield 45, 3) := by decide +kernel
theorem dX6_fits_23 : decode cX6_fits 23 = .ok (.iload 5, 2) := by decide +kernel
theorem dX6_fits_25 : decode cX6_fits 25 = .ok (.iload_n 1, 1) := by decide +kernel
theorem dX6_fits_26 : decode cX6_fits 26 = .ok (.isub, 1) := by decide +kernel
theorem dX6_fits_27 : decode cX6_fits 27 = .ok (.aaload, 1) := by decide +kernel
theorem dX6_fits_28 : decode cX6_fits 28 = .ok (.iload 6, 2) := by decide +kernel
theorem dX6_fits_30 : decode cX6_fits 30 = .ok (.iconst 1, 1) := by decide +kernel
theorem dX6_fits_31 : decode cX6_fits 31 = .ok (.isub, 1) := by decide +kernel
theorem dX6_fits_32 : decode cX6_fits 32 = .ok (.aload_n 0, 1) := by decide +kernel
theorem dX6_fits_33 : decode cX6_fits 33 = .ok (.getfield 9, 3) := by decide +kernel
theorem dX6_fits_36 : decode cX6_fits 36 = .ok (.iload 5, 2) := by decide +kernel
theorem dX6_fits_38 : decode cX6_fits 38 = .ok (.iload 6, 2) := by decide +kernel
theorem dX6_fits_40 : decode cX6_fits 40 = .ok (.isub, 1) := by decide +kernel
theorem dX6_fits_41 : decode cX6_fits 41 = .ok (.iaload, 1) := by decide +kernel
theorem dX6_fits_42 : decode cX6_fits 42 = .ok (.iastore, 1) := by decide +kernel
theorem dX6_fits_43 : decode cX6_fits 43 = .ok (.iinc 6 1, 3) := by decide +kernel
theorem dX6_fits_46 : decode cX6_fits 46 = .ok (.goto (-34), 3) := by decide +kernel
theorem dX6_fits_49 : decode cX6_fits 49 = .ok (.aload 4, 2) := by decide +kernel
theorem dX6_fits_51 : decode cX6_fits 51 = .ok (.getfield 45, 3) := by decide +kernel
theorem dX6_fits_54 : decode cX6_fits 54 = .ok (.iload 5, 2) := by decide +kernel
theorem dX6_fits_56 : decode cX6_fits 56 = .ok (.iload_n 1, 1) := by decide +kernel
theorem dX6_fits_57 : decode cX6_fits 57 = .ok (.isub, 1) := by decide +kernel
theorem dX6_fits_58 : decode cX6_fits 58 = .ok (.aaload, 1) := by decide +kernel
theorem dX6_fits_59 : decode cX6_fits 59 = .ok (.iload_n 1, 1) := by decide +kernel
theorem dX6_fits_60 : decode cX6_fits 60 = .ok (.aload_n 0, 1) := by decide +kernel
theorem dX6_fits_61 : decode cX6_fits 61 = .ok (.getfield 9, 3) := by decide +kernel
theorem dX6_fits_64 : decode cX6_fits 64 = .ok (.iload 5, 2) := by decide +kernel
theorem dX6_fits_66 : decode cX6_fits 66 = .ok (.iaload, 1) := by decide +kernel
theorem dX6_fits_67 : decode cX6_fits 67 = .ok (.iastore, 1) := by decide +kernel
theorem dX6_fits_68 : decode cX6_fits 68 = .ok (.iinc 5 1, 3) := by decide +kernel
theorem dX6_fits_71 : decode cX6_fits 71 = .ok (.goto (-68), 3) := by decide +kernel
theorem dX6_fits_74 : decode cX6_fits 74 = .ok (.aload 4, 2) := by decide +kernel
theorem dX6_fits_76 : decode cX6_fits 76 = .ok (.iload_n 2, 1) := by decide +kernel
theorem dX6_fits_77 : decode cX6_fits 77 = .ok (.iload_n 1, 1) := by decide +kernel
theorem dX6_fits_78 : decode cX6_fits 78 = .ok (.isub, 1) := by decide +kernel
theorem dX6_fits_79 : decode cX6_fits 79 = .ok (.iload_n 1, 1) := by decide +kernel
theorem dX6_fits_80 : decode cX6_fits 80 = .ok (.iload_n 3, 1) := by decide +kernel
theorem dX6_fits_81 : decode cX6_fits 81 = .ok (.aload_n 0, 1) := by decide +kernel
theorem dX6_fits_82 : decode cX6_fits 82 = .ok (.getfield 20, 3) := by decide +kernel
theorem dX6_fits_85 : decode cX6_fits 85 = .ok (.invokevirtual 51, 3) := by decide +kernel
theorem dX6_fits_88 : decode cX6_fits 88 = .ok (.ireturn, 1) := by decide +kernel
theorem dX6_findRoots_0 : decode cX6_findRoots 0 = .ok (.aload_n 0, 1) := by decide +kernel
theorem dX6_findRoots_1 : decode cX6_findRoots 1 = .ok (.lconst 0, 1) := by decide +kernel
theorem dX6_findRoots_2 : decode cX6_findRoots 2 = .ok (.putfield 55, 3) := by decide +kernel
theorem dX6_findRoots_5 : decode cX6_findRoots 5 = .ok (.iconst 0, 1) := by decide +kernel
theorem dX6_findRoots_6 : decode cX6_findRoots 6 = .ok (.istore_n 2, 1) := by decide +kernel
theorem dX6_findRoots_7 : decode cX6_findRoots 7 = .ok (.iload_n 2, 1) := by decide +kernel
theorem dX6_findRoots_8 : decode cX6_findRoots 8 = .ok (.aload_n 1, 1) := by decide +kernel
theorem dX6_findRoots_9 : decode cX6_findRoots 9 = .ok (.getfield 59, 3) := by decide +kernel
theorem dX6_findRoots_12 : decode cX6_findRoots 12 = .ok (.if_icmp .ge 38, 3) := by decide +kernel
theorem dX6_findRoots_15 : decode cX6_findRoots 15 = .ok (.aload_n 0, 1) := by decide +kernel
theorem dX6_findRoots_16 : decode cX6_findRoots 16 = .ok (.aload_n 1, 1) := by decide +kernel
theorem dX6_findRoots_17 : decode cX6_findRoots 17 = .ok (.iload_n 2, 1) := by decide +kernel
theorem dX6_findRoots_18 : decode cX6_findRoots 18 = .ok (.iconst 1, 1) := by decide +kernel
theorem dX6_findRoots_19 : decode cX6_findRoots 19 = .ok (.invokevirtual 62, 3) := by decide +kernel
theorem dX6_findRoots_22 : decode cX6_findRoots 22 = .ok (.aload_n 1, 1) := by decide +kernel
theorem dX6_findRoots_23 : decode cX6_findRoots 23 = .ok (.getfield 27, 3) := by decide +kernel
theorem dX6_findRoots_26 : decode cX6_findRoots 26 = .ok (.invokevirtual 66, 3) := by decide +kernel
theorem dX6_findRoots_29 : decode cX6_findRoots 29 = .ok (.ifCond .eq 15, 3) := by decide +kernel
theorem dX6_findRoots_32 : decode cX6_findRoots 32 = .ok (.aload_n 0, 1) := by decide +kernel
theorem dX6_findRoots_33 : decode cX6_findRoots 33 = .ok (.dup, 1) := by decide +kernel
theorem dX6_findRoots_34 : decode cX6_findRoots 34 = .ok (.getfield 55, 3) := by decide +kernel
theorem dX6_findRoots_37 : decode cX6_findRoots 37 = .ok (.lconst 1, 1) := by decide +kernel
theorem dX6_findRoots_38 : decode cX6_findRoots 38 = .ok (.iload_n 2, 1) := by decide +kernel
theorem dX6_findRoots_39 : decode cX6_findRoots 39 = .ok (.lshl, 1) := by decide +kernel
theorem dX6_findRoots_40 : decode cX6_findRoots 40 = .ok (.lor, 1) := by decide +kernel
theorem dX6_findRoots_41 : decode cX6_findRoots 41 = .ok (.putfield 55, 3) := by decide +kernel
theorem dX6_findRoots_44 : decode cX6_findRoots 44 = .ok (.iinc 2 1, 3) := by decide +kernel
theorem dX6_findRoots_47 : decode cX6_findRoots 47 = .ok (.goto (-40), 3) := by decide +kernel
theorem dX6_findRoots_50 : decode cX6_findRoots 50 = .ok (.return_, 1) := by decide +kernel
theorem dX6_isRoot_0 : decode cX6_isRoot 0 = .ok (.iconst 1, 1) := by decide +kernel
theorem dX6_isRoot_1 : decode cX6_isRoot 1 = .ok (.istore_n 3, 1) := by decide +kernel
theorem dX6_isRoot_2 : decode cX6_isRoot 2 = .ok (.iconst 0, 1) := by decide +kernel
theorem dX6_isRoot_3 : decode cX6_isRoot 3 = .ok (.istore 4, 2) := by decide +kernel
theorem dX6_isRoot_5 : decode cX6_isRoot 5 = .ok (.iload 4, 2) := by decide +kernel
theorem dX6_isRoot_7 : decode cX6_isRoot 7 = .ok (.aload_n 0, 1) := by decide +kernel
theorem dX6_isRoot_8 : decode cX6_isRoot 8 = .ok (.getfield 20, 3) := by decide +kernel
theorem dX6_isRoot_11 : decode cX6_isRoot 11 = .ok (.getfield 70, 3) := by decide +kernel
theorem dX6_isRoot_14 : decode cX6_isRoot 14 = .ok (.if_icmp .ge 30, 3) := by decide +kernel
theorem dX6_isRoot_17 : decode cX6_isRoot 17 = .ok (.iload_n 3, 1) := by decide +kernel
theorem dX6_isRoot_18 : decode cX6_isRoot 18 = .ok (.iload_n 1, 1) := by decide +kernel
theorem dX6_isRoot_19 : decode cX6_isRoot 19 = .ok (.iload_n 2, 1) := by decide +kernel
theorem dX6_isRoot_20 : decode cX6_isRoot 20 = .ok (.invokestatic 73, 3) := by decide +kernel
theorem dX6_isRoot_23 : decode cX6_isRoot 23 = .ok (.aload_n 0, 1) := by decide +kernel
theorem dX6_isRoot_24 : decode cX6_isRoot 24 = .ok (.getfield 20, 3) := by decide +kernel
theorem dX6_isRoot_27 : decode cX6_isRoot 27 = .ok (.getfield 77, 3) := by decide +kernel
theorem dX6_isRoot_30 : decode cX6_isRoot 30 = .ok (.iload 4, 2) := by decide +kernel
theorem dX6_isRoot_32 : decode cX6_isRoot 32 = .ok (.iaload, 1) := by decide +kernel
theorem dX6_isRoot_33 : decode cX6_isRoot 33 = .ok (.iload_n 2, 1) := by decide +kernel
theorem dX6_isRoot_34 : decode cX6_isRoot 34 = .ok (.invokestatic 80, 3) := by decide +kernel
theorem dX6_isRoot_37 : decode cX6_isRoot 37 = .ok (.istore_n 3, 1) := by decide +kernel
theorem dX6_isRoot_38 : decode cX6_isRoot 38 = .ok (.iinc 4 1, 3) := by decide +kernel
theorem dX6_isRoot_41 : decode cX6_isRoot 41 = .ok (.goto (-36), 3) := by decide +kernel
theorem dX6_isRoot_44 : decode cX6_isRoot 44 = .ok (.iload_n 3, 1) := by decide +kernel
theorem dX6_isRoot_45 : decode cX6_isRoot 45 = .ok (.ifCond .ne 7, 3) := by decide +kernel
theorem dX6_isRoot_48 : decode cX6_isRoot 48 = .ok (.iconst 1, 1) := by decide +kernel
theorem dX6_isRoot_49 : decode cX6_isRoot 49 = .ok (.goto 4, 3) := by decide +kernel
theorem dX6_isRoot_52 : decode cX6_isRoot 52 = .ok (.iconst 0, 1) := by decide +kernel
theorem dX6_isRoot_53 : decode cX6_isRoot 53 = .ok (.ireturn, 1) := by decide +kernel
theorem dX6_findStrengths_0 : decode cX6_findStrengths 0 = .ok (.aload_n 0, 1) := by decide +kernel
theorem dX6_findStrengths_1 : decode cX6_findStrengths 1 = .ok (.getfield 20, 3) := by decide +kernel
theorem dX6_findStrengths_4 : decode cX6_findStrengths 4 = .ok (.getfield 70, 3) := by decide +kernel
theorem dX6_findStrengths_7 : decode cX6_findStrengths 7 = .ok (.istore_n 3, 1) := by decide +kernel
theorem dX6_findStrengths_8 : decode cX6_findStrengths 8 = .ok (.aload_n 0, 1) := by decide +kernel
theorem dX6_findStrengths_9 : decode cX6_findStrengths 9 = .ok (.getfield 24, 3) := by decide +kernel
theorem dX6_findStrengths_12 : decode cX6_findStrengths 12 = .ok (.iconst 0, 1) := by decide +kernel
theorem dX6_findStrengths_13 : decode cX6_findStrengths 13 = .ok (.putfield 70, 3) := by decide +kernel
theorem dX6_findStrengths_16 : decode cX6_findStrengths 16 = .ok (.iload_n 3, 1) := by decide +kernel
theorem dX6_findStrengths_17 : decode cX6_findStrengths 17 = .ok (.ifCond .eq 14, 3) := by decide +kernel
theorem dX6_findStrengths_20 : decode cX6_findStrengths 20 = .ok (.aload_n 0, 1) := by decide +kernel
theorem dX6_findStrengths_21 : decode cX6_findStrengths 21 = .ok (.getfield 55, 3) := by decide +kernel
theorem dX6_findStrengths_24 : decode cX6_findStrengths 24 = .ok (.invokestatic 83, 3) := by decide +kernel
theorem dX6_findStrengths_27 : decode cX6_findStrengths 27 = .ok (.iload_n 3, 1) := by decide +kernel
theorem dX6_findStrengths_28 : decode cX6_findStrengths 28 = .ok (.if_icmp .eq 4, 3) := by decide +kernel
theorem dX6_findStrengths_31 : decode cX6_findStrengths 31 = .ok (.return_, 1) := by decide +kernel
theorem dX6_findStrengths_32 : decode cX6_findStrengths 32 = .ok (.iconst 0, 1) := by decide +kernel
theorem dX6_findStrengths_33 : decode cX6_findStrengths 33 = .ok (.istore 4, 2) := by decide +kernel
theorem dX6_findStrengths_35 : decode cX6_findStrengths 35 = .ok (.iconst 0, 1) := by decide +kernel
theorem dX6_findStrengths_36 : decode cX6_findStrengths 36 = .ok (.istore 5, 2) := by decide +kernel
theorem dX6_findStrengths_38 : decode cX6_findStrengths 38 = .ok (.iload 5, 2) := by decide +kernel
theorem dX6_findStrengths_40 : decode cX6_findStrengths 40 = .ok (.aload_n 1, 1) := by decide +kernel
theorem dX6_findStrengths_41 : decode cX6_findStrengths 41 = .ok (.getfield 59, 3) := by decide +kernel
theorem dX6_findStrengths_44 : decode cX6_findStrengths 44 = .ok (.if_icmp .ge 59, 3) := by decide +kernel
theorem dX6_findStrengths_47 : decode cX6_findStrengths 47 = .ok (.aload_n 0, 1) := by decide +kernel
theorem dX6_findStrengths_48 : decode cX6_findStrengths 48 = .ok (.getfield 55, 3) := by decide +kernel
theorem dX6_findStrengths_51 : decode cX6_findStrengths 51 = .ok (.iload 5, 2) := by decide +kernel
theorem dX6_findStrengths_53 : decode cX6_findStrengths 53 = .ok (.lshr, 1) := by decide +kernel
theorem dX6_findStrengths_54 : decode cX6_findStrengths 54 = .ok (.lconst 1, 1) := by decide +kernel
theorem dX6_findStrengths_55 : decode cX6_findStrengths 55 = .ok (.land, 1) := by decide +kernel
theorem dX6_findStrengths_56 : decode cX6_findStrengths 56 = .ok (.lconst 1, 1) := by decide +kernel
theorem dX6_findStrengths_57 : decode cX6_findStrengths 57 = .ok (.lcmp, 1) := by decide +kernel
theorem dX6_findStrengths_58 : decode cX6_findStrengths 58 = .ok (.ifCond .ne 39, 3) := by decide +kernel
theorem dX6_findStrengths_61 : decode cX6_findStrengths 61 = .ok (.iconst 0, 1) := by decide +kernel
theorem dX6_findStrengths_62 : decode cX6_findStrengths 62 = .ok (.istore 6, 2) := by decide +kernel
theorem dX6_findStrengths_64 : decode cX6_findStrengths 64 = .ok (.iload 6, 2) := by decide +kernel
theorem dX6_findStrengths_66 : decode cX6_findStrengths 66 = .ok (.iload_n 3, 1) := by decide +kernel
theorem dX6_findStrengths_67 : decode cX6_findStrengths 67 = .ok (.if_icmp .ge 27, 3) := by decide +kernel
theorem dX6_findStrengths_70 : decode cX6_findStrengths 70 = .ok (.aload_n 2, 1) := by decide +kernel
theorem dX6_findStrengths_71 : decode cX6_findStrengths 71 = .ok (.getfield 45, 3) := by decide +kernel
theorem dX6_findStrengths_74 : decode cX6_findStrengths 74 = .ok (.iload 6, 2) := by decide +kernel
theorem dX6_findStrengths_76 : decode cX6_findStrengths 76 = .ok (.aaload, 1) := by decide +kernel
theorem dX6_findStrengths_77 : decode cX6_findStrengths 77 = .ok (.iload 4, 2) := by decide +kernel
theorem dX6_findStrengths_79 : decode cX6_findStrengths 79 = .ok (.aload_n 1, 1) := by decide +kernel
theorem dX6_findStrengths_80 : decode cX6_findStrengths 80 = .ok (.iload 5, 2) := by decide +kernel
theorem dX6_findStrengths_82 : decode cX6_findStrengths 82 = .ok (.iload 6, 2) := by decide +kernel
theorem dX6_findStrengths_84 : decode cX6_findStrengths 84 = .ok (.invokevirtual 62, 3) := by decide +kernel
theorem dX6_findStrengths_87 : decode cX6_findStrengths 87 = .ok (.iastore, 1) := by decide +kernel
theorem dX6_findStrengths_88 : decode cX6_findStrengths 88 = .ok (.iinc 6 1, 3) := by decide +kernel
theorem dX6_findStrengths_91 : decode cX6_findStrengths 91 = .ok (.goto (-27), 3) := by decide +kernel
theorem dX6_findStrengths_94 : decode cX6_findStrengths 94 = .ok (.iinc 4 1, 3) := by decide +kernel
theorem dX6_findStrengths_97 : decode cX6_findStrengths 97 = .ok (.iinc 5 1, 3) := by decide +kernel
theorem dX6_findStrengths_100 : decode cX6_findStrengths 100 = .ok (.goto (-62), 3) := by decide +kernel
theorem dX6_findStrengths_103 : decode cX6_findStrengths 103 = .ok (.iconst 0, 1) := by decide +kernel
theorem dX6_findStrengths_104 : decode cX6_findStrengths 104 = .ok (.istore 5, 2) := by decide +kernel
theorem dX6_findStrengths_106 : decode cX6_findStrengths 106 = .ok (.iload 5, 2) := by decide +kernel
theorem dX6_findStrengths_108 : decode cX6_findStrengths 108 = .ok (.iload_n 3, 1) := by decide +kernel
theorem dX6_findStrengths_109 : decode cX6_findStrengths 109 = .ok (.if_icmp .ge 25, 3) := by decide +kernel
theorem dX6_findStrengths_112 : decode cX6_findStrengths 112 = .ok (.aload_n 2, 1) := by decide +kernel
theorem dX6_findStrengths_113 : decode cX6_findStrengths 113 = .ok (.getfield 45, 3) := by decide +kernel
theorem dX6_findStrengths_116 : decode cX6_findStrengths 116 = .ok (.iload 5, 2) := by decide +kernel
theorem dX6_findStrengths_118 : decode cX6_findStrengths 118 = .ok (.aaload, 1) := by decide +kernel
theorem dX6_findStrengths_119 : decode cX6_findStrengths 119 = .ok (.iload_n 3, 1) := by decide +kernel
theorem dX6_findStrengths_120 : decode cX6_findStrengths 120 = .ok (.aload_n 0, 1) := by decide +kernel
theorem dX6_findStrengths_121 : decode cX6_findStrengths 121 = .ok (.getfield 9, 3) := by decide +kernel
theorem dX6_findStrengths_124 : decode cX6_findStrengths 124 = .ok (.iload 5, 2) := by decide +kernel
theorem dX6_findStrengths_126 : decode cX6_findStrengths 126 = .ok (.iaload, 1) := by decide +kernel
theorem dX6_findStrengths_127 : decode cX6_findStrengths 127 = .ok (.iastore, 1) := by decide +kernel
theorem dX6_findStrengths_128 : decode cX6_findStrengths 128 = .ok (.iinc 5 1, 3) := by decide +kernel
theorem dX6_findStrengths_131 : decode cX6_findStrengths 131 = .ok (.goto (-25), 3) := by decide +kernel
theorem dX6_findStrengths_134 : decode cX6_findStrengths 134 = .ok (.aload_n 2, 1) := by decide +kernel
theorem dX6_findStrengths_135 : decode cX6_findStrengths 135 = .ok (.iload_n 3, 1) := by decide +kernel
theorem dX6_findStrengths_136 : decode cX6_findStrengths 136 = .ok (.iload_n 3, 1) := by decide +kernel
theorem dX6_findStrengths_137 : decode cX6_findStrengths 137 = .ok (.aload_n 1, 1) := by decide +kernel
theorem dX6_findStrengths_138 : decode cX6_findStrengths 138 = .ok (.getfield 27, 3) := by decide +kernel
theorem dX6_findStrengths_141 : decode cX6_findStrengths 141 = .ok (.aload_n 0, 1) := by decide +kernel
theorem dX6_findStrengths_142 : decode cX6_findStrengths 142 = .ok (.getfield 24, 3) := by decide +kernel
theorem dX6_findStrengths_145 : decode cX6_findStrengths 145 = .ok (.invokevirtual 51, 3) := by decide +kernel
theorem dX6_findStrengths_148 : decode cX6_findStrengths 148 = .ok (.pop, 1) := by decide +kernel
theorem dX6_findStrengths_149 : decode cX6_findStrengths 149 = .ok (.return_, 1) := by decide +kernel
theorem dX7_init_0 : decode cX7_init 0 = .ok (.aload_n 0, 1) := by decide +kernel
theorem dX7_init_1 : decode cX7_init 1 = .ok (.invokespecial 3, 3) := by decide +kernel
theorem dX7_init_4 : decode cX7_init 4 = .ok (.aload_n 0, 1) := by decide +kernel
theorem dX7_init_5 : decode cX7_init 5 = .ok (.new 9, 3) := by decide +kernel
theorem dX7_init_8 : decode cX7_init 8 = .ok (.dup, 1) := by decide +kernel
theorem dX7_init_9 : decode cX7_init 9 = .ok (.invokespecial 11, 3) := by decide +kernel
theorem dX7_init_12 : decode cX7_init 12 = .ok (.putfield 12, 3) := by decide +kernel
theorem dX7_init_15 : decode cX7_init 15 = .ok (.aload_n 0, 1) := by decide +kernel
theorem dX7_init_16 : decode cX7_init 16 = .ok (.new 18, 3) := by decide +kernel
theorem dX7_init_19 : decode cX7_init 19 = .ok (.dup, 1) := by decide +kernel
theorem dX7_init_20 : decode cX7_init 20 = .ok (.invokespecial 20, 3) := by decide +kernel
theorem dX7_init_23 : decode cX7_init 23 = .ok (.putfield 21, 3) := by decide +kernel
theorem dX7_init_26 : decode cX7_init 26 = .ok (.aload_n 0, 1) := by decide +kernel
theorem dX7_init_27 : decode cX7_init 27 = .ok (.bipush 10, 2) := by decide +kernel
theorem dX7_init_29 : decode cX7_init 29 = .ok (.newarray .int, 2) := by decide +kernel
theorem dX7_init_31 : decode cX7_init 31 = .ok (.putfield 25, 3) := by decide +kernel
theorem dX7_init_34 : decode cX7_init 34 = .ok (.aload_n 0, 1) := by decide +kernel
theorem dX7_init_35 : decode cX7_init 35 = .ok (.bipush 10, 2) := by decide +kernel
theorem dX7_init_37 : decode cX7_init 37 = .ok (.newarray .int, 2) := by decide +kernel
theorem dX7_init_39 : decode cX7_init 39 = .ok (.putfield 29, 3) := by decide +kernel
theorem dX7_init_42 : decode cX7_init 42 = .ok (.aload_n 0, 1) := by decide +kernel
theorem dX7_init_43 : decode cX7_init 43 = .ok (.bipush 6, 2) := by decide +kernel
theorem dX7_init_45 : decode cX7_init 45 = .ok (.newarray .int, 2) := by decide +kernel
theorem dX7_init_47 : decode cX7_init 47 = .ok (.putfield 32, 3) := by decide +kernel
theorem dX7_init_50 : decode cX7_init 50 = .ok (.aload_n 0, 1) := by decide +kernel
theorem dX7_init_51 : decode cX7_init 51 = .ok (.bipush 6, 2) := by decide +kernel
theorem dX7_init_53 : decode cX7_init 53 = .ok (.newarray .int, 2) := by decide +kernel
theorem dX7_init_55 : decode cX7_init 55 = .ok (.putfield 35, 3) := by decide +kernel
theorem dX7_init_58 : decode cX7_init 58 = .ok (.aload_n 0, 1) := by decide +kernel
theorem dX7_init_59 : decode cX7_init 59 = .ok (.bipush 6, 2) := by decide +kernel
theorem dX7_init_61 : decode cX7_init 61 = .ok (.newarray .int, 2) := by decide +kernel
theorem dX7_init_63 : decode cX7_init 63 = .ok (.putfield 38, 3) := by decide +kernel
theorem dX7_init_66 : decode cX7_init 66 = .ok (.aload_n 0, 1) := by decide +kernel
theorem dX7_init_67 : decode cX7_init 67 = .ok (.bipush 6, 2) := by decide +kernel
theorem dX7_init_69 : decode cX7_init 69 = .ok (.newarray .int, 2) := by decide +kernel
theorem dX7_init_71 : decode cX7_init 71 = .ok (.putfield 41, 3) := by decide +kernel
theorem dX7_init_74 : decode cX7_init 74 = .ok (.return_, 1) := by decide +kernel
theorem dX7_clear_0 : decode cX7_clear 0 = .ok (.aload_n 0, 1) := by decide +kernel
theorem dX7_clear_1 : decode cX7_clear 1 = .ok (.iconst 0, 1) := by decide +kernel
theorem dX7_clear_2 : decode cX7_clear 2 = .ok (.putfield 44, 3) := by decide +kernel
theorem dX7_clear_5 : decode cX7_clear 5 = .ok (.aload_n 0, 1) := by decide +kernel
theorem dX7_clear_6 : decode cX7_clear 6 = .ok (.iconst 0, 1) := by decide +kernel
theorem dX7_clear_7 : decode cX7_clear 7 = .ok (.putfield 48, 3) := by decide +kernel
theorem dX7_clear_10 : decode cX7_clear 10 = .ok (.aload_n 0, 1) := by decide +kernel
theorem dX7_clear_11 : decode cX7_clear 11 = .ok (.iconst 0, 1) := by decide +kernel
theorem dX7_clear_12 : decode cX7_clear 12 = .ok (.putfield 51, 3) := by decide +kernel
theorem dX7_clear_15 : decode cX7_clear 15 = .ok (.aload_n 0, 1) := by decide +kernel
theorem dX7_clear_16 : decode cX7_clear 16 = .ok (.getfield 21, 3) := by decide +kernel
theorem dX7_clear_19 : decode cX7_clear 19 = .ok (.iconst 0, 1) := by decide +kernel
theorem dX7_clear_20 : decode cX7_clear 20 = .ok (.putfield 54, 3) := by decide +kernel
theorem dX7_clear_23 : decode cX7_clear 23 = .ok (.aload_n 0, 1) := by decide +kernel
theorem dX7_clear_24 : decode cX7_clear 24 = .ok (.getfield 21, 3) := by decide +kernel
theorem dX7_clear_27 : decode cX7_clear 27 = .ok (.iconst 0, 1) := by decide +kernel
theorem dX7_clear_28 : decode cX7_clear 28 = .ok (.putfield 57, 3) := by decide +kernel
theorem dX7_clear_31 : decode cX7_clear 31 = .ok (.return_, 1) := by decide +kernel
theorem dX7_copy_0 : decode cX7_copy 0 = .ok (.aload_n 0, 1) := by decide +kernel
theorem dX7_copy_1 : decode cX7_copy 1 = .ok (.getfield 12, 3) := by decide +kernel
theorem dX7_copy_4 : decode cX7_copy 4 = .ok (.aload_n 1, 1) := by decide +kernel
theorem dX7_copy_5 : decode cX7_copy 5 = .ok (.getfield 12, 3) := by decide +kernel
theorem dX7_copy_8 : decode cX7_copy 8 = .ok (.invokevirtual 60, 3) := by decide +kernel
theorem dX7_copy_11 : decode cX7_copy 11 = .ok (.aload_n 0, 1) := by decide +kernel
theorem dX7_copy_12 : decode cX7_copy 12 = .ok (.getfield 21, 3) := by decide +kernel
theorem dX7_copy_15 : decode cX7_copy 15 = .ok (.aload_n 1, 1) := by decide +kernel
theorem dX7_copy_16 : decode cX7_copy 16 = .ok (.getfield 21, 3) := by decide +kernel
theorem dX7_copy_19 : decode cX7_copy 19 = .ok (.invokevirtual 64, 3) := by decide +kernel
theorem dX7_copy_22 : decode cX7_copy 22 = .ok (.aload_n 0, 1) := by decide +kernel
theorem dX7_copy_23 : decode cX7_copy 23 = .ok (.aload_n 1, 1) := by decide +kernel
theorem dX7_copy_24 : decode cX7_copy 24 = .ok (.getfield 44, 3) := by decide +kernel
theorem dX7_copy_27 : decode cX7_copy 27 = .ok (.putfield 44, 3) := by decide +kernel
theorem dX7_copy_30 : decode cX7_copy 30 = .ok (.aload_n 0, 1) := by decide +kernel
theorem dX7_copy_31 : decode cX7_copy 31 = .ok (.aload_n 1, 1) := by decide +kernel
theorem dX7_copy_32 : decode cX7_copy 32 = .ok (.getfield 48, 3) := by decide +kernel
theorem dX7_copy_35 : decode cX7_copy 35 = .ok (.putfield 48, 3) := by decide +kernel
theorem dX7_copy_38 : decode cX7_copy 38 = .ok (.aload_n 1, 1) := by decide +kernel
theorem dX7_copy_39 : decode cX7_copy 39 = .ok (.getfield 25, 3) := by decide +kernel
theorem dX7_copy_42 : decode cX7_copy 42 = .ok (.iconst 0, 1) := by decide +kernel
theorem dX7_copy_43 : decode cX7_copy 43 = .ok (.aload_n 0, 1) := by decide +kernel
theorem dX7_copy_44 : decode cX7_copy 44 = .ok (.getfield 25, 3) := by decide +kernel
theorem dX7_copy_47 : decode cX7_copy 47 = .ok (.iconst 0, 1) := by decide +kernel
theorem dX7_copy_48 : decode cX7_copy 48 = .ok (.bipush 10, 2) := by decide +kernel
theorem dX7_copy_50 : decode cX7_copy 50 = .ok (.invokestatic 67, 3) := by decide +kernel
theorem dX7_copy_53 : decode cX7_copy 53 = .ok (.aload_n 1, 1) := by decide +kernel
theorem dX7_copy_54 : decode cX7_copy 54 = .ok (.getfield 29, 3) := by decide +kernel
theorem dX7_copy_57 : decode cX7_copy 57 = .ok (.iconst 0, 1) := by decide +kernel
theorem dX7_copy_58 : decode cX7_copy 58 = .ok (.aload_n 0, 1) := by decide +kernel
theorem dX7_copy_59 : decode cX7_copy 59 = .ok (.getfield 29, 3) := by decide +kernel
theorem dX7_copy_62 : decode cX7_copy 62 = .ok (.iconst 0, 1) := by decide +kernel
theorem dX7_copy_63 : decode cX7_copy 63 = .ok (.bipush 10, 2) := by decide +kernel
theorem dX7_copy_65 : decode cX7_copy 65 = .ok (.invokestatic 67, 3) := by decide +kernel
theorem dX7_copy_68 : decode cX7_copy 68 = .ok (.aload_n 0, 1) := by decide +kernel
theorem dX7_copy_69 : decode cX7_copy 69 = .ok (.aload_n 1, 1) := by decide +kernel
theorem dX7_copy_70 : decode cX7_copy 70 = .ok (.getfield 51, 3) := by decide +kernel
theorem dX7_copy_73 : decode cX7_copy 73 = .ok (.putfield 51, 3) := by decide +kernel
theorem dX7_copy_76 : decode cX7_copy 76 = .ok (.aload_n 1, 1) := by decide +kernel
theorem dX7_copy_77 : decode cX7_copy 77 = .ok (.getfield 32, 3) := by decide +kernel
theorem dX7_copy_80 : decode cX7_copy 80 = .ok (.iconst 0, 1) := by decide +kernel
theorem dX7_copy_81 : decode cX7_copy 81 = .ok (.aload_n 0, 1) := by decide +kernel
