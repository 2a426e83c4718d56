theorem dX11_tracks_240 : decode cX11_tracks 240 = .ok (.iconst 1, 1) := by decide +kernel
theorem dX11_tracks_241 : decode cX11_tracks 241 = .ok (.putfield 347, 3) := by decide +kernel
theorem dX11_tracks_244 : decode cX11_tracks 244 = .ok (.iinc 5 1, 3) := by decide +kernel
theorem dX11_tracks_247 : decode cX11_tracks 247 = .ok (.goto (-198), 3) := by decide +kernel
theorem dX11_tracks_250 : decode cX11_tracks 250 = .ok (.iinc 4 1, 3) := by decide +kernel
theorem dX11_tracks_253 : decode cX11_tracks 253 = .ok (.goto (-218), 3) := by decide +kernel
theorem dX11_tracks_256 : decode cX11_tracks 256 = .ok (.iload_n 3, 1) := by decide +kernel
theorem dX11_tracks_257 : decode cX11_tracks 257 = .ok (.ireturn, 1) := by decide +kernel
theorem dX11_track_0 : decode cX11_track 0 = .ok (.aload_n 0, 1) := by decide +kernel
theorem dX11_track_1 : decode cX11_track 1 = .ok (.iconst 0, 1) := by decide +kernel
theorem dX11_track_2 : decode cX11_track 2 = .ok (.putfield 1, 3) := by decide +kernel
theorem dX11_track_5 : decode cX11_track 5 = .ok (.aload_n 0, 1) := by decide +kernel
theorem dX11_track_6 : decode cX11_track 6 = .ok (.getfield 347, 3) := by decide +kernel
theorem dX11_track_9 : decode cX11_track 9 = .ok (.ifCond .eq 21, 3) := by decide +kernel
theorem dX11_track_12 : decode cX11_track 12 = .ok (.iload_n 1, 1) := by decide +kernel
theorem dX11_track_13 : decode cX11_track 13 = .ok (.iconst 0, 1) := by decide +kernel
theorem dX11_track_14 : decode cX11_track 14 = .ok (.iconst 2, 1) := by decide +kernel
theorem dX11_track_15 : decode cX11_track 15 = .ok (.invokestatic 175, 3) := by decide +kernel
theorem dX11_track_18 : decode cX11_track 18 = .ok (.ifCond .eq 12, 3) := by decide +kernel
theorem dX11_track_21 : decode cX11_track 21 = .ok (.aload_n 0, 1) := by decide +kernel
theorem dX11_track_22 : decode cX11_track 22 = .ok (.getfield 68, 3) := by decide +kernel
theorem dX11_track_25 : decode cX11_track 25 = .ok (.iload_n 1, 1) := by decide +kernel
theorem dX11_track_26 : decode cX11_track 26 = .ok (.iaload, 1) := by decide +kernel
theorem dX11_track_27 : decode cX11_track 27 = .ok (.goto 4, 3) := by decide +kernel
theorem dX11_track_30 : decode cX11_track 30 = .ok (.iconst (-1), 1) := by decide +kernel
theorem dX11_track_31 : decode cX11_track 31 = .ok (.ireturn, 1) := by decide +kernel
theorem dX11_isEnough_0 : decode cX11_isEnough 0 = .ok (.iconst 1, 1) := by decide +kernel
theorem dX11_isEnough_1 : decode cX11_isEnough 1 = .ok (.istore_n 2, 1) := by decide +kernel
theorem dX11_isEnough_2 : decode cX11_isEnough 2 = .ok (.iload_n 2, 1) := by decide +kernel
theorem dX11_isEnough_3 : decode cX11_isEnough 3 = .ok (.aload_n 0, 1) := by decide +kernel
theorem dX11_isEnough_4 : decode cX11_isEnough 4 = .ok (.getfield 33, 3) := by decide +kernel
theorem dX11_isEnough_7 : decode cX11_isEnough 7 = .ok (.iconst 0, 1) := by decide +kernel
theorem dX11_isEnough_8 : decode cX11_isEnough 8 = .ok (.iaload, 1) := by decide +kernel
theorem dX11_isEnough_9 : decode cX11_isEnough 9 = .ok (.if_icmp .ge 21, 3) := by decide +kernel
theorem dX11_isEnough_12 : decode cX11_isEnough 12 = .ok (.aload_n 0, 1) := by decide +kernel
theorem dX11_isEnough_13 : decode cX11_isEnough 13 = .ok (.iconst 0, 1) := by decide +kernel
theorem dX11_isEnough_14 : decode cX11_isEnough 14 = .ok (.iload_n 2, 1) := by decide +kernel
theorem dX11_isEnough_15 : decode cX11_isEnough 15 = .ok (.iload_n 1, 1) := by decide +kernel
theorem dX11_isEnough_16 : decode cX11_isEnough 16 = .ok (.invokevirtual 299, 3) := by decide +kernel
theorem dX11_isEnough_19 : decode cX11_isEnough 19 = .ok (.ifCond .eq 5, 3) := by decide +kernel
theorem dX11_isEnough_22 : decode cX11_isEnough 22 = .ok (.iconst 0, 1) := by decide +kernel
theorem dX11_isEnough_23 : decode cX11_isEnough 23 = .ok (.ireturn, 1) := by decide +kernel
theorem dX11_isEnough_24 : decode cX11_isEnough 24 = .ok (.iinc 2 1, 3) := by decide +kernel
theorem dX11_isEnough_27 : decode cX11_isEnough 27 = .ok (.goto (-25), 3) := by decide +kernel
theorem dX11_isEnough_30 : decode cX11_isEnough 30 = .ok (.iconst 1, 1) := by decide +kernel
theorem dX11_isEnough_31 : decode cX11_isEnough 31 = .ok (.ireturn, 1) := by decide +kernel
theorem dX11_enough_0 : decode cX11_enough 0 = .ok (.aload_n 0, 1) := by decide +kernel
theorem dX11_enough_1 : decode cX11_enough 1 = .ok (.iconst 0, 1) := by decide +kernel
theorem dX11_enough_2 : decode cX11_enough 2 = .ok (.putfield 1, 3) := by decide +kernel
theorem dX11_enough_5 : decode cX11_enough 5 = .ok (.iconst (-1), 1) := by decide +kernel
theorem dX11_enough_6 : decode cX11_enough 6 = .ok (.istore_n 1, 1) := by decide +kernel
theorem dX11_enough_7 : decode cX11_enough 7 = .ok (.iconst 0, 1) := by decide +kernel
theorem dX11_enough_8 : decode cX11_enough 8 = .ok (.istore_n 2, 1) := by decide +kernel
theorem dX11_enough_9 : decode cX11_enough 9 = .ok (.iload_n 2, 1) := by decide +kernel
theorem dX11_enough_10 : decode cX11_enough 10 = .ok (.iconst 1, 1) := by decide +kernel
theorem dX11_enough_11 : decode cX11_enough 11 = .ok (.aload_n 0, 1) := by decide +kernel
theorem dX11_enough_12 : decode cX11_enough 12 = .ok (.getfield 33, 3) := by decide +kernel
theorem dX11_enough_15 : decode cX11_enough 15 = .ok (.iconst 1, 1) := by decide +kernel
theorem dX11_enough_16 : decode cX11_enough 16 = .ok (.iaload, 1) := by decide +kernel
theorem dX11_enough_17 : decode cX11_enough 17 = .ok (.ishl, 1) := by decide +kernel
theorem dX11_enough_18 : decode cX11_enough 18 = .ok (.if_icmp .ge 34, 3) := by decide +kernel
theorem dX11_enough_21 : decode cX11_enough 21 = .ok (.iload_n 1, 1) := by decide +kernel
theorem dX11_enough_22 : decode cX11_enough 22 = .ok (.ifCond .lt 14, 3) := by decide +kernel
theorem dX11_enough_25 : decode cX11_enough 25 = .ok (.iload_n 2, 1) := by decide +kernel
theorem dX11_enough_26 : decode cX11_enough 26 = .ok (.invokestatic 350, 3) := by decide +kernel
theorem dX11_enough_29 : decode cX11_enough 29 = .ok (.iload_n 1, 1) := by decide +kernel
theorem dX11_enough_30 : decode cX11_enough 30 = .ok (.invokestatic 350, 3) := by decide +kernel
theorem dX11_enough_33 : decode cX11_enough 33 = .ok (.if_icmp .ge 13, 3) := by decide +kernel
theorem dX11_enough_36 : decode cX11_enough 36 = .ok (.aload_n 0, 1) := by decide +kernel
theorem dX11_enough_37 : decode cX11_enough 37 = .ok (.iload_n 2, 1) := by decide +kernel
theorem dX11_enough_38 : decode cX11_enough 38 = .ok (.invokevirtual 353, 3) := by decide +kernel
theorem dX11_enough_41 : decode cX11_enough 41 = .ok (.ifCond .eq 5, 3) := by decide +kernel
theorem dX11_enough_44 : decode cX11_enough 44 = .ok (.iload_n 2, 1) := by decide +kernel
theorem dX11_enough_45 : decode cX11_enough 45 = .ok (.istore_n 1, 1) := by decide +kernel
theorem dX11_enough_46 : decode cX11_enough 46 = .ok (.iinc 2 1, 3) := by decide +kernel
theorem dX11_enough_49 : decode cX11_enough 49 = .ok (.goto (-40), 3) := by decide +kernel
theorem dX11_enough_52 : decode cX11_enough 52 = .ok (.iload_n 1, 1) := by decide +kernel
theorem dX11_enough_53 : decode cX11_enough 53 = .ok (.ireturn, 1) := by decide +kernel
theorem dX11_lose_0 : decode cX11_lose 0 = .ok (.aload_n 0, 1) := by decide +kernel
theorem dX11_lose_1 : decode cX11_lose 1 = .ok (.iconst 0, 1) := by decide +kernel
theorem dX11_lose_2 : decode cX11_lose 2 = .ok (.putfield 1, 3) := by decide +kernel
theorem dX11_lose_5 : decode cX11_lose 5 = .ok (.aload_n 0, 1) := by decide +kernel
theorem dX11_lose_6 : decode cX11_lose 6 = .ok (.iload_n 1, 1) := by decide +kernel
theorem dX11_lose_7 : decode cX11_lose 7 = .ok (.invokevirtual 261, 3) := by decide +kernel
theorem dX11_lose_10 : decode cX11_lose 10 = .ok (.ifCond .ne 5, 3) := by decide +kernel
theorem dX11_lose_13 : decode cX11_lose 13 = .ok (.iconst (-1), 1) := by decide +kernel
theorem dX11_lose_14 : decode cX11_lose 14 = .ok (.ireturn, 1) := by decide +kernel
theorem dX11_lose_15 : decode cX11_lose 15 = .ok (.aload_n 0, 1) := by decide +kernel
theorem dX11_lose_16 : decode cX11_lose 16 = .ok (.getfield 33, 3) := by decide +kernel
theorem dX11_lose_19 : decode cX11_lose 19 = .ok (.iconst 1, 1) := by decide +kernel
theorem dX11_lose_20 : decode cX11_lose 20 = .ok (.dup2, 1) := by decide +kernel
theorem dX11_lose_21 : decode cX11_lose 21 = .ok (.iaload, 1) := by decide +kernel
theorem dX11_lose_22 : decode cX11_lose 22 = .ok (.iconst 1, 1) := by decide +kernel
theorem dX11_lose_23 : decode cX11_lose 23 = .ok (.isub, 1) := by decide +kernel
theorem dX11_lose_24 : decode cX11_lose 24 = .ok (.iastore, 1) := by decide +kernel
theorem dX11_lose_25 : decode cX11_lose 25 = .ok (.iconst 2, 1) := by decide +kernel
theorem dX11_lose_26 : decode cX11_lose 26 = .ok (.iload_n 1, 1) := by decide +kernel
theorem dX11_lose_27 : decode cX11_lose 27 = .ok (.imul, 1) := by decide +kernel
theorem dX11_lose_28 : decode cX11_lose 28 = .ok (.istore_n 2, 1) := by decide +kernel
theorem dX11_lose_29 : decode cX11_lose 29 = .ok (.iload_n 2, 1) := by decide +kernel
theorem dX11_lose_30 : decode cX11_lose 30 = .ok (.iconst 2, 1) := by decide +kernel
theorem dX11_lose_31 : decode cX11_lose 31 = .ok (.aload_n 0, 1) := by decide +kernel
theorem dX11_lose_32 : decode cX11_lose 32 = .ok (.getfield 33, 3) := by decide +kernel
theorem dX11_lose_35 : decode cX11_lose 35 = .ok (.iconst 1, 1) := by decide +kernel
theorem dX11_lose_36 : decode cX11_lose 36 = .ok (.iaload, 1) := by decide +kernel
theorem dX11_lose_37 : decode cX11_lose 37 = .ok (.imul, 1) := by decide +kernel
theorem dX11_lose_38 : decode cX11_lose 38 = .ok (.if_icmp .ge 29, 3) := by decide +kernel
theorem dX11_lose_41 : decode cX11_lose 41 = .ok (.aload_n 0, 1) := by decide +kernel
theorem dX11_lose_42 : decode cX11_lose 42 = .ok (.getfield 33, 3) := by decide +kernel
theorem dX11_lose_45 : decode cX11_lose 45 = .ok (.bipush 6, 2) := by decide +kernel
theorem dX11_lose_47 : decode cX11_lose 47 = .ok (.iload_n 2, 1) := by decide +kernel
theorem dX11_lose_48 : decode cX11_lose 48 = .ok (.iadd, 1) := by decide +kernel
theorem dX11_lose_49 : decode cX11_lose 49 = .ok (.aload_n 0, 1) := by decide +kernel
theorem dX11_lose_50 : decode cX11_lose 50 = .ok (.getfield 33, 3) := by decide +kernel
theorem dX11_lose_53 : decode cX11_lose 53 = .ok (.bipush 6, 2) := by decide +kernel
theorem dX11_lose_55 : decode cX11_lose 55 = .ok (.iload_n 2, 1) := by decide +kernel
theorem dX11_lose_56 : decode cX11_lose 56 = .ok (.iadd, 1) := by decide +kernel
theorem dX11_lose_57 : decode cX11_lose 57 = .ok (.iconst 2, 1) := by decide +kernel
theorem dX11_lose_58 : decode cX11_lose 58 = .ok (.iadd, 1) := by decide +kernel
theorem dX11_lose_59 : decode cX11_lose 59 = .ok (.iaload, 1) := by decide +kernel
theorem dX11_lose_60 : decode cX11_lose 60 = .ok (.iastore, 1) := by decide +kernel
theorem dX11_lose_61 : decode cX11_lose 61 = .ok (.iinc 2 1, 3) := by decide +kernel
theorem dX11_lose_64 : decode cX11_lose 64 = .ok (.goto (-35), 3) := by decide +kernel
theorem dX11_lose_67 : decode cX11_lose 67 = .ok (.aload_n 0, 1) := by decide +kernel
theorem dX11_lose_68 : decode cX11_lose 68 = .ok (.getfield 33, 3) := by decide +kernel
theorem dX11_lose_71 : decode cX11_lose 71 = .ok (.iconst 1, 1) := by decide +kernel
theorem dX11_lose_72 : decode cX11_lose 72 = .ok (.iaload, 1) := by decide +kernel
theorem dX11_lose_73 : decode cX11_lose 73 = .ok (.ireturn, 1) := by decide +kernel
theorem dX11_makes_0 : decode cX11_makes 0 = .ok (.aload_n 0, 1) := by decide +kernel
theorem dX11_makes_1 : decode cX11_makes 1 = .ok (.iload_n 1, 1) := by decide +kernel
theorem dX11_makes_2 : decode cX11_makes 2 = .ok (.iconst 1, 1) := by decide +kernel
theorem dX11_makes_3 : decode cX11_makes 3 = .ok (.iadd, 1) := by decide +kernel
theorem dX11_makes_4 : decode cX11_makes 4 = .ok (.putfield 251, 3) := by decide +kernel
theorem dX11_makes_7 : decode cX11_makes 7 = .ok (.aload_n 0, 1) := by decide +kernel
theorem dX11_makes_8 : decode cX11_makes 8 = .ok (.iconst 0, 1) := by decide +kernel
theorem dX11_makes_9 : decode cX11_makes 9 = .ok (.putfield 248, 3) := by decide +kernel
theorem dX11_makes_12 : decode cX11_makes 12 = .ok (.iconst 0, 1) := by decide +kernel
theorem dX11_makes_13 : decode cX11_makes 13 = .ok (.istore_n 3, 1) := by decide +kernel
theorem dX11_makes_14 : decode cX11_makes 14 = .ok (.iload_n 3, 1) := by decide +kernel
theorem dX11_makes_15 : decode cX11_makes 15 = .ok (.aload_n 0, 1) := by decide +kernel
theorem dX11_makes_16 : decode cX11_makes 16 = .ok (.getfield 33, 3) := by decide +kernel
theorem dX11_makes_19 : decode cX11_makes 19 = .ok (.iconst 1, 1) := by decide +kernel
theorem dX11_makes_20 : decode cX11_makes 20 = .ok (.iaload, 1) := by decide +kernel
theorem dX11_makes_21 : decode cX11_makes 21 = .ok (.if_icmp .ge 111, 3) := by decide +kernel
theorem dX11_makes_24 : decode cX11_makes 24 = .ok (.iload_n 2, 1) := by decide +kernel
theorem dX11_makes_25 : decode cX11_makes 25 = .ok (.iload_n 3, 1) := by decide +kernel
theorem dX11_makes_26 : decode cX11_makes 26 = .ok (.invokestatic 294, 3) := by decide +kernel
theorem dX11_makes_29 : decode cX11_makes 29 = .ok (.ifCond .eq 6, 3) := by decide +kernel
theorem dX11_makes_32 : decode cX11_makes 32 = .ok (.goto 94, 3) := by decide +kernel
theorem dX11_makes_35 : decode cX11_makes 35 = .ok (.iconst 0, 1) := by decide +kernel
theorem dX11_makes_36 : decode cX11_makes 36 = .ok (.istore 4, 2) := by decide +kernel
theorem dX11_makes_38 : decode cX11_makes 38 = .ok (.iload 4, 2) := by decide +kernel
theorem dX11_makes_40 : decode cX11_makes 40 = .ok (.iload_n 1, 1) := by decide +kernel
theorem dX11_makes_41 : decode cX11_makes 41 = .ok (.if_icmp .ge 53, 3) := by decide +kernel
theorem dX11_makes_44 : decode cX11_makes 44 = .ok (.aload_n 0, 1) := by decide +kernel
theorem dX11_makes_45 : decode cX11_makes 45 = .ok (.getfield 50, 3) := by decide +kernel
theorem dX11_makes_48 : decode cX11_makes 48 = .ok (.aload_n 0, 1) := by decide +kernel
theorem dX11_makes_49 : decode cX11_makes 49 = .ok (.getfield 251, 3) := by decide +kernel
theorem dX11_makes_52 : decode cX11_makes 52 = .ok (.aload_n 0, 1) := by decide +kernel
theorem dX11_makes_53 : decode cX11_makes 53 = .ok (.getfield 248, 3) := by decide +kernel
theorem dX11_makes_56 : decode cX11_makes 56 = .ok (.imul, 1) := by decide +kernel
theorem dX11_makes_57 : decode cX11_makes 57 = .ok (.iload 4, 2) := by decide +kernel
theorem dX11_makes_59 : decode cX11_makes 59 = .ok (.iadd, 1) := by decide +kernel
theorem dX11_makes_60 : decode cX11_makes 60 = .ok (.aload_n 0, 1) := by decide +kernel
theorem dX11_makes_61 : decode cX11_makes 61 = .ok (.iload_n 3, 1) := by decide +kernel
theorem dX11_makes_62 : decode cX11_makes 62 = .ok (.invokevirtual 279, 3) := by decide +kernel
theorem dX11_makes_65 : decode cX11_makes 65 = .ok (.aload_n 0, 1) := by decide +kernel
theorem dX11_makes_66 : decode cX11_makes 66 = .ok (.aload_n 0, 1) := by decide +kernel
theorem dX11_makes_67 : decode cX11_makes 67 = .ok (.getfield 71, 3) := by decide +kernel
theorem dX11_makes_70 : decode cX11_makes 70 = .ok (.iload 4, 2) := by decide +kernel
theorem dX11_makes_72 : decode cX11_makes 72 = .ok (.iaload, 1) := by decide +kernel
theorem dX11_makes_73 : decode cX11_makes 73 = .ok (.aload_n 0, 1) := by decide +kernel
theorem dX11_makes_74 : decode cX11_makes 74 = .ok (.iload_n 3, 1) := by decide +kernel
theorem dX11_makes_75 : decode cX11_makes 75 = .ok (.invokevirtual 276, 3) := by decide +kernel
theorem dX11_makes_78 : decode cX11_makes 78 = .ok (.invokevirtual 273, 3) := by decide +kernel
theorem dX11_makes_81 : decode cX11_makes 81 = .ok (.imul, 1) := by decide +kernel
theorem dX11_makes_82 : decode cX11_makes 82 = .ok (.aload_n 0, 1) := by decide +kernel
theorem dX11_makes_83 : decode cX11_makes 83 = .ok (.getfield 230, 3) := by decide +kernel
theorem dX11_makes_86 : decode cX11_makes 86 = .ok (.irem, 1) := by decide +kernel
theorem dX11_makes_87 : decode cX11_makes 87 = .ok (.iastore, 1) := by decide +kernel
theorem dX11_makes_88 : decode cX11_makes 88 = .ok (.iinc 4 1, 3) := by decide +kernel
theorem dX11_makes_91 : decode cX11_makes 91 = .ok (.goto (-53), 3) := by decide +kernel
theorem dX11_makes_94 : decode cX11_makes 94 = .ok (.aload_n 0, 1) := by decide +kernel
theorem dX11_makes_95 : decode cX11_makes 95 = .ok (.getfield 50, 3) := by decide +kernel
theorem dX11_makes_98 : decode cX11_makes 98 = .ok (.aload_n 0, 1) := by decide +kernel
theorem dX11_makes_99 : decode cX11_makes 99 = .ok (.getfield 251, 3) := by decide +kernel
theorem dX11_makes_102 : decode cX11_makes 102 = .ok (.aload_n 0, 1) := by decide +kernel
theorem dX11_makes_103 : decode cX11_makes 103 = .ok (.getfield 248, 3) := by decide +kernel
theorem dX11_makes_106 : decode cX11_makes 106 = .ok (.imul, 1) := by decide +kernel
theorem dX11_makes_107 : decode cX11_makes 107 = .ok (.iload_n 1, 1) := by decide +kernel
theorem dX11_makes_108 : decode cX11_makes 108 = .ok (.iadd, 1) := by decide +kernel
theorem dX11_makes_109 : decode cX11_makes 109 = .ok (.aload_n 0, 1) := by decide +kernel
theorem dX11_makes_110 : decode cX11_makes 110 = .ok (.getfield 65, 3) := by decide +kernel
theorem dX11_makes_113 : decode cX11_makes 113 = .ok (.iload_n 3, 1) := by decide +kernel
theorem dX11_makes_114 : decode cX11_makes 114 = .ok (.iaload, 1) := by decide +kernel
theorem dX11_makes_115 : decode cX11_makes 115 = .ok (.iastore, 1) := by decide +kernel
theorem dX11_makes_116 : decode cX11_makes 116 = .ok (.aload_n 0, 1) := by decide +kernel
theorem dX11_makes_117 : decode cX11_makes 117 = .ok (.dup, 1) := by decide +kernel
theorem dX11_makes_118 : decode cX11_makes 118 = .ok (.getfield 248, 3) := by decide +kernel
theorem dX11_makes_121 : decode cX11_makes 121 = .ok (.iconst 1, 1) := by decide +kernel
theorem dX11_makes_122 : decode cX11_makes 122 = .ok (.iadd, 1) := by decide +kernel
theorem dX11_makes_123 : decode cX11_makes 123 = .ok (.putfield 248, 3) := by decide +kernel
theorem dX11_makes_126 : decode cX11_makes 126 = .ok (.iinc 3 1, 3) := by decide +kernel
theorem dX11_makes_129 : decode cX11_makes 129 = .ok (.goto (-115), 3) := by decide +kernel
theorem dX11_makes_132 : decode cX11_makes 132 = .ok (.aload_n 0, 1) := by decide +kernel
theorem dX11_makes_133 : decode cX11_makes 133 = .ok (.invokevirtual 291, 3) := by decide +kernel
theorem dX11_makes_136 : decode cX11_makes 136 = .ok (.ireturn, 1) := by decide +kernel
theorem dX11_firstPick_0 : decode cX11_firstPick 0 = .ok (.iconst 0, 1) := by decide +kernel
theorem dX11_firstPick_1 : decode cX11_firstPick 1 = .ok (.istore_n 2, 1) := by decide +kernel
theorem dX11_firstPick_2 : decode cX11_firstPick 2 = .ok (.iload_n 2, 1) := by decide +kernel
theorem dX11_firstPick_3 : decode cX11_firstPick 3 = .ok (.iload_n 1, 1) := by decide +kernel
theorem dX11_firstPick_4 : decode cX11_firstPick 4 = .ok (.if_icmp .ge 16, 3) := by decide +kernel
theorem dX11_firstPick_7 : decode cX11_firstPick 7 = .ok (.aload_n 0, 1) := by decide +kernel
theorem dX11_firstPick_8 : decode cX11_firstPick 8 = .ok (.getfield 71, 3) := by decide +kernel
theorem dX11_firstPick_11 : decode cX11_firstPick 11 = .ok (.iload_n 2, 1) := by decide +kernel
theorem dX11_firstPick_12 : decode cX11_firstPick 12 = .ok (.iload_n 2, 1) := by decide +kernel
theorem dX11_firstPick_13 : decode cX11_firstPick 13 = .ok (.iastore, 1) := by decide +kernel
theorem dX11_firstPick_14 : decode cX11_firstPick 14 = .ok (.iinc 2 1, 3) := by decide +kernel
theorem dX11_firstPick_17 : decode cX11_firstPick 17 = .ok (.goto (-15), 3) := by decide +kernel
theorem dX11_firstPick_20 : decode cX11_firstPick 20 = .ok (.iload_n 1, 1) := by decide +kernel
theorem dX11_firstPick_21 : decode cX11_firstPick 21 = .ok (.aload_n 0, 1) := by decide +kernel
theorem dX11_firstPick_22 : decode cX11_firstPick 22 = .ok (.getfield 33, 3) := by decide +kernel
theorem dX11_firstPick_25 : decode cX11_firstPick 25 = .ok (.iconst 0, 1) := by decide +kernel
theorem dX11_firstPick_26 : decode cX11_firstPick 26 = .ok (.iaload, 1) := by decide +kernel
theorem dX11_firstPick_27 : decode cX11_firstPick 27 = .ok (.if_icmp .gt 7, 3) := by decide +kernel
theorem dX11_firstPick_30 : decode cX11_firstPick 30 = .ok (.iconst 1, 1) := by decide +kernel
theorem dX11_firstPick_31 : decode cX11_firstPick 31 = .ok (.goto 4, 3) := by decide +kernel
theorem dX11_firstPick_34 : decode cX11_firstPick 34 = .ok (.iconst 0, 1) := by decide +kernel
theorem dX11_firstPick_35 : decode cX11_firstPick 35 = .ok (.ireturn, 1) := by decide +kernel
theorem dX11_nextPick_0 : decode cX11_nextPick 0 = .ok (.iload_n 1, 1) := by decide +kernel
theorem dX11_nextPick_1 : decode cX11_nextPick 1 = .ok (.iconst 1, 1) := by decide +kernel
theorem dX11_nextPick_2 : decode cX11_nextPick 2 = .ok (.isub, 1) := by decide +kernel
theorem dX11_nextPick_3 : decode cX11_nextPick 3 = .ok (.istore_n 2, 1) := by decide +kernel
theorem dX11_nextPick_4 : decode cX11_nextPick 4 = .ok (.iload_n 2, 1) := by decide +kernel
theorem dX11_nextPick_5 : decode cX11_nextPick 5 = .ok (.ifCond .lt 28, 3) := by decide +kernel
theorem dX11_nextPick_8 : decode cX11_nextPick 8 = .ok (.aload_n 0, 1) := by decide +kernel
theorem dX11_nextPick_9 : decode cX11_nextPick 9 = .ok (.getfield 71, 3) := by decide +kernel
theorem dX11_nextPick_12 : decode cX11_nextPick 12 = .ok (.iload_n 2, 1) := by decide +kernel
theorem dX11_nextPick_13 : decode cX11_nextPick 13 = .ok (.iaload, 1) := by decide +kernel
theorem dX11_nextPick_14 : decode cX11_nextPick 14 = .ok (.aload_n 0, 1) := by decide +kernel
theorem dX11_nextPick_15 : decode cX11_nextPick 15 = .ok (.getfield 33, 3) := by decide +kernel
theorem dX11_nextPick_18 : decode cX11_nextPick 18 = .ok (.iconst 0, 1) := by decide +kernel
theorem dX11_nextPick_19 : decode cX11_nextPick 19 = .ok (.iaload, 1) := by decide +kernel
theorem dX11_nextPick_20 : decode cX11_nextPick 20 = .ok (.iload_n 1, 1) := by decide +kernel
theorem dX11_nextPick_21 : decode cX11_nextPick 21 = .ok (.isub, 1) := by decide +kernel
theorem dX11_nextPick_22 : decode cX11_nextPick 22 = .ok (.iload_n 2, 1) := by decide +kernel
theorem dX11_nextPick_23 : decode cX11_nextPick 23 = .ok (.iadd, 1) := by decide +kernel
theorem dX11_nextPick_24 : decode cX11_nextPick 24 = .ok (.if_icmp .ne 9, 3) := by decide +kernel
theorem dX11_nextPick_27 : decode cX11_nextPick 27 = .ok (.iinc 2 (-1), 3) := by decide +kernel
theorem dX11_nextPick_30 : decode cX11_nextPick 30 = .ok (.goto (-26), 3) := by decide +kernel
theorem dX11_nextPick_33 : decode cX11_nextPick 33 = .ok (.iload_n 2, 1) := by decide +kernel
theorem dX11_nextPick_34 : decode cX11_nextPick 34 = .ok (.ifCond .ge 5, 3) := by decide +kernel
theorem dX11_nextPick_37 : decode cX11_nextPick 37 = .ok (.iconst 0, 1) := by decide +kernel
theorem dX11_nextPick_38 : decode cX11_nextPick 38 = .ok (.ireturn, 1) := by decide +kernel
theorem dX11_nextPick_39 : decode cX11_nextPick 39 = .ok (.aload_n 0, 1) := by decide +kernel
theorem dX11_nextPick_40 : decode cX11_nextPick 40 = .ok (.getfield 71, 3) := by decide +kernel
theorem dX11_nextPick_43 : decode cX11_nextPick 43 = .ok (.iload_n 2, 1) := by decide +kernel
theorem dX11_nextPick_44 : decode cX11_nextPick 44 = .ok (.dup2, 1) := by decide +kernel
theorem dX11_nextPick_45 : decode cX11_nextPick 45 = .ok (.iaload, 1) := by decide +kernel
theorem dX11_nextPick_46 : decode cX11_nextPick 46 = .ok (.iconst 1, 1) := by decide +kernel
theorem dX11_nextPick_47 : decode cX11_nextPick 47 = .ok (.iadd, 1) := by decide +kernel
theorem dX11_nextPick_48 : decode cX11_nextPick 48 = .ok (.iastore, 1) := by decide +kernel
theorem dX11_nextPick_49 : decode cX11_nextPick 49 = .ok (.iload_n 2, 1) := by decide +kernel
theorem dX11_nextPick_50 : decode cX11_nextPick 50 = .ok (.iconst 1, 1) := by decide +kernel
theorem dX11_nextPick_51 : decode cX11_nextPick 51 = .ok (.iadd, 1) := by decide +kernel
theorem dX11_nextPick_52 : decode cX11_nextPick 52 = .ok (.istore_n 3, 1) := by decide +kernel
theorem dX11_nextPick_53 : decode cX11_nextPick 53 = .ok (.iload_n 3, 1) := by decide +kernel
theorem dX11_nextPick_54 : decode cX11_nextPick 54 = .ok (.iload_n 1, 1) := by decide +kernel
theorem dX11_nextPick_55 : decode cX11_nextPick 55 = .ok (.if_icmp .ge 25, 3) := by decide +kernel
theorem dX11_nextPick_58 : decode cX11_nextPick 58 = .ok (.aload_n 0, 1) := by decide +kernel
theorem dX11_nextPick_59 : decode cX11_nextPick 59 = .ok (.getfield 71, 3) := by decide +kernel
theorem dX11_nextPick_62 : decode cX11_nextPick 62 = .ok (.iload_n 3, 1) := by decide +kernel
theorem dX11_nextPick_63 : decode cX11_nextPick 63 = .ok (.aload_n 0, 1) := by decide +kernel
theorem dX11_nextPick_64 : decode cX11_nextPick 64 = .ok (.getfield 71, 3) := by decide +kernel
theorem dX11_nextPick_67 : decode cX11_nextPick 67 = .ok (.iload_n 3, 1) := by decide +kernel
theorem dX11_nextPick_68 : decode cX11_nextPick 68 = .ok (.iconst 1, 1) := by decide +kernel
theorem dX11_nextPick_69 : decode cX11_nextPick 69 = .ok (.isub, 1) := by decide +kernel
theorem dX11_nextPick_70 : decode cX11_nextPick 70 = .ok (.iaload, 1) := by decide +kernel
theorem dX11_nextPick_71 : decode cX11_nextPick 71 = .ok (.iconst 1, 1) := by decide +kernel
theorem dX11_nextPick_72 : decode cX11_nextPick 72 = .ok (.iadd, 1) := by decide +kernel
theorem dX11_nextPick_73 : decode cX11_nextPick 73 = .ok (.iastore, 1) := by decide +kernel
theorem dX11_nextPick_74 : decode cX11_nextPick 74 = .ok (.iinc 3 1, 3) := by decide +kernel
theorem dX11_nextPick_77 : decode cX11_nextPick 77 = .ok (.goto (-24), 3) := by decide +kernel
theorem dX11_nextPick_80 : decode cX11_nextPick 80 = .ok (.iconst 1, 1) := by decide +kernel
theorem dX11_nextPick_81 : decode cX11_nextPick 81 = .ok (.ireturn, 1) := by decide +kernel
theorem dX11_fewest_0 : decode cX11_fewest 0 = .ok (.aload_n 0, 1) := by decide +kernel
theorem dX11_fewest_1 : decode cX11_fewest 1 = .ok (.iconst 0, 1) := by decide +kernel
theorem dX11_fewest_2 : decode cX11_fewest 2 = .ok (.putfield 1, 3) := by decide +kernel
theorem dX11_fewest_5 : decode cX11_fewest 5 = .ok (.aload_n 0, 1) := by decide +kernel
theorem dX11_fewest_6 : decode cX11_fewest 6 = .ok (.invokevirtual 344, 3) := by decide +kernel
theorem dX11_fewest_9 : decode cX11_fewest 9 = .ok (.aload_n 0, 1) := by decide +kernel
theorem dX11_fewest_10 : decode cX11_fewest 10 = .ok (.getfield 33, 3) := by decide +kernel
theorem dX11_fewest_13 : decode cX11_fewest 13 = .ok (.iconst 1, 1) := by decide +kernel
theorem dX11_fewest_14 : decode cX11_fewest 14 = .ok (.iaload, 1) := by decide +kernel
theorem dX11_fewest_15 : decode cX11_fewest 15 = .ok (.if_icmp .eq 6, 3) := by decide +kernel
theorem dX11_fewest_18 : decode cX11_fewest 18 = .ok (.bipush (-2), 2) := by decide +kernel
theorem dX11_fewest_20 : decode cX11_fewest 20 = .ok (.ireturn, 1) := by decide +kernel
theorem dX11_fewest_21 : decode cX11_fewest 21 = .ok (.iconst 0, 1) := by decide +kernel
theorem dX11_fewest_22 : decode cX11_fewest 22 = .ok (.istore_n 1, 1) := by decide +kernel
theorem dX11_fewest_23 : decode cX11_fewest 23 = .ok (.iload_n 1, 1) := by decide +kernel
theorem dX11_fewest_24 : decode cX11_fewest 24 = .ok (.iconst 3, 1) := by decide +kernel
theorem dX11_fewest_25 : decode cX11_fewest 25 = .ok (.if_icmp .gt 114, 3) := by decide +kernel
theorem dX11_fewest_28 : decode cX11_fewest 28 = .ok (.iconst 0, 1) := by decide +kernel
theorem dX11_fewest_29 : decode cX11_fewest 29 = .ok (.istore_n 2, 1) := by decide +kernel
theorem dX11_fewest_30 : decode cX11_fewest 30 = .ok (.aload_n 0, 1) := by decide +kernel
theorem dX11_fewest_31 : decode cX11_fewest 31 = .ok (.iload_n 1, 1) := by decide +kernel
theorem dX11_fewest_32 : decode cX11_fewest 32 = .ok (.invokevirtual 356, 3) := by decide +kernel
theorem dX11_fewest_35 : decode cX11_fewest 35 = .ok (.istore_n 3, 1) := by decide +kernel
theorem dX11_fewest_36 : decode cX11_fewest 36 = .ok (.iload_n 3, 1) := by decide +kernel
theorem dX11_fewest_37 : decode cX11_fewest 37 = .ok (.ifCond .eq 77, 3) := by decide +kernel
theorem dX11_fewest_40 : decode cX11_fewest 40 = .ok (.aload_n 0, 1) := by decide +kernel
theorem dX11_fewest_41 : decode cX11_fewest 41 = .ok (.iload_n 1, 1) := by decide +kernel
theorem dX11_fewest_42 : decode cX11_fewest 42 = .ok (.iconst 0, 1) := by decide +kernel
theorem dX11_fewest_43 : decode cX11_fewest 43 = .ok (.invokevirtual 359, 3) := by decide +kernel
theorem dX11_fewest_46 : decode cX11_fewest 46 = .ok (.ifCond .ne 6, 3) := by decide +kernel
theorem dX11_fewest_49 : decode cX11_fewest 49 = .ok (.goto 56, 3) := by decide +kernel
theorem dX11_fewest_52 : decode cX11_fewest 52 = .ok (.iinc 2 1, 3) := by decide +kernel
theorem dX11_fewest_55 : decode cX11_fewest 55 = .ok (.iload_n 2, 1) := by decide +kernel
theorem dX11_fewest_56 : decode cX11_fewest 56 = .ok (.iconst 1, 1) := by decide +kernel
theorem dX11_fewest_57 : decode cX11_fewest 57 = .ok (.if_icmp .le 6, 3) := by decide +kernel
theorem dX11_fewest_60 : decode cX11_fewest 60 = .ok (.goto 45, 3) := by decide +kernel
theorem dX11_fewest_63 : decode cX11_fewest 63 = .ok (.iconst 0, 1) := by decide +kernel
theorem dX11_fewest_64 : decode cX11_fewest 64 = .ok (.istore 4, 2) := by decide +kernel
theorem dX11_fewest_66 : decode cX11_fewest 66 = .ok (.iload 4, 2) := by decide +kernel
theorem dX11_fewest_68 : decode cX11_fewest 68 = .ok (.iload_n 1, 1) := by decide +kernel
theorem dX11_fewest_69 : decode cX11_fewest 69 = .ok (.if_icmp .ge 36, 3) := by decide +kernel
theorem dX11_fewest_72 : decode cX11_fewest 72 = .ok (.aload_n 0, 1) := by decide +kernel
theorem dX11_fewest_73 : decode cX11_fewest 73 = .ok (.getfield 74, 3) := by decide +kernel
theorem dX11_fewest_76 : decode cX11_fewest 76 = .ok (.iload 4, 2) := by decide +kernel
theorem dX11_fewest_78 : decode cX11_fewest 78 = .ok (.aload_n 0, 1) := by decide +kernel
theorem dX11_fewest_79 : decode cX11_fewest 79 = .ok (.getfield 71, 3) := by decide +kernel
theorem dX11_fewest_82 : decode cX11_fewest 82 = .ok (.iload 4, 2) := by decide +kernel
theorem dX11_fewest_84 : decode cX11_fewest 84 = .ok (.iaload, 1) := by decide +kernel
theorem dX11_fewest_85 : decode cX11_fewest 85 = .ok (.iastore, 1) := by decide +kernel
theorem dX11_fewest_86 : decode cX11_fewest 86 = .ok (.aload_n 0, 1) := by decide +kernel
theorem dX11_fewest_87 : decode cX11_fewest 87 = .ok (.getfield 77, 3) := by decide +kernel
theorem dX11_fewest_90 : decode cX11_fewest 90 = .ok (.iload 4, 2) := by decide +kernel
theorem dX11_fewest_92 : decode cX11_fewest 92 = .ok (.aload_n 0, 1) := by decide +kernel
theorem dX11_fewest_93 : decode cX11_fewest 93 = .ok (.iload 4, 2) := by decide +kernel
theorem dX11_fewest_95 : decode cX11_fewest 95 = .ok (.invokevirtual 320, 3) := by decide +kernel
theorem dX11_fewest_98 : decode cX11_fewest 98 = .ok (.iastore, 1) := by decide +kernel
theorem dX11_fewest_99 : decode cX11_fewest 99 = .ok (.iinc 4 1, 3) := by decide +kernel
theorem dX11_fewest_102 : decode cX11_fewest 102 = .ok (.goto (-36), 3) := by decide +kernel
theorem dX11_fewest_105 : decode cX11_fewest 105 = .ok (.aload_n 0, 1) := by decide +kernel
theorem dX11_fewest_106 : decode cX11_fewest 106 = .ok (.iload_n 1, 1) := by decide +kernel
theorem dX11_fewest_107 : decode cX11_fewest 107 = .ok (.invokevirtual 362, 3) := by decide +kernel
theorem dX11_fewest_110 : decode cX11_fewest 110 = .ok (.istore_n 3, 1) := by decide +kernel
theorem dX11_fewest_111 : decode cX11_fewest 111 = .ok (.goto (-75), 3) := by decide +kernel
theorem dX11_fewest_114 : decode cX11_fewest 114 = .ok (.iload_n 2, 1) := by decide +kernel
theorem dX11_fewest_115 : decode cX11_fewest 115 = .ok (.ifCond .ne 6, 3) := by decide +kernel
theorem dX11_fewest_118 : decode cX11_fewest 118 = .ok (.goto 15, 3) := by decide +kernel
theorem dX11_fewest_121 : decode cX11_fewest 121 = .ok (.aload_n 0, 1) := by decide +kernel
theorem dX11_fewest_122 : decode cX11_fewest 122 = .ok (.iload_n 1, 1) := by decide +kernel
theorem dX11_fewest_123 : decode cX11_fewest 123 = .ok (.putfield 80, 3) := by decide +kernel
theorem dX11_fewest_126 : decode cX11_fewest 126 = .ok (.aload_n 0, 1) := by decide +kernel
theorem dX11_fewest_127 : decode cX11_fewest 127 = .ok (.iload_n 2, 1) := by decide +kernel
theorem dX11_fewest_128 : decode cX11_fewest 128 = .ok (.putfield 365, 3) := by decide +kernel
theorem dX11_fewest_131 : decode cX11_fewest 131 = .ok (.iload_n 1, 1) := by decide +kernel
theorem dX11_fewest_132 : decode cX11_fewest 132 = .ok (.ireturn, 1) := by decide +kernel
theorem dX11_fewest_133 : decode cX11_fewest 133 = .ok (.iinc 1 1, 3) := by decide +kernel
theorem dX11_fewest_136 : decode cX11_fewest 136 = .ok (.goto (-113), 3) := by decide +kernel
theorem dX11_fewest_139 : decode cX11_fewest 139 = .ok (.iconst (-1), 1) := by decide +kernel
theorem dX11_fewest_140 : decode cX11_fewest 140 = .ok (.ireturn, 1) := by decide +kernel
theorem dX11_made_0 : decode cX11_made 0 = .ok (.aload_n 0, 1) := by decide +kernel
theorem dX11_made_1 : decode cX11_made 1 = .ok (.iconst 0, 1) := by decide +kernel
theorem dX11_made_2 : decode cX11_made 2 = .ok (.putfield 1, 3) := by decide +kernel
theorem dX11_made_5 : decode cX11_made 5 = .ok (.aload_n 0, 1) := by decide +kernel
theorem dX11_made_6 : decode cX11_made 6 = .ok (.getfield 80, 3) := by decide +kernel
theorem dX11_made_9 : decode cX11_made 9 = .ok (.ifCond .lt 8, 3) := by decide +kernel
theorem dX11_made_12 : decode cX11_made 12 = .ok (.iload_n 1, 1) := by decide +kernel
theorem dX11_made_13 : decode cX11_made 13 = .ok (.iconst (-1), 1) := by decide +kernel
theorem dX11_made_14 : decode cX11_made 14 = .ok (.if_icmp .ge 7, 3) := by decide +kernel
theorem dX11_made_17 : decode cX11_made 17 = .ok (.iconst (-1), 1) := by decide +kernel
theorem dX11_made_18 : decode cX11_made 18 = .ok (.goto 33, 3) := by decide +kernel
theorem dX11_made_21 : decode cX11_made 21 = .ok (.iload_n 1, 1) := by decide +kernel
theorem dX11_made_22 : decode cX11_made 22 = .ok (.iconst (-1), 1) := by decide +kernel
theorem dX11_made_23 : decode cX11_made 23 = .ok (.if_icmp .ne 10, 3) := by decide +kernel
theorem dX11_made_26 : decode cX11_made 26 = .ok (.aload_n 0, 1) := by decide +kernel
theorem dX11_made_27 : decode cX11_made 27 = .ok (.getfield 365, 3) := by decide +kernel
theorem dX11_made_30 : decode cX11_made 30 = .ok (.goto 21, 3) := by decide +kernel
theorem dX11_made_33 : decode cX11_made 33 = .ok (.iload_n 1, 1) := by decide +kernel
theorem dX11_made_34 : decode cX11_made 34 = .ok (.aload_n 0, 1) := by decide +kernel
theorem dX11_made_35 : decode cX11_made 35 = .ok (.getfield 80, 3) := by decide +kernel
theorem dX11_made_38 : decode cX11_made 38 = .ok (.if_icmp .ge 12, 3) := by decide +kernel
theorem dX11_made_41 : decode cX11_made 41 = .ok (.aload_n 0, 1) := by decide +kernel
theorem dX11_made_42 : decode cX11_made 42 = .ok (.getfield 74, 3) := by decide +kernel
theorem dX11_made_45 : decode cX11_made 45 = .ok (.iload_n 1, 1) := by decide +kernel
theorem dX11_made_46 : decode cX11_made 46 = .ok (.iaload, 1) := by decide +kernel
theorem dX11_made_47 : decode cX11_made 47 = .ok (.goto 4, 3) := by decide +kernel
theorem dX11_made_50 : decode cX11_made 50 = .ok (.iconst (-1), 1) := by decide +kernel
theorem dX11_made_51 : decode cX11_made 51 = .ok (.ireturn, 1) := by decide +kernel
theorem dX11_madeBy_0 : decode cX11_madeBy 0 = .ok (.aload_n 0, 1) := by decide +kernel
theorem dX11_madeBy_1 : decode cX11_madeBy 1 = .ok (.iconst 0, 1) := by decide +kernel
theorem dX11_madeBy_2 : decode cX11_madeBy 2 = .ok (.putfield 1, 3) := by decide +kernel
theorem dX11_madeBy_5 : decode cX11_madeBy 5 = .ok (.iload_n 1, 1) := by decide +kernel
theorem dX11_madeBy_6 : decode cX11_madeBy 6 = .ok (.iconst 0, 1) := by decide +kernel
theorem dX11_madeBy_7 : decode cX11_madeBy 7 = .ok (.aload_n 0, 1) := by decide +kernel
theorem dX11_madeBy_8 : decode cX11_madeBy 8 = .ok (.getfield 80, 3) := by decide +kernel
theorem dX11_madeBy_11 : decode cX11_madeBy 11 = .ok (.iconst 1, 1) := by decide +kernel
theorem dX11_madeBy_12 : decode cX11_madeBy 12 = .ok (.isub, 1) := by decide +kernel
theorem dX11_madeBy_13 : decode cX11_madeBy 13 = .ok (.invokestatic 175, 3) := by decide +kernel
theorem dX11_madeBy_16 : decode cX11_madeBy 16 = .ok (.ifCond .eq 12, 3) := by decide +kernel
theorem dX11_madeBy_19 : decode cX11_madeBy 19 = .ok (.aload_n 0, 1) := by decide +kernel
theorem dX11_madeBy_20 : decode cX11_madeBy 20 = .ok (.getfield 77, 3) := by decide +kernel
theorem dX11_madeBy_23 : decode cX11_madeBy 23 = .ok (.iload_n 1, 1) := by decide +kernel
theorem dX11_madeBy_24 : decode cX11_madeBy 24 = .ok (.iaload, 1) := by decide +kernel
theorem dX11_madeBy_25 : decode cX11_madeBy 25 = .ok (.goto 4, 3) := by decide +kernel
theorem dX11_madeBy_28 : decode cX11_madeBy 28 = .ok (.iconst (-1), 1) := by decide +kernel
theorem dX11_madeBy_29 : decode cX11_madeBy 29 = .ok (.ireturn, 1) := by decide +kernel
theorem dX11_isHonest_0 : decode cX11_isHonest 0 = .ok (.iconst 0, 1) := by decide +kernel
theorem dX11_isHonest_1 : decode cX11_isHonest 1 = .ok (.istore_n 3, 1) := by decide +kernel
theorem dX11_isHonest_2 : decode cX11_isHonest 2 = .ok (.iload_n 3, 1) := by decide +kernel
theorem dX11_isHonest_3 : decode cX11_isHonest 3 = .ok (.iload_n 1, 1) := by decide +kernel
theorem dX11_isHonest_4 : decode cX11_isHonest 4 = .ok (.if_icmp .gt 42, 3) := by decide +kernel
theorem dX11_isHonest_7 : decode cX11_isHonest 7 = .ok (.aload_n 0, 1) := by decide +kernel
theorem dX11_isHonest_8 : decode cX11_isHonest 8 = .ok (.iload_n 3, 1) := by decide +kernel
theorem dX11_isHonest_9 : decode cX11_isHonest 9 = .ok (.invokevirtual 356, 3) := by decide +kernel
theorem dX11_isHonest_12 : decode cX11_isHonest 12 = .ok (.istore 4, 2) := by decide +kernel
theorem dX11_isHonest_14 : decode cX11_isHonest 14 = .ok (.iload 4, 2) := by decide +kernel
theorem dX11_isHonest_16 : decode cX11_isHonest 16 = .ok (.ifCond .eq 24, 3) := by decide +kernel
theorem dX11_isHonest_19 : decode cX11_isHonest 19 = .ok (.aload_n 0, 1) := by decide +kernel
theorem dX11_isHonest_20 : decode cX11_isHonest 20 = .ok (.iload_n 3, 1) := by decide +kernel
theorem dX11_isHonest_21 : decode cX11_isHonest 21 = .ok (.iload_n 2, 1) := by decide +kernel
theorem dX11_isHonest_22 : decode cX11_isHonest 22 = .ok (.invokevirtual 359, 3) := by decide +kernel
theorem dX11_isHonest_25 : decode cX11_isHonest 25 = .ok (.ifCond .eq 5, 3) := by decide +kernel
theorem dX11_isHonest_28 : decode cX11_isHonest 28 = .ok (.iconst 1, 1) := by decide +kernel
theorem dX11_isHonest_29 : decode cX11_isHonest 29 = .ok (.ireturn, 1) := by decide +kernel
theorem dX11_isHonest_30 : decode cX11_isHonest 30 = .ok (.aload_n 0, 1) := by decide +kernel
theorem dX11_isHonest_31 : decode cX11_isHonest 31 = .ok (.iload_n 3, 1) := by decide +kernel
theorem dX11_isHonest_32 : decode cX11_isHonest 32 = .ok (.invokevirtual 362, 3) := by decide +kernel
theorem dX11_isHonest_35 : decode cX11_isHonest 35 = .ok (.istore 4, 2) := by decide +kernel
theorem dX11_isHonest_37 : decode cX11_isHonest 37 = .ok (.goto (-23), 3) := by decide +kernel
theorem dX11_isHonest_40 : decode cX11_isHonest 40 = .ok (.iinc 3 1, 3) := by decide +kernel
theorem dX11_isHonest_43 : decode cX11_isHonest 43 = .ok (.goto (-41), 3) := by decide +kernel
theorem dX11_isHonest_46 : decode cX11_isHonest 46 = .ok (.iconst 0, 1) := by decide +kernel
theorem dX11_isHonest_47 : decode cX11_isHonest 47 = .ok (.ireturn, 1) := by decide +kernel
theorem dX11_liars_0 : decode cX11_liars 0 = .ok (.aload_n 0, 1) := by decide +kernel
theorem dX11_liars_1 : decode cX11_liars 1 = .ok (.iconst 0, 1) := by decide +kernel
theorem dX11_liars_2 : decode cX11_liars 2 = .ok (.putfield 1, 3) := by decide +kernel
theorem dX11_liars_5 : decode cX11_liars 5 = .ok (.aload_n 0, 1) := by decide +kernel
theorem dX11_liars_6 : decode cX11_liars 6 = .ok (.invokevirtual 344, 3) := by decide +kernel
theorem dX11_liars_9 : decode cX11_liars 9 = .ok (.aload_n 0, 1) := by decide +kernel
theorem dX11_liars_10 : decode cX11_liars 10 = .ok (.getfield 33, 3) := by decide +kernel
theorem dX11_liars_13 : decode cX11_liars 13 = .ok (.iconst 1, 1) := by decide +kernel
theorem dX11_liars_14 : decode cX11_liars 14 = .ok (.iaload, 1) := by decide +kernel
theorem dX11_liars_15 : decode cX11_liars 15 = .ok (.if_icmp .ne 12, 3) := by decide +kernel
theorem dX11_liars_18 : decode cX11_liars 18 = .ok (.iload_n 1, 1) := by decide +kernel
theorem dX11_liars_19 : decode cX11_liars 19 = .ok (.iconst 0, 1) := by decide +kernel
theorem dX11_liars_20 : decode cX11_liars 20 = .ok (.iconst 2, 1) := by decide +kernel
theorem dX11_liars_21 : decode cX11_liars 21 = .ok (.invokestatic 175, 3) := by decide +kernel
theorem dX11_liars_24 : decode cX11_liars 24 = .ok (.ifCond .ne 6, 3) := by decide +kernel
theorem dX11_liars_27 : decode cX11_liars 27 = .ok (.bipush (-2), 2) := by decide +kernel
theorem dX11_liars_29 : decode cX11_liars 29 = .ok (.ireturn, 1) := by decide +kernel
theorem dX11_liars_30 : decode cX11_liars 30 = .ok (.iconst 0, 1) := by decide +kernel
theorem dX11_liars_31 : decode cX11_liars 31 = .ok (.istore_n 2, 1) := by decide +kernel
theorem dX11_liars_32 : decode cX11_liars 32 = .ok (.iload_n 2, 1) := by decide +kernel
theorem dX11_liars_33 : decode cX11_liars 33 = .ok (.iconst 2, 1) := by decide +kernel
theorem dX11_liars_34 : decode cX11_liars 34 = .ok (.if_icmp .gt 184, 3) := by decide +kernel
theorem dX11_liars_37 : decode cX11_liars 37 = .ok (.iload_n 2, 1) := by decide +kernel
theorem dX11_liars_38 : decode cX11_liars 38 = .ok (.aload_n 0, 1) := by decide +kernel
theorem dX11_liars_39 : decode cX11_liars 39 = .ok (.getfield 33, 3) := by decide +kernel
theorem dX11_liars_42 : decode cX11_liars 42 = .ok (.iconst 1, 1) := by decide +kernel
theorem dX11_liars_43 : decode cX11_liars 43 = .ok (.iaload, 1) := by decide +kernel
theorem dX11_liars_44 : decode cX11_liars 44 = .ok (.if_icmp .gt 174, 3) := by decide +kernel
theorem dX11_liars_47 : decode cX11_liars 47 = .ok (.iconst 0, 1) := by decide +kernel
theorem dX11_liars_48 : decode cX11_liars 48 = .ok (.istore_n 3, 1) := by decide +kernel
theorem dX11_liars_49 : decode cX11_liars 49 = .ok (.iconst 0, 1) := by decide +kernel
theorem dX11_liars_50 : decode cX11_liars 50 = .ok (.istore 4, 2) := by decide +kernel
theorem dX11_liars_52 : decode cX11_liars 52 = .ok (.aload_n 0, 1) := by decide +kernel
theorem dX11_liars_53 : decode cX11_liars 53 = .ok (.getfield 33, 3) := by decide +kernel
theorem dX11_liars_56 : decode cX11_liars 56 = .ok (.iconst 1, 1) := by decide +kernel
theorem dX11_liars_57 : decode cX11_liars 57 = .ok (.iaload, 1) := by decide +kernel
theorem dX11_liars_58 : decode cX11_liars 58 = .ok (.istore 5, 2) := by decide +kernel
theorem dX11_liars_60 : decode cX11_liars 60 = .ok (.iconst 0, 1) := by decide +kernel
theorem dX11_liars_61 : decode cX11_liars 61 = .ok (.istore 6, 2) := by decide +kernel
theorem dX11_liars_63 : decode cX11_liars 63 = .ok (.iload 6, 2) := by decide +kernel
theorem dX11_liars_65 : decode cX11_liars 65 = .ok (.iload_n 2, 1) := by decide +kernel
theorem dX11_liars_66 : decode cX11_liars 66 = .ok (.ifCond .ne 7, 3) := by decide +kernel
theorem dX11_liars_69 : decode cX11_liars 69 = .ok (.iconst 1, 1) := by decide +kernel
theorem dX11_liars_70 : decode cX11_liars 70 = .ok (.goto 5, 3) := by decide +kernel
theorem dX11_liars_73 : decode cX11_liars 73 = .ok (.iload 5, 2) := by decide +kernel
theorem dX11_liars_75 : decode cX11_liars 75 = .ok (.if_icmp .ge 112, 3) := by decide +kernel
theorem dX11_liars_78 : decode cX11_liars 78 = .ok (.iload_n 2, 1) := by decide +kernel
theorem dX11_liars_79 : decode cX11_liars 79 = .ok (.iconst 2, 1) := by decide +kernel
theorem dX11_liars_80 : decode cX11_liars 80 = .ok (.if_icmp .ge 8, 3) := by decide +kernel
theorem dX11_liars_83 : decode cX11_liars 83 = .ok (.iload 6, 2) := by decide +kernel
theorem dX11_liars_85 : decode cX11_liars 85 = .ok (.goto 7, 3) := by decide +kernel
theorem dX11_liars_88 : decode cX11_liars 88 = .ok (.iload 6, 2) := by decide +kernel
theorem dX11_liars_90 : decode cX11_liars 90 = .ok (.iconst 1, 1) := by decide +kernel
theorem dX11_liars_91 : decode cX11_liars 91 = .ok (.iadd, 1) := by decide +kernel
theorem dX11_liars_92 : decode cX11_liars 92 = .ok (.istore 7, 2) := by decide +kernel
theorem dX11_liars_94 : decode cX11_liars 94 = .ok (.iload 7, 2) := by decide +kernel
theorem dX11_liars_96 : decode cX11_liars 96 = .ok (.iload_n 2, 1) := by decide +kernel
theorem dX11_liars_97 : decode cX11_liars 97 = .ok (.ifCond .ne 7, 3) := by decide +kernel
theorem dX11_liars_100 : decode cX11_liars 100 = .ok (.iconst 1, 1) := by decide +kernel
theorem dX11_liars_101 : decode cX11_liars 101 = .ok (.goto 17, 3) := by decide +kernel
theorem dX11_liars_104 : decode cX11_liars 104 = .ok (.iload_n 2, 1) := by decide +kernel
theorem dX11_liars_105 : decode cX11_liars 105 = .ok (.iconst 1, 1) := by decide +kernel
theorem dX11_liars_106 : decode cX11_liars 106 = .ok (.if_icmp .ne 10, 3) := by decide +kernel
theorem dX11_liars_109 : decode cX11_liars 109 = .ok (.iload 6, 2) := by decide +kernel
theorem dX11_liars_111 : decode cX11_liars 111 = .ok (.iconst 1, 1) := by decide +kernel
theorem dX11_liars_112 : decode cX11_liars 112 = .ok (.iadd, 1) := by decide +kernel
theorem dX11_liars_113 : decode cX11_liars 113 = .ok (.goto 5, 3) := by decide +kernel
theorem dX11_liars_116 : decode cX11_liars 116 = .ok (.iload 5, 2) := by decide +kernel
theorem dX11_liars_118 : decode cX11_liars 118 = .ok (.if_icmp .ge 63, 3) := by decide +kernel
theorem dX11_liars_121 : decode cX11_liars 121 = .ok (.iload_n 2, 1) := by decide +kernel
theorem dX11_liars_122 : decode cX11_liars 122 = .ok (.ifCond .ne 7, 3) := by decide +kernel
theorem dX11_liars_125 : decode cX11_liars 125 = .ok (.iconst 0, 1) := by decide +kernel
theorem dX11_liars_126 : decode cX11_liars 126 = .ok (.goto 12, 3) := by decide +kernel
theorem dX11_liars_129 : decode cX11_liars 129 = .ok (.iconst 1, 1) := by decide +kernel
theorem dX11_liars_130 : decode cX11_liars 130 = .ok (.iload 6, 2) := by decide +kernel
theorem dX11_liars_132 : decode cX11_liars 132 = .ok (.ishl, 1) := by decide +kernel
theorem dX11_liars_133 : decode cX11_liars 133 = .ok (.iconst 1, 1) := by decide +kernel
theorem dX11_liars_134 : decode cX11_liars 134 = .ok (.iload 7, 2) := by decide +kernel
theorem dX11_liars_136 : decode cX11_liars 136 = .ok (.ishl, 1) := by decide +kernel
theorem dX11_liars_137 : decode cX11_liars 137 = .ok (.ior, 1) := by decide +kernel
theorem dX11_liars_138 : decode cX11_liars 138 = .ok (.istore 8, 2) := by decide +kernel
theorem dX11_liars_140 : decode cX11_liars 140 = .ok (.aload_n 0, 1) := by decide +kernel
theorem dX11_liars_141 : decode cX11_liars 141 = .ok (.iload_n 1, 1) := by decide +kernel
theorem dX11_liars_142 : decode cX11_liars 142 = .ok (.iload 8, 2) := by decide +kernel
theorem dX11_liars_144 : decode cX11_liars 144 = .ok (.invokevirtual 368, 3) := by decide +kernel
theorem dX11_liars_147 : decode cX11_liars 147 = .ok (.ifCond .ne 6, 3) := by decide +kernel
theorem dX11_liars_150 : decode cX11_liars 150 = .ok (.goto 25, 3) := by decide +kernel
theorem dX11_liars_153 : decode cX11_liars 153 = .ok (.iload_n 3, 1) := by decide +kernel
theorem dX11_liars_154 : decode cX11_liars 154 = .ok (.ifCond .ne 14, 3) := by decide +kernel
theorem dX11_liars_157 : decode cX11_liars 157 = .ok (.bipush 10, 2) := by decide +kernel
theorem dX11_liars_159 : decode cX11_liars 159 = .ok (.iload 6, 2) := by decide +kernel
theorem dX11_liars_161 : decode cX11_liars 161 = .ok (.imul, 1) := by decide +kernel
theorem dX11_liars_162 : decode cX11_liars 162 = .ok (.iload 7, 2) := by decide +kernel
theorem dX11_liars_164 : decode cX11_liars 164 = .ok (.iadd, 1) := by decide +kernel
theorem dX11_liars_165 : decode cX11_liars 165 = .ok (.goto 5, 3) := by decide +kernel
theorem dX11_liars_168 : decode cX11_liars 168 = .ok (.iload 4, 2) := by decide +kernel
theorem dX11_liars_170 : decode cX11_liars 170 = .ok (.istore 4, 2) := by decide +kernel
theorem dX11_liars_172 : decode cX11_liars 172 = .ok (.iinc 3 1, 3) := by decide +kernel
theorem dX11_liars_175 : decode cX11_liars 175 = .ok (.iinc 7 1, 3) := by decide +kernel
theorem dX11_liars_178 : decode cX11_liars 178 = .ok (.goto (-84), 3) := by decide +kernel
theorem dX11_liars_181 : decode cX11_liars 181 = .ok (.iinc 6 1, 3) := by decide +kernel
theorem dX11_liars_184 : decode cX11_liars 184 = .ok (.goto (-121), 3) := by decide +kernel
theorem dX11_liars_187 : decode cX11_liars 187 = .ok (.iload_n 3, 1) := by decide +kernel
theorem dX11_liars_188 : decode cX11_liars 188 = .ok (.ifCond .ne 6, 3) := by decide +kernel
theorem dX11_liars_191 : decode cX11_liars 191 = .ok (.goto 21, 3) := by decide +kernel
theorem dX11_liars_194 : decode cX11_liars 194 = .ok (.aload_n 0, 1) := by decide +kernel
theorem dX11_liars_195 : decode cX11_liars 195 = .ok (.iload_n 2, 1) := by decide +kernel
theorem dX11_liars_196 : decode cX11_liars 196 = .ok (.putfield 83, 3) := by decide +kernel
theorem dX11_liars_199 : decode cX11_liars 199 = .ok (.aload_n 0, 1) := by decide +kernel
theorem dX11_liars_200 : decode cX11_liars 200 = .ok (.iload_n 3, 1) := by decide +kernel
theorem dX11_liars_201 : decode cX11_liars 201 = .ok (.putfield 371, 3) := by decide +kernel
theorem dX11_liars_204 : decode cX11_liars 204 = .ok (.aload_n 0, 1) := by decide +kernel
theorem dX11_liars_205 : decode cX11_liars 205 = .ok (.iload 4, 2) := by decide +kernel
theorem dX11_liars_207 : decode cX11_liars 207 = .ok (.putfield 374, 3) := by decide +kernel
theorem dX11_liars_210 : decode cX11_liars 210 = .ok (.iload_n 2, 1) := by decide +kernel
theorem dX11_liars_211 : decode cX11_liars 211 = .ok (.ireturn, 1) := by decide +kernel
theorem dX11_liars_212 : decode cX11_liars 212 = .ok (.iinc 2 1, 3) := by decide +kernel
theorem dX11_liars_215 : decode cX11_liars 215 = .ok (.goto (-183), 3) := by decide +kernel
theorem dX11_liars_218 : decode cX11_liars 218 = .ok (.iconst (-1), 1) := by decide +kernel
theorem dX11_liars_219 : decode cX11_liars 219 = .ok (.ireturn, 1) := by decide +kernel
theorem dX11_liar_0 : decode cX11_liar 0 = .ok (.aload_n 0, 1) := by decide +kernel
theorem dX11_liar_1 : decode cX11_liar 1 = .ok (.iconst 0, 1) := by decide +kernel
theorem dX11_liar_2 : decode cX11_liar 2 = .ok (.putfield 1, 3) := by decide +kernel
theorem dX11_liar_5 : decode cX11_liar 5 = .ok (.aload_n 0, 1) := by decide +kernel
theorem dX11_liar_6 : decode cX11_liar 6 = .ok (.getfield 83, 3) := by decide +kernel
theorem dX11_liar_9 : decode cX11_liar 9 = .ok (.ifCond .lt 16, 3) := by decide +kernel
theorem dX11_liar_12 : decode cX11_liar 12 = .ok (.iload_n 1, 1) := by decide +kernel
theorem dX11_liar_13 : decode cX11_liar 13 = .ok (.iconst (-1), 1) := by decide +kernel
theorem dX11_liar_14 : decode cX11_liar 14 = .ok (.if_icmp .lt 11, 3) := by decide +kernel
theorem dX11_liar_17 : decode cX11_liar 17 = .ok (.iload_n 1, 1) := by decide +kernel
theorem dX11_liar_18 : decode cX11_liar 18 = .ok (.aload_n 0, 1) := by decide +kernel
theorem dX11_liar_19 : decode cX11_liar 19 = .ok (.getfield 83, 3) := by decide +kernel
theorem dX11_liar_22 : decode cX11_liar 22 = .ok (.if_icmp .lt 5, 3) := by decide +kernel
theorem dX11_liar_25 : decode cX11_liar 25 = .ok (.iconst (-1), 1) := by decide +kernel
theorem dX11_liar_26 : decode cX11_liar 26 = .ok (.ireturn, 1) := by decide +kernel
theorem dX11_liar_27 : decode cX11_liar 27 = .ok (.iload_n 1, 1) := by decide +kernel
theorem dX11_liar_28 : decode cX11_liar 28 = .ok (.iconst (-1), 1) := by decide +kernel
theorem dX11_liar_29 : decode cX11_liar 29 = .ok (.if_icmp .ne 10, 3) := by decide +kernel
theorem dX11_liar_32 : decode cX11_liar 32 = .ok (.aload_n 0, 1) := by decide +kernel
theorem dX11_liar_33 : decode cX11_liar 33 = .ok (.getfield 371, 3) := by decide +kernel
theorem dX11_liar_36 : decode cX11_liar 36 = .ok (.goto 24, 3) := by decide +kernel
theorem dX11_liar_39 : decode cX11_liar 39 = .ok (.iload_n 1, 1) := by decide +kernel
theorem dX11_liar_40 : decode cX11_liar 40 = .ok (.ifCond .ne 13, 3) := by decide +kernel
theorem dX11_liar_43 : decode cX11_liar 43 = .ok (.aload_n 0, 1) := by decide +kernel
theorem dX11_liar_44 : decode cX11_liar 44 = .ok (.getfield 374, 3) := by decide +kernel
theorem dX11_liar_47 : decode cX11_liar 47 = .ok (.bipush 10, 2) := by decide +kernel
theorem dX11_liar_49 : decode cX11_liar 49 = .ok (.idiv, 1) := by decide +kernel
theorem dX11_liar_50 : decode cX11_liar 50 = .ok (.goto 10, 3) := by decide +kernel
theorem dX11_liar_53 : decode cX11_liar 53 = .ok (.aload_n 0, 1) := by decide +kernel
theorem dX11_liar_54 : decode cX11_liar 54 = .ok (.getfield 374, 3) := by decide +kernel
theorem dX11_liar_57 : decode cX11_liar 57 = .ok (.bipush 10, 2) := by decide +kernel
theorem dX11_liar_59 : decode cX11_liar 59 = .ok (.irem, 1) := by decide +kernel
theorem dX11_liar_60 : decode cX11_liar 60 = .ok (.ireturn, 1) := by decide +kernel
theorem dX11_nulled_0 : decode cX11_nulled 0 = .ok (.aload_n 0, 1) := by decide +kernel
theorem dX11_nulled_1 : decode cX11_nulled 1 = .ok (.iconst 0, 1) := by decide +kernel
theorem dX11_nulled_2 : decode cX11_nulled 2 = .ok (.putfield 1, 3) := by decide +kernel
theorem dX11_nulled_5 : decode cX11_nulled 5 = .ok (.aload_n 0, 1) := by decide +kernel
theorem dX11_nulled_6 : decode cX11_nulled 6 = .ok (.sipush 940, 3) := by decide +kernel
theorem dX11_nulled_9 : decode cX11_nulled 9 = .ok (.invokevirtual 218, 3) := by decide +kernel
theorem dX11_nulled_12 : decode cX11_nulled 12 = .ok (.aload_n 0, 1) := by decide +kernel
theorem dX11_nulled_13 : decode cX11_nulled 13 = .ok (.getfield 18, 3) := by decide +kernel
theorem dX11_nulled_16 : decode cX11_nulled 16 = .ok (.iconst 1, 1) := by decide +kernel
theorem dX11_nulled_17 : decode cX11_nulled 17 = .ok (.bipush 7, 2) := by decide +kernel
theorem dX11_nulled_19 : decode cX11_nulled 19 = .ok (.invokestatic 175, 3) := by decide +kernel
theorem dX11_nulled_22 : decode cX11_nulled 22 = .ok (.ifCond .ne 5, 3) := by decide +kernel
theorem dX11_nulled_25 : decode cX11_nulled 25 = .ok (.iconst 0, 1) := by decide +kernel
theorem dX11_nulled_26 : decode cX11_nulled 26 = .ok (.ireturn, 1) := by decide +kernel
theorem dX11_nulled_27 : decode cX11_nulled 27 = .ok (.iconst 0, 1) := by decide +kernel
theorem dX11_nulled_28 : decode cX11_nulled 28 = .ok (.istore_n 1, 1) := by decide +kernel
theorem dX11_nulled_29 : decode cX11_nulled 29 = .ok (.iload_n 1, 1) := by decide +kernel
theorem dX11_nulled_30 : decode cX11_nulled 30 = .ok (.aload_n 0, 1) := by decide +kernel
theorem dX11_nulled_31 : decode cX11_nulled 31 = .ok (.getfield 18, 3) := by decide +kernel
theorem dX11_nulled_34 : decode cX11_nulled 34 = .ok (.if_icmp .ge 51, 3) := by decide +kernel
theorem dX11_nulled_37 : decode cX11_nulled 37 = .ok (.aload_n 0, 1) := by decide +kernel
theorem dX11_nulled_38 : decode cX11_nulled 38 = .ok (.aload_n 0, 1) := by decide +kernel
theorem dX11_nulled_39 : decode cX11_nulled 39 = .ok (.iload_n 1, 1) := by decide +kernel
theorem dX11_nulled_40 : decode cX11_nulled 40 = .ok (.invokevirtual 341, 3) := by decide +kernel
theorem dX11_nulled_43 : decode cX11_nulled 43 = .ok (.invokevirtual 270, 3) := by decide +kernel
theorem dX11_nulled_46 : decode cX11_nulled 46 = .ok (.ifCond .ne 5, 3) := by decide +kernel
theorem dX11_nulled_49 : decode cX11_nulled 49 = .ok (.iconst 0, 1) := by decide +kernel
theorem dX11_nulled_50 : decode cX11_nulled 50 = .ok (.ireturn, 1) := by decide +kernel
theorem dX11_nulled_51 : decode cX11_nulled 51 = .ok (.iconst 0, 1) := by decide +kernel
theorem dX11_nulled_52 : decode cX11_nulled 52 = .ok (.istore_n 2, 1) := by decide +kernel
theorem dX11_nulled_53 : decode cX11_nulled 53 = .ok (.iload_n 2, 1) := by decide +kernel
theorem dX11_nulled_54 : decode cX11_nulled 54 = .ok (.iload_n 1, 1) := by decide +kernel
theorem dX11_nulled_55 : decode cX11_nulled 55 = .ok (.if_icmp .ge 24, 3) := by decide +kernel
theorem dX11_nulled_58 : decode cX11_nulled 58 = .ok (.aload_n 0, 1) := by decide +kernel
theorem dX11_nulled_59 : decode cX11_nulled 59 = .ok (.iload_n 2, 1) := by decide +kernel
theorem dX11_nulled_60 : decode cX11_nulled 60 = .ok (.invokevirtual 341, 3) := by decide +kernel
theorem dX11_nulled_63 : decode cX11_nulled 63 = .ok (.aload_n 0, 1) := by decide +kernel
theorem dX11_nulled_64 : decode cX11_nulled 64 = .ok (.iload_n 1, 1) := by decide +kernel
theorem dX11_nulled_65 : decode cX11_nulled 65 = .ok (.invokevirtual 341, 3) := by decide +kernel
theorem dX11_nulled_68 : decode cX11_nulled 68 = .ok (.if_icmp .ne 5, 3) := by decide +kernel
theorem dX11_nulled_71 : decode cX11_nulled 71 = .ok (.iconst 0, 1) := by decide +kernel
theorem dX11_nulled_72 : decode cX11_nulled 72 = .ok (.ireturn, 1) := by decide +kernel
theorem dX11_nulled_73 : decode cX11_nulled 73 = .ok (.iinc 2 1, 3) := by decide +kernel
theorem dX11_nulled_76 : decode cX11_nulled 76 = .ok (.goto (-23), 3) := by decide +kernel
theorem dX11_nulled_79 : decode cX11_nulled 79 = .ok (.iinc 1 1, 3) := by decide +kernel
theorem dX11_nulled_82 : decode cX11_nulled 82 = .ok (.goto (-53), 3) := by decide +kernel
theorem dX11_nulled_85 : decode cX11_nulled 85 = .ok (.aload_n 0, 1) := by decide +kernel
theorem dX11_nulled_86 : decode cX11_nulled 86 = .ok (.aload_n 0, 1) := by decide +kernel
theorem dX11_nulled_87 : decode cX11_nulled 87 = .ok (.getfield 33, 3) := by decide +kernel
theorem dX11_nulled_90 : decode cX11_nulled 90 = .ok (.iconst 1, 1) := by decide +kernel
theorem dX11_nulled_91 : decode cX11_nulled 91 = .ok (.iaload, 1) := by decide +kernel
theorem dX11_nulled_92 : decode cX11_nulled 92 = .ok (.iconst 1, 1) := by decide +kernel
theorem dX11_nulled_93 : decode cX11_nulled 93 = .ok (.iadd, 1) := by decide +kernel
theorem dX11_nulled_94 : decode cX11_nulled 94 = .ok (.putfield 251, 3) := by decide +kernel
theorem dX11_nulled_97 : decode cX11_nulled 97 = .ok (.aload_n 0, 1) := by decide +kernel
theorem dX11_nulled_98 : decode cX11_nulled 98 = .ok (.aload_n 0, 1) := by decide +kernel
theorem dX11_nulled_99 : decode cX11_nulled 99 = .ok (.getfield 18, 3) := by decide +kernel
theorem dX11_nulled_102 : decode cX11_nulled 102 = .ok (.putfield 248, 3) := by decide +kernel
theorem dX11_nulled_105 : decode cX11_nulled 105 = .ok (.iconst 0, 1) := by decide +kernel
theorem dX11_nulled_106 : decode cX11_nulled 106 = .ok (.istore_n 1, 1) := by decide +kernel
theorem dX11_nulled_107 : decode cX11_nulled 107 = .ok (.iload_n 1, 1) := by decide +kernel
theorem dX11_nulled_108 : decode cX11_nulled 108 = .ok (.aload_n 0, 1) := by decide +kernel
theorem dX11_nulled_109 : decode cX11_nulled 109 = .ok (.getfield 18, 3) := by decide +kernel
theorem dX11_nulled_112 : decode cX11_nulled 112 = .ok (.if_icmp .ge 92, 3) := by decide +kernel
theorem dX11_nulled_115 : decode cX11_nulled 115 = .ok (.iconst 0, 1) := by decide +kernel
theorem dX11_nulled_116 : decode cX11_nulled 116 = .ok (.istore_n 2, 1) := by decide +kernel
theorem dX11_nulled_117 : decode cX11_nulled 117 = .ok (.iload_n 2, 1) := by decide +kernel
theorem dX11_nulled_118 : decode cX11_nulled 118 = .ok (.aload_n 0, 1) := by decide +kernel
theorem dX11_nulled_119 : decode cX11_nulled 119 = .ok (.getfield 33, 3) := by decide +kernel
theorem dX11_nulled_122 : decode cX11_nulled 122 = .ok (.iconst 1, 1) := by decide +kernel
theorem dX11_nulled_123 : decode cX11_nulled 123 = .ok (.iaload, 1) := by decide +kernel
theorem dX11_nulled_124 : decode cX11_nulled 124 = .ok (.if_icmp .ge 47, 3) := by decide +kernel
theorem dX11_nulled_127 : decode cX11_nulled 127 = .ok (.aload_n 0, 1) := by decide +kernel
theorem dX11_nulled_128 : decode cX11_nulled 128 = .ok (.getfield 50, 3) := by decide +kernel
theorem dX11_nulled_131 : decode cX11_nulled 131 = .ok (.aload_n 0, 1) := by decide +kernel
theorem dX11_nulled_132 : decode cX11_nulled 132 = .ok (.getfield 251, 3) := by decide +kernel
theorem dX11_nulled_135 : decode cX11_nulled 135 = .ok (.iload_n 1, 1) := by decide +kernel
theorem dX11_nulled_136 : decode cX11_nulled 136 = .ok (.imul, 1) := by decide +kernel
theorem dX11_nulled_137 : decode cX11_nulled 137 = .ok (.iload_n 2, 1) := by decide +kernel
theorem dX11_nulled_138 : decode cX11_nulled 138 = .ok (.iadd, 1) := by decide +kernel
theorem dX11_nulled_139 : decode cX11_nulled 139 = .ok (.aload_n 0, 1) := by decide +kernel
theorem dX11_nulled_140 : decode cX11_nulled 140 = .ok (.iload_n 2, 1) := by decide +kernel
theorem dX11_nulled_141 : decode cX11_nulled 141 = .ok (.invokevirtual 279, 3) := by decide +kernel
theorem dX11_nulled_144 : decode cX11_nulled 144 = .ok (.aload_n 0, 1) := by decide +kernel
theorem dX11_nulled_145 : decode cX11_nulled 145 = .ok (.aload_n 0, 1) := by decide +kernel
theorem dX11_nulled_146 : decode cX11_nulled 146 = .ok (.iload_n 1, 1) := by decide +kernel
theorem dX11_nulled_147 : decode cX11_nulled 147 = .ok (.invokevirtual 341, 3) := by decide +kernel
theorem dX11_nulled_150 : decode cX11_nulled 150 = .ok (.aload_n 0, 1) := by decide +kernel
theorem dX11_nulled_151 : decode cX11_nulled 151 = .ok (.iload_n 2, 1) := by decide +kernel
theorem dX11_nulled_152 : decode cX11_nulled 152 = .ok (.invokevirtual 276, 3) := by decide +kernel
theorem dX11_nulled_155 : decode cX11_nulled 155 = .ok (.invokevirtual 273, 3) := by decide +kernel
theorem dX11_nulled_158 : decode cX11_nulled 158 = .ok (.imul, 1) := by decide +kernel
theorem dX11_nulled_159 : decode cX11_nulled 159 = .ok (.aload_n 0, 1) := by decide +kernel
theorem dX11_nulled_160 : decode cX11_nulled 160 = .ok (.getfield 230, 3) := by decide +kernel
theorem dX11_nulled_163 : decode cX11_nulled 163 = .ok (.irem, 1) := by decide +kernel
theorem dX11_nulled_164 : decode cX11_nulled 164 = .ok (.iastore, 1) := by decide +kernel
theorem dX11_nulled_165 : decode cX11_nulled 165 = .ok (.iinc 2 1, 3) := by decide +kernel
theorem dX11_nulled_168 : decode cX11_nulled 168 = .ok (.goto (-51), 3) := by decide +kernel
theorem dX11_nulled_171 : decode cX11_nulled 171 = .ok (.aload_n 0, 1) := by decide +kernel
theorem dX11_nulled_172 : decode cX11_nulled 172 = .ok (.getfield 50, 3) := by decide +kernel
theorem dX11_nulled_175 : decode cX11_nulled 175 = .ok (.aload_n 0, 1) := by decide +kernel
theorem dX11_nulled_176 : decode cX11_nulled 176 = .ok (.getfield 251, 3) := by decide +kernel
theorem dX11_nulled_179 : decode cX11_nulled 179 = .ok (.iload_n 1, 1) := by decide +kernel
theorem dX11_nulled_180 : decode cX11_nulled 180 = .ok (.imul, 1) := by decide +kernel
theorem dX11_nulled_181 : decode cX11_nulled 181 = .ok (.aload_n 0, 1) := by decide +kernel
theorem dX11_nulled_182 : decode cX11_nulled 182 = .ok (.getfield 251, 3) := by decide +kernel
theorem dX11_nulled_185 : decode cX11_nulled 185 = .ok (.iadd, 1) := by decide +kernel
theorem dX11_nulled_186 : decode cX11_nulled 186 = .ok (.iconst 1, 1) := by decide +kernel
theorem dX11_nulled_187 : decode cX11_nulled 187 = .ok (.isub, 1) := by decide +kernel
theorem dX11_nulled_188 : decode cX11_nulled 188 = .ok (.iload_n 1, 1) := by decide +kernel
theorem dX11_nulled_189 : decode cX11_nulled 189 = .ok (.ifCond .ne 7, 3) := by decide +kernel
theorem dX11_nulled_192 : decode cX11_nulled 192 = .ok (.iconst 1, 1) := by decide +kernel
theorem dX11_nulled_193 : decode cX11_nulled 193 = .ok (.goto 4, 3) := by decide +kernel
theorem dX11_nulled_196 : decode cX11_nulled 196 = .ok (.iconst 0, 1) := by decide +kernel
theorem dX11_nulled_197 : decode cX11_nulled 197 = .ok (.iastore, 1) := by decide +kernel
theorem dX11_nulled_198 : decode cX11_nulled 198 = .ok (.iinc 1 1, 3) := by decide +kernel
theorem dX11_nulled_201 : decode cX11_nulled 201 = .ok (.goto (-94), 3) := by decide +kernel
theorem dX11_nulled_204 : decode cX11_nulled 204 = .ok (.aload_n 0, 1) := by decide +kernel
theorem dX11_nulled_205 : decode cX11_nulled 205 = .ok (.invokevirtual 291, 3) := by decide +kernel
theorem dX11_nulled_208 : decode cX11_nulled 208 = .ok (.ifCond .ne 5, 3) := by decide +kernel
theorem dX11_nulled_211 : decode cX11_nulled 211 = .ok (.iconst 0, 1) := by decide +kernel
theorem dX11_nulled_212 : decode cX11_nulled 212 = .ok (.ireturn, 1) := by decide +kernel
theorem dX11_nulled_213 : decode cX11_nulled 213 = .ok (.aload_n 0, 1) := by decide +kernel
theorem dX11_nulled_214 : decode cX11_nulled 214 = .ok (.aload_n 0, 1) := by decide +kernel
theorem dX11_nulled_215 : decode cX11_nulled 215 = .ok (.getfield 33, 3) := by decide +kernel
theorem dX11_nulled_218 : decode cX11_nulled 218 = .ok (.iconst 1, 1) := by decide +kernel
theorem dX11_nulled_219 : decode cX11_nulled 219 = .ok (.iaload, 1) := by decide +kernel
theorem dX11_nulled_220 : decode cX11_nulled 220 = .ok (.putfield 89, 3) := by decide +kernel
theorem dX11_nulled_223 : decode cX11_nulled 223 = .ok (.iconst 0, 1) := by decide +kernel
theorem dX11_nulled_224 : decode cX11_nulled 224 = .ok (.istore_n 1, 1) := by decide +kernel
theorem dX11_nulled_225 : decode cX11_nulled 225 = .ok (.iload_n 1, 1) := by decide +kernel
theorem dX11_nulled_226 : decode cX11_nulled 226 = .ok (.aload_n 0, 1) := by decide +kernel
theorem dX11_nulled_227 : decode cX11_nulled 227 = .ok (.getfield 89, 3) := by decide +kernel
theorem dX11_nulled_230 : decode cX11_nulled 230 = .ok (.if_icmp .ge 20, 3) := by decide +kernel
theorem dX11_nulled_233 : decode cX11_nulled 233 = .ok (.aload_n 0, 1) := by decide +kernel
theorem dX11_nulled_234 : decode cX11_nulled 234 = .ok (.getfield 86, 3) := by decide +kernel
theorem dX11_nulled_237 : decode cX11_nulled 237 = .ok (.iload_n 1, 1) := by decide +kernel
theorem dX11_nulled_238 : decode cX11_nulled 238 = .ok (.aload_n 0, 1) := by decide +kernel
theorem dX11_nulled_239 : decode cX11_nulled 239 = .ok (.iload_n 1, 1) := by decide +kernel
theorem dX11_nulled_240 : decode cX11_nulled 240 = .ok (.invokevirtual 320, 3) := by decide +kernel
theorem dX11_nulled_243 : decode cX11_nulled 243 = .ok (.iastore, 1) := by decide +kernel
theorem dX11_nulled_244 : decode cX11_nulled 244 = .ok (.iinc 1 1, 3) := by decide +kernel
theorem dX11_nulled_247 : decode cX11_nulled 247 = .ok (.goto (-22), 3) := by decide +kernel
theorem dX11_nulled_250 : decode cX11_nulled 250 = .ok (.iconst 1, 1) := by decide +kernel
theorem dX11_nulled_251 : decode cX11_nulled 251 = .ok (.ireturn, 1) := by decide +kernel
theorem dX11_number_0 : decode cX11_number 0 = .ok (.aload_n 0, 1) := by decide +kernel
theorem dX11_number_1 : decode cX11_number 1 = .ok (.iconst 0, 1) := by decide +kernel
theorem dX11_number_2 : decode cX11_number 2 = .ok (.putfield 1, 3) := by decide +kernel
theorem dX11_number_5 : decode cX11_number 5 = .ok (.iload_n 1, 1) := by decide +kernel
theorem dX11_number_6 : decode cX11_number 6 = .ok (.iconst 0, 1) := by decide +kernel
theorem dX11_number_7 : decode cX11_number 7 = .ok (.aload_n 0, 1) := by decide +kernel
theorem dX11_number_8 : decode cX11_number 8 = .ok (.getfield 89, 3) := by decide +kernel
theorem dX11_number_11 : decode cX11_number 11 = .ok (.iconst 1, 1) := by decide +kernel
theorem dX11_number_12 : decode cX11_number 12 = .ok (.isub, 1) := by decide +kernel
theorem dX11_number_13 : decode cX11_number 13 = .ok (.invokestatic 175, 3) := by decide +kernel
theorem dX11_number_16 : decode cX11_number 16 = .ok (.ifCond .eq 12, 3) := by decide +kernel
theorem dX11_number_19 : decode cX11_number 19 = .ok (.aload_n 0, 1) := by decide +kernel
theorem dX11_number_20 : decode cX11_number 20 = .ok (.getfield 86, 3) := by decide +kernel
theorem dX11_number_23 : decode cX11_number 23 = .ok (.iload_n 1, 1) := by decide +kernel
theorem dX11_number_24 : decode cX11_number 24 = .ok (.iaload, 1) := by decide +kernel
theorem dX11_number_25 : decode cX11_number 25 = .ok (.goto 4, 3) := by decide +kernel
theorem dX11_number_28 : decode cX11_number 28 = .ok (.iconst (-1), 1) := by decide +kernel
theorem dX11_number_29 : decode cX11_number 29 = .ok (.ireturn, 1) := by decide +kernel
theorem dX11_comes_0 : decode cX11_comes 0 = .ok (.aload_n 0, 1) := by decide +kernel
theorem dX11_comes_1 : decode cX11_comes 1 = .ok (.iconst 0, 1) := by decide +kernel
theorem dX11_comes_2 : decode cX11_comes 2 = .ok (.putfield 1, 3) := by decide +kernel
theorem dX11_comes_5 : decode cX11_comes 5 = .ok (.aload_n 0, 1) := by decide +kernel
theorem dX11_comes_6 : decode cX11_comes 6 = .ok (.iload_n 1, 1) := by decide +kernel
theorem dX11_comes_7 : decode cX11_comes 7 = .ok (.invokevirtual 270, 3) := by decide +kernel
theorem dX11_comes_10 : decode cX11_comes 10 = .ok (.ifCond .eq 23, 3) := by decide +kernel
theorem dX11_comes_13 : decode cX11_comes 13 = .ok (.aload_n 0, 1) := by decide +kernel
theorem dX11_comes_14 : decode cX11_comes 14 = .ok (.getfield 89, 3) := by decide +kernel
theorem dX11_comes_17 : decode cX11_comes 17 = .ok (.ifCond .lt 16, 3) := by decide +kernel
theorem dX11_comes_20 : decode cX11_comes 20 = .ok (.aload_n 0, 1) := by decide +kernel
theorem dX11_comes_21 : decode cX11_comes 21 = .ok (.getfield 89, 3) := by decide +kernel
theorem dX11_comes_24 : decode cX11_comes 24 = .ok (.aload_n 0, 1) := by decide +kernel
theorem dX11_comes_25 : decode cX11_comes 25 = .ok (.getfield 33, 3) := by decide +kernel
theorem dX11_comes_28 : decode cX11_comes 28 = .ok (.iconst 1, 1) := by decide +kernel
theorem dX11_comes_29 : decode cX11_comes 29 = .ok (.iaload, 1) := by decide +kernel
theorem dX11_comes_30 : decode cX11_comes 30 = .ok (.if_icmp .eq 5, 3) := by decide +kernel
theorem dX11_comes_33 : decode cX11_comes 33 = .ok (.iconst (-1), 1) := by decide +kernel
theorem dX11_comes_34 : decode cX11_comes 34 = .ok (.ireturn, 1) := by decide +kernel
theorem dX11_comes_35 : decode cX11_comes 35 = .ok (.iconst 0, 1) := by decide +kernel
theorem dX11_comes_36 : decode cX11_comes 36 = .ok (.istore_n 2, 1) := by decide +kernel
theorem dX11_comes_37 : decode cX11_comes 37 = .ok (.iconst 0, 1) := by decide +kernel
theorem dX11_comes_38 : decode cX11_comes 38 = .ok (.istore_n 3, 1) := by decide +kernel
theorem dX11_comes_39 : decode cX11_comes 39 = .ok (.iload_n 3, 1) := by decide +kernel
theorem dX11_comes_40 : decode cX11_comes 40 = .ok (.aload_n 0, 1) := by decide +kernel
theorem dX11_comes_41 : decode cX11_comes 41 = .ok (.getfield 89, 3) := by decide +kernel
theorem dX11_comes_44 : decode cX11_comes 44 = .ok (.if_icmp .ge 50, 3) := by decide +kernel
theorem dX11_comes_47 : decode cX11_comes 47 = .ok (.iload_n 2, 1) := by decide +kernel
theorem dX11_comes_48 : decode cX11_comes 48 = .ok (.aload_n 0, 1) := by decide +kernel
theorem dX11_comes_49 : decode cX11_comes 49 = .ok (.getfield 86, 3) := by decide +kernel
theorem dX11_comes_52 : decode cX11_comes 52 = .ok (.iload_n 3, 1) := by decide +kernel
theorem dX11_comes_53 : decode cX11_comes 53 = .ok (.iaload, 1) := by decide +kernel
theorem dX11_comes_54 : decode cX11_comes 54 = .ok (.aload_n 0, 1) := by decide +kernel
theorem dX11_comes_55 : decode cX11_comes 55 = .ok (.getfield 230, 3) := by decide +kernel
theorem dX11_comes_58 : decode cX11_comes 58 = .ok (.irem, 1) := by decide +kernel
theorem dX11_comes_59 : decode cX11_comes 59 = .ok (.aload_n 0, 1) := by decide +kernel
theorem dX11_comes_60 : decode cX11_comes 60 = .ok (.iload_n 3, 1) := by decide +kernel
theorem dX11_comes_61 : decode cX11_comes 61 = .ok (.invokevirtual 279, 3) := by decide +kernel
theorem dX11_comes_64 : decode cX11_comes 64 = .ok (.imul, 1) := by decide +kernel
theorem dX11_comes_65 : decode cX11_comes 65 = .ok (.aload_n 0, 1) := by decide +kernel
theorem dX11_comes_66 : decode cX11_comes 66 = .ok (.getfield 230, 3) := by decide +kernel
theorem dX11_comes_69 : decode cX11_comes 69 = .ok (.irem, 1) := by decide +kernel
theorem dX11_comes_70 : decode cX11_comes 70 = .ok (.aload_n 0, 1) := by decide +kernel
theorem dX11_comes_71 : decode cX11_comes 71 = .ok (.iload_n 1, 1) := by decide +kernel
theorem dX11_comes_72 : decode cX11_comes 72 = .ok (.aload_n 0, 1) := by decide +kernel
theorem dX11_comes_73 : decode cX11_comes 73 = .ok (.iload_n 3, 1) := by decide +kernel
theorem dX11_comes_74 : decode cX11_comes 74 = .ok (.invokevirtual 276, 3) := by decide +kernel
theorem dX11_comes_77 : decode cX11_comes 77 = .ok (.invokevirtual 273, 3) := by decide +kernel
theorem dX11_comes_80 : decode cX11_comes 80 = .ok (.imul, 1) := by decide +kernel
theorem dX11_comes_81 : decode cX11_comes 81 = .ok (.iadd, 1) := by decide +kernel
theorem dX11_comes_82 : decode cX11_comes 82 = .ok (.aload_n 0, 1) := by decide +kernel
theorem dX11_comes_83 : decode cX11_comes 83 = .ok (.getfield 230, 3) := by decide +kernel
theorem dX11_comes_86 : decode cX11_comes 86 = .ok (.irem, 1) := by decide +kernel
theorem dX11_comes_87 : decode cX11_comes 87 = .ok (.istore_n 2, 1) := by decide +kernel
theorem dX11_comes_88 : decode cX11_comes 88 = .ok (.iinc 3 1, 3) := by decide +kernel
theorem dX11_comes_91 : decode cX11_comes 91 = .ok (.goto (-52), 3) := by decide +kernel
theorem dX11_comes_94 : decode cX11_comes 94 = .ok (.iload_n 2, 1) := by decide +kernel
theorem dX11_comes_95 : decode cX11_comes 95 = .ok (.ireturn, 1) := by decide +kernel
theorem dX11_mend_0 : decode cX11_mend 0 = .ok (.aload_n 0, 1) := by decide +kernel
theorem dX11_mend_1 : decode cX11_mend 1 = .ok (.iconst 0, 1) := by decide +kernel
theorem dX11_mend_2 : decode cX11_mend 2 = .ok (.putfield 1, 3) := by decide +kernel
theorem dX11_mend_5 : decode cX11_mend 5 = .ok (.aload_n 0, 1) := by decide +kernel
theorem dX11_mend_6 : decode cX11_mend 6 = .ok (.invokevirtual 344, 3) := by decide +kernel
theorem dX11_mend_9 : decode cX11_mend 9 = .ok (.istore_n 2, 1) := by decide +kernel
theorem dX11_mend_10 : decode cX11_mend 10 = .ok (.iload_n 2, 1) := by decide +kernel
theorem dX11_mend_11 : decode cX11_mend 11 = .ok (.aload_n 0, 1) := by decide +kernel
theorem dX11_mend_12 : decode cX11_mend 12 = .ok (.getfield 33, 3) := by decide +kernel
theorem dX11_mend_15 : decode cX11_mend 15 = .ok (.iconst 1, 1) := by decide +kernel
theorem dX11_mend_16 : decode cX11_mend 16 = .ok (.iaload, 1) := by decide +kernel
theorem dX11_mend_17 : decode cX11_mend 17 = .ok (.if_icmp .ne 24, 3) := by decide +kernel
theorem dX11_mend_20 : decode cX11_mend 20 = .ok (.iload_n 2, 1) := by decide +kernel
theorem dX11_mend_21 : decode cX11_mend 21 = .ok (.ifCond .eq 20, 3) := by decide +kernel
theorem dX11_mend_24 : decode cX11_mend 24 = .ok (.aload_n 0, 1) := by decide +kernel
theorem dX11_mend_25 : decode cX11_mend 25 = .ok (.iload_n 1, 1) := by decide +kernel
theorem dX11_mend_26 : decode cX11_mend 26 = .ok (.invokevirtual 270, 3) := by decide +kernel
theorem dX11_mend_29 : decode cX11_mend 29 = .ok (.ifCond .eq 12, 3) := by decide +kernel
theorem dX11_mend_32 : decode cX11_mend 32 = .ok (.aload_n 0, 1) := by decide +kernel
theorem dX11_mend_33 : decode cX11_mend 33 = .ok (.getfield 65, 3) := by decide +kernel
theorem dX11_mend_36 : decode cX11_mend 36 = .ok (.iconst 0, 1) := by decide +kernel
theorem dX11_mend_37 : decode cX11_mend 37 = .ok (.iaload, 1) := by decide +kernel
theorem dX11_mend_38 : decode cX11_mend 38 = .ok (.ifCond .ne 5, 3) := by decide +kernel
theorem dX11_mend_41 : decode cX11_mend 41 = .ok (.iconst 0, 1) := by decide +kernel
theorem dX11_mend_42 : decode cX11_mend 42 = .ok (.ireturn, 1) := by decide +kernel
theorem dX11_mend_43 : decode cX11_mend 43 = .ok (.aload_n 0, 1) := by decide +kernel
theorem dX11_mend_44 : decode cX11_mend 44 = .ok (.getfield 65, 3) := by decide +kernel
theorem dX11_mend_47 : decode cX11_mend 47 = .ok (.iconst 0, 1) := by decide +kernel
theorem dX11_mend_48 : decode cX11_mend 48 = .ok (.iaload, 1) := by decide +kernel
theorem dX11_mend_49 : decode cX11_mend 49 = .ok (.aload_n 0, 1) := by decide +kernel
theorem dX11_mend_50 : decode cX11_mend 50 = .ok (.aload_n 0, 1) := by decide +kernel
theorem dX11_mend_51 : decode cX11_mend 51 = .ok (.iload_n 1, 1) := by decide +kernel
theorem dX11_mend_52 : decode cX11_mend 52 = .ok (.aload_n 0, 1) := by decide +kernel
theorem dX11_mend_53 : decode cX11_mend 53 = .ok (.iconst 0, 1) := by decide +kernel
theorem dX11_mend_54 : decode cX11_mend 54 = .ok (.invokevirtual 276, 3) := by decide +kernel
theorem dX11_mend_57 : decode cX11_mend 57 = .ok (.invokevirtual 273, 3) := by decide +kernel
theorem dX11_mend_60 : decode cX11_mend 60 = .ok (.invokevirtual 254, 3) := by decide +kernel
theorem dX11_mend_63 : decode cX11_mend 63 = .ok (.imul, 1) := by decide +kernel
theorem dX11_mend_64 : decode cX11_mend 64 = .ok (.aload_n 0, 1) := by decide +kernel
theorem dX11_mend_65 : decode cX11_mend 65 = .ok (.getfield 230, 3) := by decide +kernel
theorem dX11_mend_68 : decode cX11_mend 68 = .ok (.irem, 1) := by decide +kernel
theorem dX11_mend_69 : decode cX11_mend 69 = .ok (.istore_n 3, 1) := by decide +kernel
theorem dX11_mend_70 : decode cX11_mend 70 = .ok (.aload_n 0, 1) := by decide +kernel
theorem dX11_mend_71 : decode cX11_mend 71 = .ok (.iload_n 3, 1) := by decide +kernel
theorem dX11_mend_72 : decode cX11_mend 72 = .ok (.invokevirtual 254, 3) := by decide +kernel
theorem dX11_mend_75 : decode cX11_mend 75 = .ok (.aload_n 0, 1) := by decide +kernel
theorem dX11_mend_76 : decode cX11_mend 76 = .ok (.iconst 0, 1) := by decide +kernel
theorem dX11_mend_77 : decode cX11_mend 77 = .ok (.invokevirtual 279, 3) := by decide +kernel
theorem dX11_mend_80 : decode cX11_mend 80 = .ok (.imul, 1) := by decide +kernel
theorem dX11_mend_81 : decode cX11_mend 81 = .ok (.aload_n 0, 1) := by decide +kernel
theorem dX11_mend_82 : decode cX11_mend 82 = .ok (.getfield 230, 3) := by decide +kernel
theorem dX11_mend_85 : decode cX11_mend 85 = .ok (.irem, 1) := by decide +kernel
theorem dX11_mend_86 : decode cX11_mend 86 = .ok (.istore 4, 2) := by decide +kernel
theorem dX11_mend_88 : decode cX11_mend 88 = .ok (.iconst 0, 1) := by decide +kernel
theorem dX11_mend_89 : decode cX11_mend 89 = .ok (.istore 5, 2) := by decide +kernel
theorem dX11_mend_91 : decode cX11_mend 91 = .ok (.iload 5, 2) := by decide +kernel
theorem dX11_mend_93 : decode cX11_mend 93 = .ok (.iload_n 2, 1) := by decide +kernel
theorem dX11_mend_94 : decode cX11_mend 94 = .ok (.if_icmp .ge 59, 3) := by decide +kernel
theorem dX11_mend_97 : decode cX11_mend 97 = .ok (.aload_n 0, 1) := by decide +kernel
theorem dX11_mend_98 : decode cX11_mend 98 = .ok (.getfield 33, 3) := by decide +kernel
theorem dX11_mend_101 : decode cX11_mend 101 = .ok (.bipush 6, 2) := by decide +kernel
theorem dX11_mend_103 : decode cX11_mend 103 = .ok (.iconst 2, 1) := by decide +kernel
theorem dX11_mend_104 : decode cX11_mend 104 = .ok (.iload 5, 2) := by decide +kernel
theorem dX11_mend_106 : decode cX11_mend 106 = .ok (.imul, 1) := by decide +kernel
theorem dX11_mend_107 : decode cX11_mend 107 = .ok (.iadd, 1) := by decide +kernel
theorem dX11_mend_108 : decode cX11_mend 108 = .ok (.iconst 1, 1) := by decide +kernel
theorem dX11_mend_109 : decode cX11_mend 109 = .ok (.iadd, 1) := by decide +kernel
theorem dX11_mend_110 : decode cX11_mend 110 = .ok (.aload_n 0, 1) := by decide +kernel
theorem dX11_mend_111 : decode cX11_mend 111 = .ok (.getfield 65, 3) := by decide +kernel
theorem dX11_mend_114 : decode cX11_mend 114 = .ok (.iload 5, 2) := by decide +kernel
theorem dX11_mend_116 : decode cX11_mend 116 = .ok (.iaload, 1) := by decide +kernel
theorem dX11_mend_117 : decode cX11_mend 117 = .ok (.aload_n 0, 1) := by decide +kernel
theorem dX11_mend_118 : decode cX11_mend 118 = .ok (.aload_n 0, 1) := by decide +kernel
theorem dX11_mend_119 : decode cX11_mend 119 = .ok (.iload_n 1, 1) := by decide +kernel
theorem dX11_mend_120 : decode cX11_mend 120 = .ok (.aload_n 0, 1) := by decide +kernel
theorem dX11_mend_121 : decode cX11_mend 121 = .ok (.iload 5, 2) := by decide +kernel
theorem dX11_mend_123 : decode cX11_mend 123 = .ok (.invokevirtual 276, 3) := by decide +kernel
theorem dX11_mend_126 : decode cX11_mend 126 = .ok (.invokevirtual 273, 3) := by decide +kernel
theorem dX11_mend_129 : decode cX11_mend 129 = .ok (.invokevirtual 254, 3) := by decide +kernel
theorem dX11_mend_132 : decode cX11_mend 132 = .ok (.imul, 1) := by decide +kernel
theorem dX11_mend_133 : decode cX11_mend 133 = .ok (.aload_n 0, 1) := by decide +kernel
theorem dX11_mend_134 : decode cX11_mend 134 = .ok (.getfield 230, 3) := by decide +kernel
theorem dX11_mend_137 : decode cX11_mend 137 = .ok (.irem, 1) := by decide +kernel
theorem dX11_mend_138 : decode cX11_mend 138 = .ok (.iload 4, 2) := by decide +kernel
theorem dX11_mend_140 : decode cX11_mend 140 = .ok (.imul, 1) := by decide +kernel
theorem dX11_mend_141 : decode cX11_mend 141 = .ok (.aload_n 0, 1) := by decide +kernel
theorem dX11_mend_142 : decode cX11_mend 142 = .ok (.getfield 230, 3) := by decide +kernel
theorem dX11_mend_145 : decode cX11_mend 145 = .ok (.irem, 1) := by decide +kernel
theorem dX11_mend_146 : decode cX11_mend 146 = .ok (.iastore, 1) := by decide +kernel
theorem dX11_mend_147 : decode cX11_mend 147 = .ok (.iinc 5 1, 3) := by decide +kernel
theorem dX11_mend_150 : decode cX11_mend 150 = .ok (.goto (-59), 3) := by decide +kernel
theorem dX11_mend_153 : decode cX11_mend 153 = .ok (.iconst 1, 1) := by decide +kernel
theorem dX11_mend_154 : decode cX11_mend 154 = .ok (.ireturn, 1) := by decide +kernel
theorem dX11_size0_0 : decode cX11_size0 0 = .ok (.lload_n 0, 1) := by decide +kernel
theorem dX11_size0_1 : decode cX11_size0 1 = .ok (.lconst 0, 1) := by decide +kernel
theorem dX11_size0_2 : decode cX11_size0 2 = .ok (.lcmp, 1) := by decide +kernel
theorem dX11_size0_3 : decode cX11_size0 3 = .ok (.ifCond .ge 8, 3) := by decide +kernel
theorem dX11_size0_6 : decode cX11_size0 6 = .ok (.lload_n 0, 1) := by decide +kernel
theorem dX11_size0_7 : decode cX11_size0 7 = .ok (.lneg, 1) := by decide +kernel
theorem dX11_size0_8 : decode cX11_size0 8 = .ok (.goto 4, 3) := by decide +kernel
theorem dX11_size0_11 : decode cX11_size0 11 = .ok (.lload_n 0, 1) := by decide +kernel
theorem dX11_size0_12 : decode cX11_size0 12 = .ok (.lreturn, 1) := by decide +kernel
theorem dX11_common_0 : decode cX11_common 0 = .ok (.lload_n 0, 1) := by decide +kernel
theorem dX11_common_1 : decode cX11_common 1 = .ok (.invokestatic 377, 3) := by decide +kernel
theorem dX11_common_4 : decode cX11_common 4 = .ok (.lstore 4, 2) := by decide +kernel
theorem dX11_common_6 : decode cX11_common 6 = .ok (.lload_n 2, 1) := by decide +kernel
theorem dX11_common_7 : decode cX11_common 7 = .ok (.invokestatic 377, 3) := by decide +kernel
theorem dX11_common_10 : decode cX11_common 10 = .ok (.lstore 6, 2) := by decide +kernel
theorem dX11_common_12 : decode cX11_common 12 = .ok (.lload 6, 2) := by decide +kernel
theorem dX11_common_14 : decode cX11_common 14 = .ok (.lconst 0, 1) := by decide +kernel
theorem dX11_common_15 : decode cX11_common 15 = .ok (.lcmp, 1) := by decide +kernel
theorem dX11_common_16 : decode cX11_common 16 = .ok (.ifCond .eq 21, 3) := by decide +kernel
theorem dX11_common_19 : decode cX11_common 19 = .ok (.lload 4, 2) := by decide +kernel
theorem dX11_common_21 : decode cX11_common 21 = .ok (.lload 6, 2) := by decide +kernel
theorem dX11_common_23 : decode cX11_common 23 = .ok (.lrem, 1) := by decide +kernel
theorem dX11_common_24 : decode cX11_common 24 = .ok (.lstore 8, 2) := by decide +kernel
theorem dX11_common_26 : decode cX11_common 26 = .ok (.lload 6, 2) := by decide +kernel
theorem dX11_common_28 : decode cX11_common 28 = .ok (.lstore 4, 2) := by decide +kernel
theorem dX11_common_30 : decode cX11_common 30 = .ok (.lload 8, 2) := by decide +kernel
theorem dX11_common_32 : decode cX11_common 32 = .ok (.lstore 6, 2) := by decide +kernel
theorem dX11_common_34 : decode cX11_common 34 = .ok (.goto (-22), 3) := by decide +kernel
theorem dX11_common_37 : decode cX11_common 37 = .ok (.lload 4, 2) := by decide +kernel
theorem dX11_common_39 : decode cX11_common 39 = .ok (.lreturn, 1) := by decide +kernel
theorem dX11_startX_0 : decode cX11_startX 0 = .ok (.aload_n 0, 1) := by decide +kernel
theorem dX11_startX_1 : decode cX11_startX 1 = .ok (.getfield 33, 3) := by decide +kernel
theorem dX11_startX_4 : decode cX11_startX 4 = .ok (.bipush 50, 2) := by decide +kernel
theorem dX11_startX_6 : decode cX11_startX 6 = .ok (.iconst 2, 1) := by decide +kernel
theorem dX11_startX_7 : decode cX11_startX 7 = .ok (.aload_n 0, 1) := by decide +kernel
theorem dX11_startX_8 : decode cX11_startX 8 = .ok (.getfield 33, 3) := by decide +kernel
theorem dX11_startX_11 : decode cX11_startX 11 = .ok (.bipush 58, 2) := by decide +kernel
theorem dX11_startX_13 : decode cX11_startX 13 = .ok (.iconst 3, 1) := by decide +kernel
theorem dX11_startX_14 : decode cX11_startX 14 = .ok (.iload_n 1, 1) := by decide +kernel
theorem dX11_startX_15 : decode cX11_startX 15 = .ok (.imul, 1) := by decide +kernel
theorem dX11_startX_16 : decode cX11_startX 16 = .ok (.iadd, 1) := by decide +kernel
theorem dX11_startX_17 : decode cX11_startX 17 = .ok (.iaload, 1) := by decide +kernel
theorem dX11_startX_18 : decode cX11_startX 18 = .ok (.imul, 1) := by decide +kernel
theorem dX11_startX_19 : decode cX11_startX 19 = .ok (.iadd, 1) := by decide +kernel
theorem dX11_startX_20 : decode cX11_startX 20 = .ok (.iaload, 1) := by decide +kernel
theorem dX11_startX_21 : decode cX11_startX 21 = .ok (.ireturn, 1) := by decide +kernel
theorem dX11_startY_0 : decode cX11_startY 0 = .ok (.aload_n 0, 1) := by decide +kernel
theorem dX11_startY_1 : decode cX11_startY 1 = .ok (.getfield 33, 3) := by decide +kernel
theorem dX11_startY_4 : decode cX11_startY 4 = .ok (.bipush 50, 2) := by decide +kernel
theorem dX11_startY_6 : decode cX11_startY 6 = .ok (.iconst 2, 1) := by decide +kernel
theorem dX11_startY_7 : decode cX11_startY 7 = .ok (.aload_n 0, 1) := by decide +kernel
theorem dX11_startY_8 : decode cX11_startY 8 = .ok (.getfield 33, 3) := by decide +kernel
theorem dX11_startY_11 : decode cX11_startY 11 = .ok (.bipush 58, 2) := by decide +kernel
theorem dX11_startY_13 : decode cX11_startY 13 = .ok (.iconst 3, 1) := by decide +kernel
theorem dX11_startY_14 : decode cX11_startY 14 = .ok (.iload_n 1, 1) := by decide +kernel
theorem dX11_startY_15 : decode cX11_startY 15 = .ok (.imul, 1) := by decide +kernel
theorem dX11_startY_16 : decode cX11_startY 16 = .ok (.iadd, 1) := by decide +kernel
theorem dX11_startY_17 : decode cX11_startY 17 = .ok (.iaload, 1) := by decide +kernel
theorem dX11_startY_18 : decode cX11_startY 18 = .ok (.imul, 1) := by decide +kernel
theorem dX11_startY_19 : decode cX11_startY 19 = .ok (.iadd, 1) := by decide +kernel
theorem dX11_startY_20 : decode cX11_startY 20 = .ok (.iconst 1, 1) := by decide +kernel
theorem dX11_startY_21 : decode cX11_startY 21 = .ok (.iadd, 1) := by decide +kernel
theorem dX11_startY_22 : decode cX11_startY 22 = .ok (.iaload, 1) := by decide +kernel
theorem dX11_startY_23 : decode cX11_startY 23 = .ok (.ireturn, 1) := by decide +kernel
theorem dX11_stepX_0 : decode cX11_stepX 0 = .ok (.aload_n 0, 1) := by decide +kernel
theorem dX11_stepX_1 : decode cX11_stepX 1 = .ok (.getfield 33, 3) := by decide +kernel
theorem dX11_stepX_4 : decode cX11_stepX 4 = .ok (.bipush 58, 2) := by decide +kernel
theorem dX11_stepX_6 : decode cX11_stepX 6 = .ok (.iconst 3, 1) := by decide +kernel
theorem dX11_stepX_7 : decode cX11_stepX 7 = .ok (.iload_n 1, 1) := by decide +kernel
theorem dX11_stepX_8 : decode cX11_stepX 8 = .ok (.imul, 1) := by decide +kernel
theorem dX11_stepX_9 : decode cX11_stepX 9 = .ok (.iadd, 1) := by decide +kernel
theorem dX11_stepX_10 : decode cX11_stepX 10 = .ok (.iconst 1, 1) := by decide +kernel
theorem dX11_stepX_11 : decode cX11_stepX 11 = .ok (.iadd, 1) := by decide +kernel
theorem dX11_stepX_12 : decode cX11_stepX 12 = .ok (.iaload, 1) := by decide +kernel
theorem dX11_stepX_13 : decode cX11_stepX 13 = .ok (.ireturn, 1) := by decide +kernel
theorem dX11_stepY_0 : decode cX11_stepY 0 = .ok (.aload_n 0, 1) := by decide +kernel
theorem dX11_stepY_1 : decode cX11_stepY 1 = .ok (.getfield 33, 3) := by decide +kernel
theorem dX11_stepY_4 : decode cX11_stepY 4 = .ok (.bipush 58, 2) := by decide +kernel
theorem dX11_stepY_6 : decode cX11_stepY 6 = .ok (.iconst 3, 1) := by decide +kernel
theorem dX11_stepY_7 : decode cX11_stepY 7 = .ok (.iload_n 1, 1) := by decide +kernel
theorem dX11_stepY_8 : decode cX11_stepY 8 = .ok (.imul, 1) := by decide +kernel
theorem dX11_stepY_9 : decode cX11_stepY 9 = .ok (.iadd, 1) := by decide +kernel
theorem dX11_stepY_10 : decode cX11_stepY 10 = .ok (.iconst 2, 1) := by decide +kernel
theorem dX11_stepY_11 : decode cX11_stepY 11 = .ok (.iadd, 1) := by decide +kernel
theorem dX11_stepY_12 : decode cX11_stepY 12 = .ok (.iaload, 1) := by decide +kernel
theorem dX11_stepY_13 : decode cX11_stepY 13 = .ok (.ireturn, 1) := by decide +kernel
theorem dX11_isBearing_0 : decode cX11_isBearing 0 = .ok (.iload_n 1, 1) := by decide +kernel
theorem dX11_isBearing_1 : decode cX11_isBearing 1 = .ok (.iconst 0, 1) := by decide +kernel
theorem dX11_isBearing_2 : decode cX11_isBearing 2 = .ok (.aload_n 0, 1) := by decide +kernel
theorem dX11_isBearing_3 : decode cX11_isBearing 3 = .ok (.getfield 33, 3) := by decide +kernel
theorem dX11_isBearing_6 : decode cX11_isBearing 6 = .ok (.iconst 4, 1) := by decide +kernel
theorem dX11_isBearing_7 : decode cX11_isBearing 7 = .ok (.iaload, 1) := by decide +kernel
theorem dX11_isBearing_8 : decode cX11_isBearing 8 = .ok (.iconst 1, 1) := by decide +kernel
theorem dX11_isBearing_9 : decode cX11_isBearing 9 = .ok (.isub, 1) := by decide +kernel
theorem dX11_isBearing_10 : decode cX11_isBearing 10 = .ok (.invokestatic 175, 3) := by decide +kernel
theorem dX11_isBearing_13 : decode cX11_isBearing 13 = .ok (.ireturn, 1) := by decide +kernel
theorem dX11_crosses_0 : decode cX11_crosses 0 = .ok (.aload_n 0, 1) := by decide +kernel
theorem dX11_crosses_1 : decode cX11_crosses 1 = .ok (.getfield 33, 3) := by decide +kernel
theorem dX11_crosses_4 : decode cX11_crosses 4 = .ok (.bipush 58, 2) := by decide +kernel
theorem dX11_crosses_6 : decode cX11_crosses 6 = .ok (.iconst 3, 1) := by decide +kernel
theorem dX11_crosses_7 : decode cX11_crosses 7 = .ok (.iload_n 1, 1) := by decide +kernel
theorem dX11_crosses_8 : decode cX11_crosses 8 = .ok (.imul, 1) := by decide +kernel
theorem dX11_crosses_9 : decode cX11_crosses 9 = .ok (.iadd, 1) := by decide +kernel
theorem dX11_crosses_10 : decode cX11_crosses 10 = .ok (.iaload, 1) := by decide +kernel
theorem dX11_crosses_11 : decode cX11_crosses 11 = .ok (.aload_n 0, 1) := by decide +kernel
theorem dX11_crosses_12 : decode cX11_crosses 12 = .ok (.getfield 33, 3) := by decide +kernel
theorem dX11_crosses_15 : decode cX11_crosses 15 = .ok (.bipush 58, 2) := by decide +kernel
theorem dX11_crosses_17 : decode cX11_crosses 17 = .ok (.iconst 3, 1) := by decide +kernel
theorem dX11_crosses_18 : decode cX11_crosses 18 = .ok (.iload_n 2, 1) := by decide +kernel
theorem dX11_crosses_19 : decode cX11_crosses 19 = .ok (.imul, 1) := by decide +kernel
theorem dX11_crosses_20 : decode cX11_crosses 20 = .ok (.iadd, 1) := by decide +kernel
theorem dX11_crosses_21 : decode cX11_crosses 21 = .ok (.iaload, 1) := by decide +kernel
theorem dX11_crosses_22 : decode cX11_crosses 22 = .ok (.if_icmp .ne 5, 3) := by decide +kernel
theorem dX11_crosses_25 : decode cX11_crosses 25 = .ok (.iconst 0, 1) := by decide +kernel
theorem dX11_crosses_26 : decode cX11_crosses 26 = .ok (.ireturn, 1) := by decide +kernel
theorem dX11_crosses_27 : decode cX11_crosses 27 = .ok (.aload_n 0, 1) := by decide +kernel
theorem dX11_crosses_28 : decode cX11_crosses 28 = .ok (.iload_n 1, 1) := by decide +kernel
theorem dX11_crosses_29 : decode cX11_crosses 29 = .ok (.invokevirtual 381, 3) := by decide +kernel
theorem dX11_crosses_32 : decode cX11_crosses 32 = .ok (.aload_n 0, 1) := by decide +kernel
theorem dX11_crosses_33 : decode cX11_crosses 33 = .ok (.iload_n 2, 1) := by decide +kernel
theorem dX11_crosses_34 : decode cX11_crosses 34 = .ok (.invokevirtual 384, 3) := by decide +kernel
theorem dX11_crosses_37 : decode cX11_crosses 37 = .ok (.imul, 1) := by decide +kernel
theorem dX11_crosses_38 : decode cX11_crosses 38 = .ok (.aload_n 0, 1) := by decide +kernel
theorem dX11_crosses_39 : decode cX11_crosses 39 = .ok (.iload_n 1, 1) := by decide +kernel
theorem dX11_crosses_40 : decode cX11_crosses 40 = .ok (.invokevirtual 384, 3) := by decide +kernel
theorem dX11_crosses_43 : decode cX11_crosses 43 = .ok (.aload_n 0, 1) := by decide +kernel
theorem dX11_crosses_44 : decode cX11_crosses 44 = .ok (.iload_n 2, 1) := by decide +kernel
theorem dX11_crosses_45 : decode cX11_crosses 45 = .ok (.invokevirtual 381, 3) := by decide +kernel
theorem dX11_crosses_48 : decode cX11_crosses 48 = .ok (.imul, 1) := by decide +kernel
theorem dX11_crosses_49 : decode cX11_crosses 49 = .ok (.isub, 1) := by decide +kernel
theorem dX11_crosses_50 : decode cX11_crosses 50 = .ok (.i2l, 1) := by decide +kernel
theorem dX11_crosses_51 : decode cX11_crosses 51 = .ok (.lstore_n 3, 1) := by decide +kernel
theorem dX11_crosses_52 : decode cX11_crosses 52 = .ok (.lload_n 3, 1) := by decide +kernel
theorem dX11_crosses_53 : decode cX11_crosses 53 = .ok (.lconst 0, 1) := by decide +kernel
theorem dX11_crosses_54 : decode cX11_crosses 54 = .ok (.lcmp, 1) := by decide +kernel
theorem dX11_crosses_55 : decode cX11_crosses 55 = .ok (.ifCond .ne 5, 3) := by decide +kernel
theorem dX11_crosses_58 : decode cX11_crosses 58 = .ok (.iconst 0, 1) := by decide +kernel
theorem dX11_crosses_59 : decode cX11_crosses 59 = .ok (.ireturn, 1) := by decide +kernel
theorem dX11_crosses_60 : decode cX11_crosses 60 = .ok (.aload_n 0, 1) := by decide +kernel
theorem dX11_crosses_61 : decode cX11_crosses 61 = .ok (.iload_n 2, 1) := by decide +kernel
theorem dX11_crosses_62 : decode cX11_crosses 62 = .ok (.invokevirtual 387, 3) := by decide +kernel
theorem dX11_crosses_65 : decode cX11_crosses 65 = .ok (.aload_n 0, 1) := by decide +kernel
theorem dX11_crosses_66 : decode cX11_crosses 66 = .ok (.iload_n 1, 1) := by decide +kernel
theorem dX11_crosses_67 : decode cX11_crosses 67 = .ok (.invokevirtual 387, 3) := by decide +kernel
theorem dX11_crosses_70 : decode cX11_crosses 70 = .ok (.isub, 1) := by decide +kernel
theorem dX11_crosses_71 : decode cX11_crosses 71 = .ok (.i2l, 1) := by decide +kernel
theorem dX11_crosses_72 : decode cX11_crosses 72 = .ok (.lstore 5, 2) := by decide +kernel
theorem dX11_crosses_74 : decode cX11_crosses 74 = .ok (.aload_n 0, 1) := by decide +kernel
theorem dX11_crosses_75 : decode cX11_crosses 75 = .ok (.iload_n 2, 1) := by decide +kernel
theorem dX11_crosses_76 : decode cX11_crosses 76 = .ok (.invokevirtual 390, 3) := by decide +kernel
theorem dX11_crosses_79 : decode cX11_crosses 79 = .ok (.aload_n 0, 1) := by decide +kernel
theorem dX11_crosses_80 : decode cX11_crosses 80 = .ok (.iload_n 1, 1) := by decide +kernel
theorem dX11_crosses_81 : decode cX11_crosses 81 = .ok (.invokevirtual 390, 3) := by decide +kernel
theorem dX11_crosses_84 : decode cX11_crosses 84 = .ok (.isub, 1) := by decide +kernel
theorem dX11_crosses_85 : decode cX11_crosses 85 = .ok (.i2l, 1) := by decide +kernel
theorem dX11_crosses_86 : decode cX11_crosses 86 = .ok (.lstore 7, 2) := by decide +kernel
theorem dX11_crosses_88 : decode cX11_crosses 88 = .ok (.lload 5, 2) := by decide +kernel
theorem dX11_crosses_90 : decode cX11_crosses 90 = .ok (.aload_n 0, 1) := by decide +kernel
theorem dX11_crosses_91 : decode cX11_crosses 91 = .ok (.iload_n 2, 1) := by decide +kernel
theorem dX11_crosses_92 : decode cX11_crosses 92 = .ok (.invokevirtual 384, 3) := by decide +kernel
theorem dX11_crosses_95 : decode cX11_crosses 95 = .ok (.i2l, 1) := by decide +kernel
theorem dX11_crosses_96 : decode cX11_crosses 96 = .ok (.lmul, 1) := by decide +kernel
theorem dX11_crosses_97 : decode cX11_crosses 97 = .ok (.lload 7, 2) := by decide +kernel
theorem dX11_crosses_99 : decode cX11_crosses 99 = .ok (.aload_n 0, 1) := by decide +kernel
theorem dX11_crosses_100 : decode cX11_crosses 100 = .ok (.iload_n 2, 1) := by decide +kernel
theorem dX11_crosses_101 : decode cX11_crosses 101 = .ok (.invokevirtual 381, 3) := by decide +kernel
theorem dX11_crosses_104 : decode cX11_crosses 104 = .ok (.i2l, 1) := by decide +kernel
theorem dX11_crosses_105 : decode cX11_crosses 105 = .ok (.lmul, 1) := by decide +kernel
theorem dX11_crosses_106 : decode cX11_crosses 106 = .ok (.lsub, 1) := by decide +kernel
theorem dX11_crosses_107 : decode cX11_crosses 107 = .ok (.lstore 9, 2) := by decide +kernel
theorem dX11_crosses_109 : decode cX11_crosses 109 = .ok (.lload 5, 2) := by decide +kernel
theorem dX11_crosses_111 : decode cX11_crosses 111 = .ok (.aload_n 0, 1) := by decide +kernel
theorem dX11_crosses_112 : decode cX11_crosses 112 = .ok (.iload_n 1, 1) := by decide +kernel
theorem dX11_crosses_113 : decode cX11_crosses 113 = .ok (.invokevirtual 384, 3) := by decide +kernel
theorem dX11_crosses_116 : decode cX11_crosses 116 = .ok (.i2l, 1) := by decide +kernel
theorem dX11_crosses_117 : decode cX11_crosses 117 = .ok (.lmul, 1) := by decide +kernel
theorem dX11_crosses_118 : decode cX11_crosses 118 = .ok (.lload 7, 2) := by decide +kernel
theorem dX11_crosses_120 : decode cX11_crosses 120 = .ok (.aload_n 0, 1) := by decide +kernel
theorem dX11_crosses_121 : decode cX11_crosses 121 = .ok (.iload_n 1, 1) := by decide +kernel
theorem dX11_crosses_122 : decode cX11_crosses 122 = .ok (.invokevirtual 381, 3) := by decide +kernel
theorem dX11_crosses_125 : decode cX11_crosses 125 = .ok (.i2l, 1) := by decide +kernel
theorem dX11_crosses_126 : decode cX11_crosses 126 = .ok (.lmul, 1) := by decide +kernel
theorem dX11_crosses_127 : decode cX11_crosses 127 = .ok (.lsub, 1) := by decide +kernel
theorem dX11_crosses_128 : decode cX11_crosses 128 = .ok (.lstore 11, 2) := by decide +kernel
theorem dX11_crosses_130 : decode cX11_crosses 130 = .ok (.lload_n 3, 1) := by decide +kernel
theorem dX11_crosses_131 : decode cX11_crosses 131 = .ok (.lconst 0, 1) := by decide +kernel
theorem dX11_crosses_132 : decode cX11_crosses 132 = .ok (.lcmp, 1) := by decide +kernel
theorem dX11_crosses_133 : decode cX11_crosses 133 = .ok (.ifCond .ge 16, 3) := by decide +kernel
theorem dX11_crosses_136 : decode cX11_crosses 136 = .ok (.lload_n 3, 1) := by decide +kernel
theorem dX11_crosses_137 : decode cX11_crosses 137 = .ok (.lneg, 1) := by decide +kernel
theorem dX11_crosses_138 : decode cX11_crosses 138 = .ok (.lstore_n 3, 1) := by decide +kernel
theorem dX11_crosses_139 : decode cX11_crosses 139 = .ok (.lload 9, 2) := by decide +kernel
theorem dX11_crosses_141 : decode cX11_crosses 141 = .ok (.lneg, 1) := by decide +kernel
theorem dX11_crosses_142 : decode cX11_crosses 142 = .ok (.lstore 9, 2) := by decide +kernel
theorem dX11_crosses_144 : decode cX11_crosses 144 = .ok (.lload 11, 2) := by decide +kernel
theorem dX11_crosses_146 : decode cX11_crosses 146 = .ok (.lneg, 1) := by decide +kernel
theorem dX11_crosses_147 : decode cX11_crosses 147 = .ok (.lstore 11, 2) := by decide +kernel
theorem dX11_crosses_149 : decode cX11_crosses 149 = .ok (.lload 9, 2) := by decide +kernel
theorem dX11_crosses_151 : decode cX11_crosses 151 = .ok (.lconst 0, 1) := by decide +kernel
theorem dX11_crosses_152 : decode cX11_crosses 152 = .ok (.lcmp, 1) := by decide +kernel
theorem dX11_crosses_153 : decode cX11_crosses 153 = .ok (.ifCond .le 10, 3) := by decide +kernel
theorem dX11_crosses_156 : decode cX11_crosses 156 = .ok (.lload 11, 2) := by decide +kernel
theorem dX11_crosses_158 : decode cX11_crosses 158 = .ok (.lconst 0, 1) := by decide +kernel
theorem dX11_crosses_159 : decode cX11_crosses 159 = .ok (.lcmp, 1) := by decide +kernel
theorem dX11_crosses_160 : decode cX11_crosses 160 = .ok (.ifCond .gt 5, 3) := by decide +kernel
theorem dX11_crosses_163 : decode cX11_crosses 163 = .ok (.iconst 0, 1) := by decide +kernel
theorem dX11_crosses_164 : decode cX11_crosses 164 = .ok (.ireturn, 1) := by decide +kernel
theorem dX11_crosses_165 : decode cX11_crosses 165 = .ok (.aload_n 0, 1) := by decide +kernel
theorem dX11_crosses_166 : decode cX11_crosses 166 = .ok (.lload_n 3, 1) := by decide +kernel
theorem dX11_crosses_167 : decode cX11_crosses 167 = .ok (.putfield 393, 3) := by decide +kernel
theorem dX11_crosses_170 : decode cX11_crosses 170 = .ok (.aload_n 0, 1) := by decide +kernel
theorem dX11_crosses_171 : decode cX11_crosses 171 = .ok (.aload_n 0, 1) := by decide +kernel
theorem dX11_crosses_172 : decode cX11_crosses 172 = .ok (.iload_n 1, 1) := by decide +kernel
theorem dX11_crosses_173 : decode cX11_crosses 173 = .ok (.invokevirtual 387, 3) := by decide +kernel
theorem dX11_crosses_176 : decode cX11_crosses 176 = .ok (.i2l, 1) := by decide +kernel
theorem dX11_crosses_177 : decode cX11_crosses 177 = .ok (.lload_n 3, 1) := by decide +kernel
theorem dX11_crosses_178 : decode cX11_crosses 178 = .ok (.lmul, 1) := by decide +kernel
theorem dX11_crosses_179 : decode cX11_crosses 179 = .ok (.lload 9, 2) := by decide +kernel
theorem dX11_crosses_181 : decode cX11_crosses 181 = .ok (.aload_n 0, 1) := by decide +kernel
theorem dX11_crosses_182 : decode cX11_crosses 182 = .ok (.iload_n 1, 1) := by decide +kernel
theorem dX11_crosses_183 : decode cX11_crosses 183 = .ok (.invokevirtual 381, 3) := by decide +kernel
theorem dX11_crosses_186 : decode cX11_crosses 186 = .ok (.i2l, 1) := by decide +kernel
theorem dX11_crosses_187 : decode cX11_crosses 187 = .ok (.lmul, 1) := by decide +kernel
theorem dX11_crosses_188 : decode cX11_crosses 188 = .ok (.ladd, 1) := by decide +kernel
theorem dX11_crosses_189 : decode cX11_crosses 189 = .ok (.putfield 396, 3) := by decide +kernel
theorem dX11_crosses_192 : decode cX11_crosses 192 = .ok (.aload_n 0, 1) := by decide +kernel
theorem dX11_crosses_193 : decode cX11_crosses 193 = .ok (.aload_n 0, 1) := by decide +kernel
theorem dX11_crosses_194 : decode cX11_crosses 194 = .ok (.iload_n 1, 1) := by decide +kernel
theorem dX11_crosses_195 : decode cX11_crosses 195 = .ok (.invokevirtual 390, 3) := by decide +kernel
theorem dX11_crosses_198 : decode cX11_crosses 198 = .ok (.i2l, 1) := by decide +kernel
theorem dX11_crosses_199 : decode cX11_crosses 199 = .ok (.lload_n 3, 1) := by decide +kernel
theorem dX11_crosses_200 : decode cX11_crosses 200 = .ok (.lmul, 1) := by decide +kernel
theorem dX11_crosses_201 : decode cX11_crosses 201 = .ok (.lload 9, 2) := by decide +kernel
theorem dX11_crosses_203 : decode cX11_crosses 203 = .ok (.aload_n 0, 1) := by decide +kernel
theorem dX11_crosses_204 : decode cX11_crosses 204 = .ok (.iload_n 1, 1) := by decide +kernel
theorem dX11_crosses_205 : decode cX11_crosses 205 = .ok (.invokevirtual 384, 3) := by decide +kernel
theorem dX11_crosses_208 : decode cX11_crosses 208 = .ok (.i2l, 1) := by decide +kernel
theorem dX11_crosses_209 : decode cX11_crosses 209 = .ok (.lmul, 1) := by decide +kernel
theorem dX11_crosses_210 : decode cX11_crosses 210 = .ok (.ladd, 1) := by decide +kernel
theorem dX11_crosses_211 : decode cX11_crosses 211 = .ok (.putfield 399, 3) := by decide +kernel
theorem dX11_crosses_214 : decode cX11_crosses 214 = .ok (.iconst 1, 1) := by decide +kernel
theorem dX11_crosses_215 : decode cX11_crosses 215 = .ok (.ireturn, 1) := by decide +kernel
theorem dX11_goesThrough_0 : decode cX11_goesThrough 0 = .ok (.aload_n 0, 1) := by decide +kernel
theorem dX11_goesThrough_1 : decode cX11_goesThrough 1 = .ok (.getfield 396, 3) := by decide +kernel
theorem dX11_goesThrough_4 : decode cX11_goesThrough 4 = .ok (.aload_n 0, 1) := by decide +kernel
theorem dX11_goesThrough_5 : decode cX11_goesThrough 5 = .ok (.iload_n 1, 1) := by decide +kernel
theorem dX11_goesThrough_6 : decode cX11_goesThrough 6 = .ok (.invokevirtual 387, 3) := by decide +kernel
theorem dX11_goesThrough_9 : decode cX11_goesThrough 9 = .ok (.i2l, 1) := by decide +kernel
theorem dX11_goesThrough_10 : decode cX11_goesThrough 10 = .ok (.aload_n 0, 1) := by decide +kernel
theorem dX11_goesThrough_11 : decode cX11_goesThrough 11 = .ok (.getfield 393, 3) := by decide +kernel
theorem dX11_goesThrough_14 : decode cX11_goesThrough 14 = .ok (.lmul, 1) := by decide +kernel
theorem dX11_goesThrough_15 : decode cX11_goesThrough 15 = .ok (.lsub, 1) := by decide +kernel
theorem dX11_goesThrough_16 : decode cX11_goesThrough 16 = .ok (.lstore_n 2, 1) := by decide +kernel
theorem dX11_goesThrough_17 : decode cX11_goesThrough 17 = .ok (.aload_n 0, 1) := by decide +kernel
theorem dX11_goesThrough_18 : decode cX11_goesThrough 18 = .ok (.getfield 399, 3) := by decide +kernel
theorem dX11_goesThrough_21 : decode cX11_goesThrough 21 = .ok (.aload_n 0, 1) := by decide +kernel
theorem dX11_goesThrough_22 : decode cX11_goesThrough 22 = .ok (.iload_n 1, 1) := by decide +kernel
theorem dX11_goesThrough_23 : decode cX11_goesThrough 23 = .ok (.invokevirtual 390, 3) := by decide +kernel
theorem dX11_goesThrough_26 : decode cX11_goesThrough 26 = .ok (.i2l, 1) := by decide +kernel
theorem dX11_goesThrough_27 : decode cX11_goesThrough 27 = .ok (.aload_n 0, 1) := by decide +kernel
theorem dX11_goesThrough_28 : decode cX11_goesThrough 28 = .ok (.getfield 393, 3) := by decide +kernel
theorem dX11_goesThrough_31 : decode cX11_goesThrough 31 = .ok (.lmul, 1) := by decide +kernel
theorem dX11_goesThrough_32 : decode cX11_goesThrough 32 = .ok (.lsub, 1) := by decide +kernel
theorem dX11_goesThrough_33 : decode cX11_goesThrough 33 = .ok (.lstore 4, 2) := by decide +kernel
theorem dX11_goesThrough_35 : decode cX11_goesThrough 35 = .ok (.lload_n 2, 1) := by decide +kernel
theorem dX11_goesThrough_36 : decode cX11_goesThrough 36 = .ok (.aload_n 0, 1) := by decide +kernel
theorem dX11_goesThrough_37 : decode cX11_goesThrough 37 = .ok (.iload_n 1, 1) := by decide +kernel
theorem dX11_goesThrough_38 : decode cX11_goesThrough 38 = .ok (.invokevirtual 384, 3) := by decide +kernel
theorem dX11_goesThrough_41 : decode cX11_goesThrough 41 = .ok (.i2l, 1) := by decide +kernel
theorem dX11_goesThrough_42 : decode cX11_goesThrough 42 = .ok (.lmul, 1) := by decide +kernel
theorem dX11_goesThrough_43 : decode cX11_goesThrough 43 = .ok (.lload 4, 2) := by decide +kernel
theorem dX11_goesThrough_45 : decode cX11_goesThrough 45 = .ok (.aload_n 0, 1) := by decide +kernel
theorem dX11_goesThrough_46 : decode cX11_goesThrough 46 = .ok (.iload_n 1, 1) := by decide +kernel
theorem dX11_goesThrough_47 : decode cX11_goesThrough 47 = .ok (.invokevirtual 381, 3) := by decide +kernel
theorem dX11_goesThrough_50 : decode cX11_goesThrough 50 = .ok (.i2l, 1) := by decide +kernel
theorem dX11_goesThrough_51 : decode cX11_goesThrough 51 = .ok (.lmul, 1) := by decide +kernel
theorem dX11_goesThrough_52 : decode cX11_goesThrough 52 = .ok (.lcmp, 1) := by decide +kernel
theorem dX11_goesThrough_53 : decode cX11_goesThrough 53 = .ok (.ifCond .ne 30, 3) := by decide +kernel
theorem dX11_goesThrough_56 : decode cX11_goesThrough 56 = .ok (.lload_n 2, 1) := by decide +kernel
theorem dX11_goesThrough_57 : decode cX11_goesThrough 57 = .ok (.aload_n 0, 1) := by decide +kernel
theorem dX11_goesThrough_58 : decode cX11_goesThrough 58 = .ok (.iload_n 1, 1) := by decide +kernel
theorem dX11_goesThrough_59 : decode cX11_goesThrough 59 = .ok (.invokevirtual 381, 3) := by decide +kernel
theorem dX11_goesThrough_62 : decode cX11_goesThrough 62 = .ok (.i2l, 1) := by decide +kernel
theorem dX11_goesThrough_63 : decode cX11_goesThrough 63 = .ok (.lmul, 1) := by decide +kernel
theorem dX11_goesThrough_64 : decode cX11_goesThrough 64 = .ok (.lload 4, 2) := by decide +kernel
theorem dX11_goesThrough_66 : decode cX11_goesThrough 66 = .ok (.aload_n 0, 1) := by decide +kernel
theorem dX11_goesThrough_67 : decode cX11_goesThrough 67 = .ok (.iload_n 1, 1) := by decide +kernel
theorem dX11_goesThrough_68 : decode cX11_goesThrough 68 = .ok (.invokevirtual 384, 3) := by decide +kernel
theorem dX11_goesThrough_71 : decode cX11_goesThrough 71 = .ok (.i2l, 1) := by decide +kernel
theorem dX11_goesThrough_72 : decode cX11_goesThrough 72 = .ok (.lmul, 1) := by decide +kernel
theorem dX11_goesThrough_73 : decode cX11_goesThrough 73 = .ok (.ladd, 1) := by decide +kernel
theorem dX11_goesThrough_74 : decode cX11_goesThrough 74 = .ok (.lconst 0, 1) := by decide +kernel
theorem dX11_goesThrough_75 : decode cX11_goesThrough 75 = .ok (.lcmp, 1) := by decide +kernel
theorem dX11_goesThrough_76 : decode cX11_goesThrough 76 = .ok (.ifCond .le 7, 3) := by decide +kernel
theorem dX11_goesThrough_79 : decode cX11_goesThrough 79 = .ok (.iconst 1, 1) := by decide +kernel
theorem dX11_goesThrough_80 : decode cX11_goesThrough 80 = .ok (.goto 4, 3) := by decide +kernel
theorem dX11_goesThrough_83 : decode cX11_goesThrough 83 = .ok (.iconst 0, 1) := by decide +kernel
theorem dX11_goesThrough_84 : decode cX11_goesThrough 84 = .ok (.ireturn, 1) := by decide +kernel
theorem dX11_throughSet_0 : decode cX11_throughSet 0 = .ok (.iconst 0, 1) := by decide +kernel
theorem dX11_throughSet_1 : decode cX11_throughSet 1 = .ok (.istore_n 1, 1) := by decide +kernel
theorem dX11_throughSet_2 : decode cX11_throughSet 2 = .ok (.iconst 0, 1) := by decide +kernel
theorem dX11_throughSet_3 : decode cX11_throughSet 3 = .ok (.istore_n 2, 1) := by decide +kernel
theorem dX11_throughSet_4 : decode cX11_throughSet 4 = .ok (.iload_n 2, 1) := by decide +kernel
theorem dX11_throughSet_5 : decode cX11_throughSet 5 = .ok (.aload_n 0, 1) := by decide +kernel
theorem dX11_throughSet_6 : decode cX11_throughSet 6 = .ok (.getfield 33, 3) := by decide +kernel
theorem dX11_throughSet_9 : decode cX11_throughSet 9 = .ok (.iconst 4, 1) := by decide +kernel
theorem dX11_throughSet_10 : decode cX11_throughSet 10 = .ok (.iaload, 1) := by decide +kernel
theorem dX11_throughSet_11 : decode cX11_throughSet 11 = .ok (.if_icmp .ge 27, 3) := by decide +kernel
theorem dX11_throughSet_14 : decode cX11_throughSet 14 = .ok (.iload_n 1, 1) := by decide +kernel
theorem dX11_throughSet_15 : decode cX11_throughSet 15 = .ok (.aload_n 0, 1) := by decide +kernel
theorem dX11_throughSet_16 : decode cX11_throughSet 16 = .ok (.iload_n 2, 1) := by decide +kernel
theorem dX11_throughSet_17 : decode cX11_throughSet 17 = .ok (.invokevirtual 402, 3) := by decide +kernel
theorem dX11_throughSet_20 : decode cX11_throughSet 20 = .ok (.ifCond .eq 9, 3) := by decide +kernel
theorem dX11_throughSet_23 : decode cX11_throughSet 23 = .ok (.iconst 1, 1) := by decide +kernel
theorem dX11_throughSet_24 : decode cX11_throughSet 24 = .ok (.iload_n 2, 1) := by decide +kernel
theorem dX11_throughSet_25 : decode cX11_throughSet 25 = .ok (.ishl, 1) := by decide +kernel
theorem dX11_throughSet_26 : decode cX11_throughSet 26 = .ok (.goto 4, 3) := by decide +kernel
theorem dX11_throughSet_29 : decode cX11_throughSet 29 = .ok (.iconst 0, 1) := by decide +kernel
theorem dX11_throughSet_30 : decode cX11_throughSet 30 = .ok (.ior, 1) := by decide +kernel
theorem dX11_throughSet_31 : decode cX11_throughSet 31 = .ok (.istore_n 1, 1) := by decide +kernel
theorem dX11_throughSet_32 : decode cX11_throughSet 32 = .ok (.iinc 2 1, 3) := by decide +kernel
theorem dX11_throughSet_35 : decode cX11_throughSet 35 = .ok (.goto (-31), 3) := by decide +kernel
theorem dX11_throughSet_38 : decode cX11_throughSet 38 = .ok (.iload_n 1, 1) := by decide +kernel
theorem dX11_throughSet_39 : decode cX11_throughSet 39 = .ok (.ireturn, 1) := by decide +kernel
theorem dX11_cross_0 : decode cX11_cross 0 = .ok (.aload_n 0, 1) := by decide +kernel
theorem dX11_cross_1 : decode cX11_cross 1 = .ok (.aload_n 0, 1) := by decide +kernel
theorem dX11_cross_2 : decode cX11_cross 2 = .ok (.iload_n 1, 1) := by decide +kernel
theorem dX11_cross_3 : decode cX11_cross 3 = .ok (.invokevirtual 405, 3) := by decide +kernel
theorem dX11_cross_6 : decode cX11_cross 6 = .ok (.ifCond .eq 29, 3) := by decide +kernel
theorem dX11_cross_9 : decode cX11_cross 9 = .ok (.aload_n 0, 1) := by decide +kernel
theorem dX11_cross_10 : decode cX11_cross 10 = .ok (.iload_n 2, 1) := by decide +kernel
theorem dX11_cross_11 : decode cX11_cross 11 = .ok (.invokevirtual 405, 3) := by decide +kernel
theorem dX11_cross_14 : decode cX11_cross 14 = .ok (.ifCond .eq 21, 3) := by decide +kernel
theorem dX11_cross_17 : decode cX11_cross 17 = .ok (.iload_n 3, 1) := by decide +kernel
theorem dX11_cross_18 : decode cX11_cross 18 = .ok (.iconst 0, 1) := by decide +kernel
theorem dX11_cross_19 : decode cX11_cross 19 = .ok (.iconst 3, 1) := by decide +kernel
theorem dX11_cross_20 : decode cX11_cross 20 = .ok (.invokestatic 175, 3) := by decide +kernel
theorem dX11_cross_23 : decode cX11_cross 23 = .ok (.ifCond .eq 12, 3) := by decide +kernel
theorem dX11_cross_26 : decode cX11_cross 26 = .ok (.aload_n 0, 1) := by decide +kernel
theorem dX11_cross_27 : decode cX11_cross 27 = .ok (.iload_n 1, 1) := by decide +kernel
theorem dX11_cross_28 : decode cX11_cross 28 = .ok (.iload_n 2, 1) := by decide +kernel
theorem dX11_cross_29 : decode cX11_cross 29 = .ok (.invokevirtual 408, 3) := by decide +kernel
theorem dX11_cross_32 : decode cX11_cross 32 = .ok (.ifCond .ne 7, 3) := by decide +kernel
theorem dX11_cross_35 : decode cX11_cross 35 = .ok (.iconst 1, 1) := by decide +kernel
theorem dX11_cross_36 : decode cX11_cross 36 = .ok (.goto 4, 3) := by decide +kernel
theorem dX11_cross_39 : decode cX11_cross 39 = .ok (.iconst 0, 1) := by decide +kernel
theorem dX11_cross_40 : decode cX11_cross 40 = .ok (.invokevirtual 264, 3) := by decide +kernel
theorem dX11_cross_43 : decode cX11_cross 43 = .ok (.ifCond .eq 5, 3) := by decide +kernel
theorem dX11_cross_46 : decode cX11_cross 46 = .ok (.lconst 0, 1) := by decide +kernel
theorem dX11_cross_47 : decode cX11_cross 47 = .ok (.lreturn, 1) := by decide +kernel
theorem dX11_cross_48 : decode cX11_cross 48 = .ok (.iload_n 3, 1) := by decide +kernel
theorem dX11_cross_49 : decode cX11_cross 49 = .ok (.iconst 2, 1) := by decide +kernel
theorem dX11_cross_50 : decode cX11_cross 50 = .ok (.if_icmp .ge 10, 3) := by decide +kernel
theorem dX11_cross_53 : decode cX11_cross 53 = .ok (.aload_n 0, 1) := by decide +kernel
theorem dX11_cross_54 : decode cX11_cross 54 = .ok (.getfield 396, 3) := by decide +kernel
theorem dX11_cross_57 : decode cX11_cross 57 = .ok (.goto 7, 3) := by decide +kernel
theorem dX11_cross_60 : decode cX11_cross 60 = .ok (.aload_n 0, 1) := by decide +kernel
theorem dX11_cross_61 : decode cX11_cross 61 = .ok (.getfield 399, 3) := by decide +kernel
theorem dX11_cross_64 : decode cX11_cross 64 = .ok (.lstore 4, 2) := by decide +kernel
theorem dX11_cross_66 : decode cX11_cross 66 = .ok (.lload 4, 2) := by decide +kernel
theorem dX11_cross_68 : decode cX11_cross 68 = .ok (.aload_n 0, 1) := by decide +kernel
theorem dX11_cross_69 : decode cX11_cross 69 = .ok (.getfield 393, 3) := by decide +kernel
theorem dX11_cross_72 : decode cX11_cross 72 = .ok (.invokestatic 411, 3) := by decide +kernel
theorem dX11_cross_75 : decode cX11_cross 75 = .ok (.lstore 6, 2) := by decide +kernel
theorem dX11_cross_77 : decode cX11_cross 77 = .ok (.iload_n 3, 1) := by decide +kernel
theorem dX11_cross_78 : decode cX11_cross 78 = .ok (.iconst 2, 1) := by decide +kernel
theorem dX11_cross_79 : decode cX11_cross 79 = .ok (.irem, 1) := by decide +kernel
theorem dX11_cross_80 : decode cX11_cross 80 = .ok (.ifCond .ne 8, 3) := by decide +kernel
theorem dX11_cross_83 : decode cX11_cross 83 = .ok (.lload 4, 2) := by decide +kernel
theorem dX11_cross_85 : decode cX11_cross 85 = .ok (.goto 7, 3) := by decide +kernel
theorem dX11_cross_88 : decode cX11_cross 88 = .ok (.aload_n 0, 1) := by decide +kernel
theorem dX11_cross_89 : decode cX11_cross 89 = .ok (.getfield 393, 3) := by decide +kernel
theorem dX11_cross_92 : decode cX11_cross 92 = .ok (.lload 6, 2) := by decide +kernel
theorem dX11_cross_94 : decode cX11_cross 94 = .ok (.ldiv, 1) := by decide +kernel
theorem dX11_cross_95 : decode cX11_cross 95 = .ok (.lreturn, 1) := by decide +kernel
theorem dX11_through_0 : decode cX11_through 0 = .ok (.aload_n 0, 1) := by decide +kernel
theorem dX11_through_1 : decode cX11_through 1 = .ok (.iconst 0, 1) := by decide +kernel
theorem dX11_through_2 : decode cX11_through 2 = .ok (.putfield 1, 3) := by decide +kernel
theorem dX11_through_5 : decode cX11_through 5 = .ok (.aload_n 0, 1) := by decide +kernel
theorem dX11_through_6 : decode cX11_through 6 = .ok (.iload_n 1, 1) := by decide +kernel
theorem dX11_through_7 : decode cX11_through 7 = .ok (.invokevirtual 405, 3) := by decide +kernel
theorem dX11_through_10 : decode cX11_through 10 = .ok (.ifCond .eq 27, 3) := by decide +kernel
theorem dX11_through_13 : decode cX11_through 13 = .ok (.aload_n 0, 1) := by decide +kernel
theorem dX11_through_14 : decode cX11_through 14 = .ok (.iload_n 2, 1) := by decide +kernel
theorem dX11_through_15 : decode cX11_through 15 = .ok (.invokevirtual 405, 3) := by decide +kernel
theorem dX11_through_18 : decode cX11_through 18 = .ok (.ifCond .eq 19, 3) := by decide +kernel
theorem dX11_through_21 : decode cX11_through 21 = .ok (.aload_n 0, 1) := by decide +kernel
theorem dX11_through_22 : decode cX11_through 22 = .ok (.iload_n 1, 1) := by decide +kernel
theorem dX11_through_23 : decode cX11_through 23 = .ok (.iload_n 2, 1) := by decide +kernel
theorem dX11_through_24 : decode cX11_through 24 = .ok (.invokevirtual 408, 3) := by decide +kernel
theorem dX11_through_27 : decode cX11_through 27 = .ok (.ifCond .eq 10, 3) := by decide +kernel
theorem dX11_through_30 : decode cX11_through 30 = .ok (.aload_n 0, 1) := by decide +kernel
theorem dX11_through_31 : decode cX11_through 31 = .ok (.invokevirtual 415, 3) := by decide +kernel
theorem dX11_through_34 : decode cX11_through 34 = .ok (.goto 4, 3) := by decide +kernel
theorem dX11_through_37 : decode cX11_through 37 = .ok (.iconst (-1), 1) := by decide +kernel
theorem dX11_through_38 : decode cX11_through 38 = .ok (.ireturn, 1) := by decide +kernel
theorem dX11_findPoints_0 : decode cX11_findPoints 0 = .ok (.aload_n 0, 1) := by decide +kernel
theorem dX11_findPoints_1 : decode cX11_findPoints 1 = .ok (.iconst 0, 1) := by decide +kernel
theorem dX11_findPoints_2 : decode cX11_findPoints 2 = .ok (.putfield 418, 3) := by decide +kernel
theorem dX11_findPoints_5 : decode cX11_findPoints 5 = .ok (.iconst 0, 1) := by decide +kernel
theorem dX11_findPoints_6 : decode cX11_findPoints 6 = .ok (.istore_n 1, 1) := by decide +kernel
theorem dX11_findPoints_7 : decode cX11_findPoints 7 = .ok (.iload_n 1, 1) := by decide +kernel
theorem dX11_findPoints_8 : decode cX11_findPoints 8 = .ok (.aload_n 0, 1) := by decide +kernel
theorem dX11_findPoints_9 : decode cX11_findPoints 9 = .ok (.getfield 33, 3) := by decide +kernel
theorem dX11_findPoints_12 : decode cX11_findPoints 12 = .ok (.iconst 4, 1) := by decide +kernel
theorem dX11_findPoints_13 : decode cX11_findPoints 13 = .ok (.iaload, 1) := by decide +kernel
theorem dX11_findPoints_14 : decode cX11_findPoints 14 = .ok (.if_icmp .ge 268, 3) := by decide +kernel
theorem dX11_findPoints_17 : decode cX11_findPoints 17 = .ok (.iload_n 1, 1) := by decide +kernel
theorem dX11_findPoints_18 : decode cX11_findPoints 18 = .ok (.iconst 1, 1) := by decide +kernel
theorem dX11_findPoints_19 : decode cX11_findPoints 19 = .ok (.iadd, 1) := by decide +kernel
theorem dX11_findPoints_20 : decode cX11_findPoints 20 = .ok (.istore_n 2, 1) := by decide +kernel
theorem dX11_findPoints_21 : decode cX11_findPoints 21 = .ok (.iload_n 2, 1) := by decide +kernel
theorem dX11_findPoints_22 : decode cX11_findPoints 22 = .ok (.aload_n 0, 1) := by decide +kernel
theorem dX11_findPoints_23 : decode cX11_findPoints 23 = .ok (.getfield 33, 3) := by decide +kernel
theorem dX11_findPoints_26 : decode cX11_findPoints 26 = .ok (.iconst 4, 1) := by decide +kernel
theorem dX11_findPoints_27 : decode cX11_findPoints 27 = .ok (.iaload, 1) := by decide +kernel
theorem dX11_findPoints_28 : decode cX11_findPoints 28 = .ok (.if_icmp .ge 248, 3) := by decide +kernel
theorem dX11_findPoints_31 : decode cX11_findPoints 31 = .ok (.aload_n 0, 1) := by decide +kernel
theorem dX11_findPoints_32 : decode cX11_findPoints 32 = .ok (.iload_n 1, 1) := by decide +kernel
theorem dX11_findPoints_33 : decode cX11_findPoints 33 = .ok (.iload_n 2, 1) := by decide +kernel
theorem dX11_findPoints_34 : decode cX11_findPoints 34 = .ok (.invokevirtual 408, 3) := by decide +kernel
theorem dX11_findPoints_37 : decode cX11_findPoints 37 = .ok (.ifCond .ne 6, 3) := by decide +kernel
theorem dX11_findPoints_40 : decode cX11_findPoints 40 = .ok (.goto 230, 3) := by decide +kernel
theorem dX11_findPoints_43 : decode cX11_findPoints 43 = .ok (.aload_n 0, 1) := by decide +kernel
theorem dX11_findPoints_44 : decode cX11_findPoints 44 = .ok (.invokevirtual 415, 3) := by decide +kernel
theorem dX11_findPoints_47 : decode cX11_findPoints 47 = .ok (.istore_n 3, 1) := by decide +kernel
theorem dX11_findPoints_48 : decode cX11_findPoints 48 = .ok (.iconst 1, 1) := by decide +kernel
theorem dX11_findPoints_49 : decode cX11_findPoints 49 = .ok (.istore 4, 2) := by decide +kernel
theorem dX11_findPoints_51 : decode cX11_findPoints 51 = .ok (.iconst 0, 1) := by decide +kernel
theorem dX11_findPoints_52 : decode cX11_findPoints 52 = .ok (.istore 5, 2) := by decide +kernel
theorem dX11_findPoints_54 : decode cX11_findPoints 54 = .ok (.iload 5, 2) := by decide +kernel
theorem dX11_findPoints_56 : decode cX11_findPoints 56 = .ok (.iload_n 1, 1) := by decide +kernel
theorem dX11_findPoints_57 : decode cX11_findPoints 57 = .ok (.if_icmp .gt 170, 3) := by decide +kernel
theorem dX11_findPoints_60 : decode cX11_findPoints 60 = .ok (.iload 5, 2) := by decide +kernel
theorem dX11_findPoints_62 : decode cX11_findPoints 62 = .ok (.iconst 1, 1) := by decide +kernel
theorem dX11_findPoints_63 : decode cX11_findPoints 63 = .ok (.iadd, 1) := by decide +kernel
theorem dX11_findPoints_64 : decode cX11_findPoints 64 = .ok (.istore 6, 2) := by decide +kernel
theorem dX11_findPoints_66 : decode cX11_findPoints 66 = .ok (.iload 6, 2) := by decide +kernel
theorem dX11_findPoints_68 : decode cX11_findPoints 68 = .ok (.iload 5, 2) := by decide +kernel
theorem dX11_findPoints_70 : decode cX11_findPoints 70 = .ok (.iload_n 1, 1) := by decide +kernel
theorem dX11_findPoints_71 : decode cX11_findPoints 71 = .ok (.if_icmp .ne 7, 3) := by decide +kernel
theorem dX11_findPoints_74 : decode cX11_findPoints 74 = .ok (.iload_n 2, 1) := by decide +kernel
theorem dX11_findPoints_75 : decode cX11_findPoints 75 = .ok (.goto 9, 3) := by decide +kernel
theorem dX11_findPoints_78 : decode cX11_findPoints 78 = .ok (.aload_n 0, 1) := by decide +kernel
theorem dX11_findPoints_79 : decode cX11_findPoints 79 = .ok (.getfield 33, 3) := by decide +kernel
theorem dX11_findPoints_82 : decode cX11_findPoints 82 = .ok (.iconst 4, 1) := by decide +kernel
theorem dX11_findPoints_83 : decode cX11_findPoints 83 = .ok (.iaload, 1) := by decide +kernel
theorem dX11_findPoints_84 : decode cX11_findPoints 84 = .ok (.if_icmp .ge 137, 3) := by decide +kernel
theorem dX11_findPoints_87 : decode cX11_findPoints 87 = .ok (.iload_n 3, 1) := by decide +kernel
theorem dX11_findPoints_88 : decode cX11_findPoints 88 = .ok (.iload 5, 2) := by decide +kernel
theorem dX11_findPoints_90 : decode cX11_findPoints 90 = .ok (.invokestatic 294, 3) := by decide +kernel
theorem dX11_findPoints_93 : decode cX11_findPoints 93 = .ok (.ifCond .eq 122, 3) := by decide +kernel
theorem dX11_findPoints_96 : decode cX11_findPoints 96 = .ok (.iload_n 3, 1) := by decide +kernel
theorem dX11_findPoints_97 : decode cX11_findPoints 97 = .ok (.iload 6, 2) := by decide +kernel
theorem dX11_findPoints_99 : decode cX11_findPoints 99 = .ok (.invokestatic 294, 3) := by decide +kernel
theorem dX11_findPoints_102 : decode cX11_findPoints 102 = .ok (.ifCond .ne 6, 3) := by decide +kernel
theorem dX11_findPoints_105 : decode cX11_findPoints 105 = .ok (.goto 110, 3) := by decide +kernel
theorem dX11_findPoints_108 : decode cX11_findPoints 108 = .ok (.aload_n 0, 1) := by decide +kernel
theorem dX11_findPoints_109 : decode cX11_findPoints 109 = .ok (.getfield 396, 3) := by decide +kernel
theorem dX11_findPoints_112 : decode cX11_findPoints 112 = .ok (.lstore 7, 2) := by decide +kernel
theorem dX11_findPoints_114 : decode cX11_findPoints 114 = .ok (.aload_n 0, 1) := by decide +kernel
theorem dX11_findPoints_115 : decode cX11_findPoints 115 = .ok (.getfield 399, 3) := by decide +kernel
theorem dX11_findPoints_118 : decode cX11_findPoints 118 = .ok (.lstore 9, 2) := by decide +kernel
theorem dX11_findPoints_120 : decode cX11_findPoints 120 = .ok (.aload_n 0, 1) := by decide +kernel
theorem dX11_findPoints_121 : decode cX11_findPoints 121 = .ok (.getfield 393, 3) := by decide +kernel
theorem dX11_findPoints_124 : decode cX11_findPoints 124 = .ok (.lstore 11, 2) := by decide +kernel
theorem dX11_findPoints_126 : decode cX11_findPoints 126 = .ok (.aload_n 0, 1) := by decide +kernel
theorem dX11_findPoints_127 : decode cX11_findPoints 127 = .ok (.iload 5, 2) := by decide +kernel
theorem dX11_findPoints_129 : decode cX11_findPoints 129 = .ok (.iload 6, 2) := by decide +kernel
theorem dX11_findPoints_131 : decode cX11_findPoints 131 = .ok (.invokevirtual 408, 3) := by decide +kernel
theorem dX11_findPoints_134 : decode cX11_findPoints 134 = .ok (.ifCond .eq 43, 3) := by decide +kernel
theorem dX11_findPoints_137 : decode cX11_findPoints 137 = .ok (.aload_n 0, 1) := by decide +kernel
theorem dX11_findPoints_138 : decode cX11_findPoints 138 = .ok (.getfield 396, 3) := by decide +kernel
theorem dX11_findPoints_141 : decode cX11_findPoints 141 = .ok (.lload 11, 2) := by decide +kernel
theorem dX11_findPoints_143 : decode cX11_findPoints 143 = .ok (.lmul, 1) := by decide +kernel
theorem dX11_findPoints_144 : decode cX11_findPoints 144 = .ok (.lload 7, 2) := by decide +kernel
theorem dX11_findPoints_146 : decode cX11_findPoints 146 = .ok (.aload_n 0, 1) := by decide +kernel
theorem dX11_findPoints_147 : decode cX11_findPoints 147 = .ok (.getfield 393, 3) := by decide +kernel
theorem dX11_findPoints_150 : decode cX11_findPoints 150 = .ok (.lmul, 1) := by decide +kernel
theorem dX11_findPoints_151 : decode cX11_findPoints 151 = .ok (.lcmp, 1) := by decide +kernel
theorem dX11_findPoints_152 : decode cX11_findPoints 152 = .ok (.ifCond .ne 25, 3) := by decide +kernel
theorem dX11_findPoints_155 : decode cX11_findPoints 155 = .ok (.aload_n 0, 1) := by decide +kernel
theorem dX11_findPoints_156 : decode cX11_findPoints 156 = .ok (.getfield 399, 3) := by decide +kernel
theorem dX11_findPoints_159 : decode cX11_findPoints 159 = .ok (.lload 11, 2) := by decide +kernel
theorem dX11_findPoints_161 : decode cX11_findPoints 161 = .ok (.lmul, 1) := by decide +kernel
theorem dX11_findPoints_162 : decode cX11_findPoints 162 = .ok (.lload 9, 2) := by decide +kernel
theorem dX11_findPoints_164 : decode cX11_findPoints 164 = .ok (.aload_n 0, 1) := by decide +kernel
theorem dX11_findPoints_165 : decode cX11_findPoints 165 = .ok (.getfield 393, 3) := by decide +kernel
theorem dX11_findPoints_168 : decode cX11_findPoints 168 = .ok (.lmul, 1) := by decide +kernel
theorem dX11_findPoints_169 : decode cX11_findPoints 169 = .ok (.lcmp, 1) := by decide +kernel
theorem dX11_findPoints_170 : decode cX11_findPoints 170 = .ok (.ifCond .ne 7, 3) := by decide +kernel
theorem dX11_findPoints_173 : decode cX11_findPoints 173 = .ok (.iconst 1, 1) := by decide +kernel
theorem dX11_findPoints_174 : decode cX11_findPoints 174 = .ok (.goto 4, 3) := by decide +kernel
theorem dX11_findPoints_177 : decode cX11_findPoints 177 = .ok (.iconst 0, 1) := by decide +kernel
theorem dX11_findPoints_178 : decode cX11_findPoints 178 = .ok (.istore 13, 2) := by decide +kernel
theorem dX11_findPoints_180 : decode cX11_findPoints 180 = .ok (.aload_n 0, 1) := by decide +kernel
theorem dX11_findPoints_181 : decode cX11_findPoints 181 = .ok (.lload 7, 2) := by decide +kernel
theorem dX11_findPoints_183 : decode cX11_findPoints 183 = .ok (.putfield 396, 3) := by decide +kernel
theorem dX11_findPoints_186 : decode cX11_findPoints 186 = .ok (.aload_n 0, 1) := by decide +kernel
theorem dX11_findPoints_187 : decode cX11_findPoints 187 = .ok (.lload 9, 2) := by decide +kernel
theorem dX11_findPoints_189 : decode cX11_findPoints 189 = .ok (.putfield 399, 3) := by decide +kernel
theorem dX11_findPoints_192 : decode cX11_findPoints 192 = .ok (.aload_n 0, 1) := by decide +kernel
theorem dX11_findPoints_193 : decode cX11_findPoints 193 = .ok (.lload 11, 2) := by decide +kernel
theorem dX11_findPoints_195 : decode cX11_findPoints 195 = .ok (.putfield 393, 3) := by decide +kernel
theorem dX11_findPoints_198 : decode cX11_findPoints 198 = .ok (.iload 4, 2) := by decide +kernel
theorem dX11_findPoints_200 : decode cX11_findPoints 200 = .ok (.ifCond .eq 12, 3) := by decide +kernel
theorem dX11_findPoints_203 : decode cX11_findPoints 203 = .ok (.iload 13, 2) := by decide +kernel
theorem dX11_findPoints_205 : decode cX11_findPoints 205 = .ok (.ifCond .ne 7, 3) := by decide +kernel
theorem dX11_findPoints_208 : decode cX11_findPoints 208 = .ok (.iconst 1, 1) := by decide +kernel
theorem dX11_findPoints_209 : decode cX11_findPoints 209 = .ok (.goto 4, 3) := by decide +kernel
theorem dX11_findPoints_212 : decode cX11_findPoints 212 = .ok (.iconst 0, 1) := by decide +kernel
theorem dX11_findPoints_213 : decode cX11_findPoints 213 = .ok (.istore 4, 2) := by decide +kernel
theorem dX11_findPoints_215 : decode cX11_findPoints 215 = .ok (.iinc 6 1, 3) := by decide +kernel
theorem dX11_findPoints_218 : decode cX11_findPoints 218 = .ok (.goto (-152), 3) := by decide +kernel
theorem dX11_findPoints_221 : decode cX11_findPoints 221 = .ok (.iinc 5 1, 3) := by decide +kernel
theorem dX11_findPoints_224 : decode cX11_findPoints 224 = .ok (.goto (-170), 3) := by decide +kernel
theorem dX11_findPoints_227 : decode cX11_findPoints 227 = .ok (.iload 4, 2) := by decide +kernel
theorem dX11_findPoints_229 : decode cX11_findPoints 229 = .ok (.ifCond .ne 6, 3) := by decide +kernel
theorem dX11_findPoints_232 : decode cX11_findPoints 232 = .ok (.goto 38, 3) := by decide +kernel
theorem dX11_findPoints_235 : decode cX11_findPoints 235 = .ok (.aload_n 0, 1) := by decide +kernel
theorem dX11_findPoints_236 : decode cX11_findPoints 236 = .ok (.getfield 92, 3) := by decide +kernel
theorem dX11_findPoints_239 : decode cX11_findPoints 239 = .ok (.aload_n 0, 1) := by decide +kernel
theorem dX11_findPoints_240 : decode cX11_findPoints 240 = .ok (.getfield 418, 3) := by decide +kernel
theorem dX11_findPoints_243 : decode cX11_findPoints 243 = .ok (.bipush 10, 2) := by decide +kernel
theorem dX11_findPoints_245 : decode cX11_findPoints 245 = .ok (.iload_n 1, 1) := by decide +kernel
theorem dX11_findPoints_246 : decode cX11_findPoints 246 = .ok (.imul, 1) := by decide +kernel
theorem dX11_findPoints_247 : decode cX11_findPoints 247 = .ok (.iload_n 2, 1) := by decide +kernel
theorem dX11_findPoints_248 : decode cX11_findPoints 248 = .ok (.iadd, 1) := by decide +kernel
theorem dX11_findPoints_249 : decode cX11_findPoints 249 = .ok (.iastore, 1) := by decide +kernel
theorem dX11_findPoints_250 : decode cX11_findPoints 250 = .ok (.aload_n 0, 1) := by decide +kernel
theorem dX11_findPoints_251 : decode cX11_findPoints 251 = .ok (.getfield 95, 3) := by decide +kernel
theorem dX11_findPoints_254 : decode cX11_findPoints 254 = .ok (.aload_n 0, 1) := by decide +kernel
theorem dX11_findPoints_255 : decode cX11_findPoints 255 = .ok (.getfield 418, 3) := by decide +kernel
theorem dX11_findPoints_258 : decode cX11_findPoints 258 = .ok (.iload_n 3, 1) := by decide +kernel
theorem dX11_findPoints_259 : decode cX11_findPoints 259 = .ok (.iastore, 1) := by decide +kernel
theorem dX11_findPoints_260 : decode cX11_findPoints 260 = .ok (.aload_n 0, 1) := by decide +kernel
theorem dX11_findPoints_261 : decode cX11_findPoints 261 = .ok (.dup, 1) := by decide +kernel
theorem dX11_findPoints_262 : decode cX11_findPoints 262 = .ok (.getfield 418, 3) := by decide +kernel
theorem dX11_findPoints_265 : decode cX11_findPoints 265 = .ok (.iconst 1, 1) := by decide +kernel
theorem dX11_findPoints_266 : decode cX11_findPoints 266 = .ok (.iadd, 1) := by decide +kernel
theorem dX11_findPoints_267 : decode cX11_findPoints 267 = .ok (.putfield 418, 3) := by decide +kernel
theorem dX11_findPoints_270 : decode cX11_findPoints 270 = .ok (.iinc 2 1, 3) := by decide +kernel
theorem dX11_findPoints_273 : decode cX11_findPoints 273 = .ok (.goto (-252), 3) := by decide +kernel
theorem dX11_findPoints_276 : decode cX11_findPoints 276 = .ok (.iinc 1 1, 3) := by decide +kernel
theorem dX11_findPoints_279 : decode cX11_findPoints 279 = .ok (.goto (-272), 3) := by decide +kernel
theorem dX11_findPoints_282 : decode cX11_findPoints 282 = .ok (.return_, 1) := by decide +kernel
theorem dX11_fix_0 : decode cX11_fix 0 = .ok (.aload_n 0, 1) := by decide +kernel
theorem dX11_fix_1 : decode cX11_fix 1 = .ok (.iconst 0, 1) := by decide +kernel
theorem dX11_fix_2 : decode cX11_fix 2 = .ok (.putfield 1, 3) := by decide +kernel
theorem dX11_fix_5 : decode cX11_fix 5 = .ok (.aload_n 0, 1) := by decide +kernel
theorem dX11_fix_6 : decode cX11_fix 6 = .ok (.invokevirtual 421, 3) := by decide +kernel
theorem dX11_fix_9 : decode cX11_fix 9 = .ok (.iconst 1, 1) := by decide +kernel
theorem dX11_fix_10 : decode cX11_fix 10 = .ok (.aload_n 0, 1) := by decide +kernel
theorem dX11_fix_11 : decode cX11_fix 11 = .ok (.getfield 33, 3) := by decide +kernel
theorem dX11_fix_14 : decode cX11_fix 14 = .ok (.iconst 4, 1) := by decide +kernel
theorem dX11_fix_15 : decode cX11_fix 15 = .ok (.iaload, 1) := by decide +kernel
theorem dX11_fix_16 : decode cX11_fix 16 = .ok (.ishl, 1) := by decide +kernel
theorem dX11_fix_17 : decode cX11_fix 17 = .ok (.iconst 1, 1) := by decide +kernel
theorem dX11_fix_18 : decode cX11_fix 18 = .ok (.isub, 1) := by decide +kernel
theorem dX11_fix_19 : decode cX11_fix 19 = .ok (.istore_n 1, 1) := by decide +kernel
theorem dX11_fix_20 : decode cX11_fix 20 = .ok (.iconst 0, 1) := by decide +kernel
theorem dX11_fix_21 : decode cX11_fix 21 = .ok (.istore_n 2, 1) := by decide +kernel
theorem dX11_fix_22 : decode cX11_fix 22 = .ok (.iconst 0, 1) := by decide +kernel
theorem dX11_fix_23 : decode cX11_fix 23 = .ok (.istore_n 3, 1) := by decide +kernel
theorem dX11_fix_24 : decode cX11_fix 24 = .ok (.iload_n 3, 1) := by decide +kernel
theorem dX11_fix_25 : decode cX11_fix 25 = .ok (.aload_n 0, 1) := by decide +kernel
theorem dX11_fix_26 : decode cX11_fix 26 = .ok (.getfield 418, 3) := by decide +kernel
theorem dX11_fix_29 : decode cX11_fix 29 = .ok (.if_icmp .ge 18, 3) := by decide +kernel
theorem dX11_fix_32 : decode cX11_fix 32 = .ok (.iload_n 2, 1) := by decide +kernel
theorem dX11_fix_33 : decode cX11_fix 33 = .ok (.aload_n 0, 1) := by decide +kernel
theorem dX11_fix_34 : decode cX11_fix 34 = .ok (.getfield 95, 3) := by decide +kernel
theorem dX11_fix_37 : decode cX11_fix 37 = .ok (.iload_n 3, 1) := by decide +kernel
theorem dX11_fix_38 : decode cX11_fix 38 = .ok (.iaload, 1) := by decide +kernel
theorem dX11_fix_39 : decode cX11_fix 39 = .ok (.ior, 1) := by decide +kernel
theorem dX11_fix_40 : decode cX11_fix 40 = .ok (.istore_n 2, 1) := by decide +kernel
theorem dX11_fix_41 : decode cX11_fix 41 = .ok (.iinc 3 1, 3) := by decide +kernel
theorem dX11_fix_44 : decode cX11_fix 44 = .ok (.goto (-20), 3) := by decide +kernel
theorem dX11_fix_47 : decode cX11_fix 47 = .ok (.iload_n 2, 1) := by decide +kernel
theorem dX11_fix_48 : decode cX11_fix 48 = .ok (.iload_n 1, 1) := by decide +kernel
theorem dX11_fix_49 : decode cX11_fix 49 = .ok (.if_icmp .eq 5, 3) := by decide +kernel
theorem dX11_fix_52 : decode cX11_fix 52 = .ok (.iconst (-1), 1) := by decide +kernel
theorem dX11_fix_53 : decode cX11_fix 53 = .ok (.ireturn, 1) := by decide +kernel
theorem dX11_fix_54 : decode cX11_fix 54 = .ok (.iconst 0, 1) := by decide +kernel
theorem dX11_fix_55 : decode cX11_fix 55 = .ok (.istore_n 3, 1) := by decide +kernel
theorem dX11_fix_56 : decode cX11_fix 56 = .ok (.iload_n 3, 1) := by decide +kernel
theorem dX11_fix_57 : decode cX11_fix 57 = .ok (.sipush 256, 3) := by decide +kernel
theorem dX11_fix_60 : decode cX11_fix 60 = .ok (.if_icmp .ge 36, 3) := by decide +kernel
theorem dX11_fix_63 : decode cX11_fix 63 = .ok (.aload_n 0, 1) := by decide +kernel
theorem dX11_fix_64 : decode cX11_fix 64 = .ok (.getfield 98, 3) := by decide +kernel
theorem dX11_fix_67 : decode cX11_fix 67 = .ok (.sipush 256, 3) := by decide +kernel
theorem dX11_fix_70 : decode cX11_fix 70 = .ok (.aload_n 0, 1) := by decide +kernel
theorem dX11_fix_71 : decode cX11_fix 71 = .ok (.getfield 418, 3) := by decide +kernel
theorem dX11_fix_74 : decode cX11_fix 74 = .ok (.imul, 1) := by decide +kernel
theorem dX11_fix_75 : decode cX11_fix 75 = .ok (.iload_n 3, 1) := by decide +kernel
theorem dX11_fix_76 : decode cX11_fix 76 = .ok (.iadd, 1) := by decide +kernel
theorem dX11_fix_77 : decode cX11_fix 77 = .ok (.iload_n 3, 1) := by decide +kernel
theorem dX11_fix_78 : decode cX11_fix 78 = .ok (.iload_n 1, 1) := by decide +kernel
theorem dX11_fix_79 : decode cX11_fix 79 = .ok (.if_icmp .ne 7, 3) := by decide +kernel
theorem dX11_fix_82 : decode cX11_fix 82 = .ok (.iconst 0, 1) := by decide +kernel
theorem dX11_fix_83 : decode cX11_fix 83 = .ok (.goto 6, 3) := by decide +kernel
theorem dX11_fix_86 : decode cX11_fix 86 = .ok (.ldc_w 424, 3) := by decide +kernel
theorem dX11_fix_89 : decode cX11_fix 89 = .ok (.iastore, 1) := by decide +kernel
theorem dX11_fix_90 : decode cX11_fix 90 = .ok (.iinc 3 1, 3) := by decide +kernel
theorem dX11_fix_93 : decode cX11_fix 93 = .ok (.goto (-37), 3) := by decide +kernel
theorem dX11_fix_96 : decode cX11_fix 96 = .ok (.aload_n 0, 1) := by decide +kernel
theorem dX11_fix_97 : decode cX11_fix 97 = .ok (.getfield 418, 3) := by decide +kernel
theorem dX11_fix_100 : decode cX11_fix 100 = .ok (.iconst 1, 1) := by decide +kernel
theorem dX11_fix_101 : decode cX11_fix 101 = .ok (.isub, 1) := by decide +kernel
theorem dX11_fix_102 : decode cX11_fix 102 = .ok (.istore_n 3, 1) := by decide +kernel
theorem dX11_fix_103 : decode cX11_fix 103 = .ok (.iload_n 3, 1) := by decide +kernel
theorem dX11_fix_104 : decode cX11_fix 104 = .ok (.ifCond .lt 94, 3) := by decide +kernel
theorem dX11_fix_107 : decode cX11_fix 107 = .ok (.iconst 0, 1) := by decide +kernel
theorem dX11_fix_108 : decode cX11_fix 108 = .ok (.istore 4, 2) := by decide +kernel
theorem dX11_fix_110 : decode cX11_fix 110 = .ok (.iload 4, 2) := by decide +kernel
theorem dX11_fix_112 : decode cX11_fix 112 = .ok (.iload_n 1, 1) := by decide +kernel
theorem dX11_fix_113 : decode cX11_fix 113 = .ok (.if_icmp .gt 79, 3) := by decide +kernel
theorem dX11_fix_116 : decode cX11_fix 116 = .ok (.aload_n 0, 1) := by decide +kernel
theorem dX11_fix_117 : decode cX11_fix 117 = .ok (.getfield 98, 3) := by decide +kernel
theorem dX11_fix_120 : decode cX11_fix 120 = .ok (.sipush 256, 3) := by decide +kernel
theorem dX11_fix_123 : decode cX11_fix 123 = .ok (.iload_n 3, 1) := by decide +kernel
theorem dX11_fix_124 : decode cX11_fix 124 = .ok (.iconst 1, 1) := by decide +kernel
theorem dX11_fix_125 : decode cX11_fix 125 = .ok (.iadd, 1) := by decide +kernel
theorem dX11_fix_126 : decode cX11_fix 126 = .ok (.imul, 1) := by decide +kernel
theorem dX11_fix_127 : decode cX11_fix 127 = .ok (.iload 4, 2) := by decide +kernel
theorem dX11_fix_129 : decode cX11_fix 129 = .ok (.aload_n 0, 1) := by decide +kernel
theorem dX11_fix_130 : decode cX11_fix 130 = .ok (.getfield 95, 3) := by decide +kernel
theorem dX11_fix_133 : decode cX11_fix 133 = .ok (.iload_n 3, 1) := by decide +kernel
theorem dX11_fix_134 : decode cX11_fix 134 = .ok (.iaload, 1) := by decide +kernel
theorem dX11_fix_135 : decode cX11_fix 135 = .ok (.ior, 1) := by decide +kernel
theorem dX11_fix_136 : decode cX11_fix 136 = .ok (.iadd, 1) := by decide +kernel
theorem dX11_fix_137 : decode cX11_fix 137 = .ok (.iaload, 1) := by decide +kernel
theorem dX11_fix_138 : decode cX11_fix 138 = .ok (.iconst 1, 1) := by decide +kernel
theorem dX11_fix_139 : decode cX11_fix 139 = .ok (.iadd, 1) := by decide +kernel
theorem dX11_fix_140 : decode cX11_fix 140 = .ok (.istore 5, 2) := by decide +kernel
theorem dX11_fix_142 : decode cX11_fix 142 = .ok (.aload_n 0, 1) := by decide +kernel
theorem dX11_fix_143 : decode cX11_fix 143 = .ok (.getfield 98, 3) := by decide +kernel
theorem dX11_fix_146 : decode cX11_fix 146 = .ok (.sipush 256, 3) := by decide +kernel
theorem dX11_fix_149 : decode cX11_fix 149 = .ok (.iload_n 3, 1) := by decide +kernel
theorem dX11_fix_150 : decode cX11_fix 150 = .ok (.iconst 1, 1) := by decide +kernel
theorem dX11_fix_151 : decode cX11_fix 151 = .ok (.iadd, 1) := by decide +kernel
theorem dX11_fix_152 : decode cX11_fix 152 = .ok (.imul, 1) := by decide +kernel
theorem dX11_fix_153 : decode cX11_fix 153 = .ok (.iload 4, 2) := by decide +kernel
theorem dX11_fix_155 : decode cX11_fix 155 = .ok (.iadd, 1) := by decide +kernel
theorem dX11_fix_156 : decode cX11_fix 156 = .ok (.iaload, 1) := by decide +kernel
theorem dX11_fix_157 : decode cX11_fix 157 = .ok (.istore 6, 2) := by decide +kernel
theorem dX11_fix_159 : decode cX11_fix 159 = .ok (.aload_n 0, 1) := by decide +kernel
theorem dX11_fix_160 : decode cX11_fix 160 = .ok (.getfield 98, 3) := by decide +kernel
theorem dX11_fix_163 : decode cX11_fix 163 = .ok (.sipush 256, 3) := by decide +kernel
theorem dX11_fix_166 : decode cX11_fix 166 = .ok (.iload_n 3, 1) := by decide +kernel
theorem dX11_fix_167 : decode cX11_fix 167 = .ok (.imul, 1) := by decide +kernel
theorem dX11_fix_168 : decode cX11_fix 168 = .ok (.iload 4, 2) := by decide +kernel
theorem dX11_fix_170 : decode cX11_fix 170 = .ok (.iadd, 1) := by decide +kernel
theorem dX11_fix_171 : decode cX11_fix 171 = .ok (.iload 5, 2) := by decide +kernel
theorem dX11_fix_173 : decode cX11_fix 173 = .ok (.iload 6, 2) := by decide +kernel
theorem dX11_fix_175 : decode cX11_fix 175 = .ok (.if_icmp .ge 8, 3) := by decide +kernel
theorem dX11_fix_178 : decode cX11_fix 178 = .ok (.iload 5, 2) := by decide +kernel
theorem dX11_fix_180 : decode cX11_fix 180 = .ok (.goto 5, 3) := by decide +kernel
theorem dX11_fix_183 : decode cX11_fix 183 = .ok (.iload 6, 2) := by decide +kernel
theorem dX11_fix_185 : decode cX11_fix 185 = .ok (.iastore, 1) := by decide +kernel
theorem dX11_fix_186 : decode cX11_fix 186 = .ok (.iinc 4 1, 3) := by decide +kernel
theorem dX11_fix_189 : decode cX11_fix 189 = .ok (.goto (-79), 3) := by decide +kernel
theorem dX11_fix_192 : decode cX11_fix 192 = .ok (.iinc 3 (-1), 3) := by decide +kernel
theorem dX11_fix_195 : decode cX11_fix 195 = .ok (.goto (-92), 3) := by decide +kernel
theorem dX11_fix_198 : decode cX11_fix 198 = .ok (.aload_n 0, 1) := by decide +kernel
theorem dX11_fix_199 : decode cX11_fix 199 = .ok (.iconst 0, 1) := by decide +kernel
theorem dX11_fix_200 : decode cX11_fix 200 = .ok (.putfield 104, 3) := by decide +kernel
theorem dX11_fix_203 : decode cX11_fix 203 = .ok (.iconst 0, 1) := by decide +kernel
theorem dX11_fix_204 : decode cX11_fix 204 = .ok (.istore_n 3, 1) := by decide +kernel
theorem dX11_fix_205 : decode cX11_fix 205 = .ok (.iconst 0, 1) := by decide +kernel
theorem dX11_fix_206 : decode cX11_fix 206 = .ok (.istore 4, 2) := by decide +kernel
theorem dX11_fix_208 : decode cX11_fix 208 = .ok (.iload 4, 2) := by decide +kernel
theorem dX11_fix_210 : decode cX11_fix 210 = .ok (.aload_n 0, 1) := by decide +kernel
theorem dX11_fix_211 : decode cX11_fix 211 = .ok (.getfield 418, 3) := by decide +kernel
theorem dX11_fix_214 : decode cX11_fix 214 = .ok (.if_icmp .ge 94, 3) := by decide +kernel
theorem dX11_fix_217 : decode cX11_fix 217 = .ok (.iload_n 3, 1) := by decide +kernel
theorem dX11_fix_218 : decode cX11_fix 218 = .ok (.iload_n 1, 1) := by decide +kernel
theorem dX11_fix_219 : decode cX11_fix 219 = .ok (.if_icmp .eq 89, 3) := by decide +kernel
theorem dX11_fix_222 : decode cX11_fix 222 = .ok (.aload_n 0, 1) := by decide +kernel
theorem dX11_fix_223 : decode cX11_fix 223 = .ok (.getfield 98, 3) := by decide +kernel
theorem dX11_fix_226 : decode cX11_fix 226 = .ok (.sipush 256, 3) := by decide +kernel
theorem dX11_fix_229 : decode cX11_fix 229 = .ok (.iload 4, 2) := by decide +kernel
theorem dX11_fix_231 : decode cX11_fix 231 = .ok (.iconst 1, 1) := by decide +kernel
theorem dX11_fix_232 : decode cX11_fix 232 = .ok (.iadd, 1) := by decide +kernel
theorem dX11_fix_233 : decode cX11_fix 233 = .ok (.imul, 1) := by decide +kernel
theorem dX11_fix_234 : decode cX11_fix 234 = .ok (.iload_n 3, 1) := by decide +kernel
theorem dX11_fix_235 : decode cX11_fix 235 = .ok (.aload_n 0, 1) := by decide +kernel
theorem dX11_fix_236 : decode cX11_fix 236 = .ok (.getfield 95, 3) := by decide +kernel
theorem dX11_fix_239 : decode cX11_fix 239 = .ok (.iload 4, 2) := by decide +kernel
theorem dX11_fix_241 : decode cX11_fix 241 = .ok (.iaload, 1) := by decide +kernel
theorem dX11_fix_242 : decode cX11_fix 242 = .ok (.ior, 1) := by decide +kernel
theorem dX11_fix_243 : decode cX11_fix 243 = .ok (.iadd, 1) := by decide +kernel
theorem dX11_fix_244 : decode cX11_fix 244 = .ok (.iaload, 1) := by decide +kernel
theorem dX11_fix_245 : decode cX11_fix 245 = .ok (.iconst 1, 1) := by decide +kernel
theorem dX11_fix_246 : decode cX11_fix 246 = .ok (.iadd, 1) := by decide +kernel
theorem dX11_fix_247 : decode cX11_fix 247 = .ok (.aload_n 0, 1) := by decide +kernel
theorem dX11_fix_248 : decode cX11_fix 248 = .ok (.getfield 98, 3) := by decide +kernel
theorem dX11_fix_251 : decode cX11_fix 251 = .ok (.sipush 256, 3) := by decide +kernel
theorem dX11_fix_254 : decode cX11_fix 254 = .ok (.iload 4, 2) := by decide +kernel
theorem dX11_fix_256 : decode cX11_fix 256 = .ok (.imul, 1) := by decide +kernel
theorem dX11_fix_257 : decode cX11_fix 257 = .ok (.iload_n 3, 1) := by decide +kernel
theorem dX11_fix_258 : decode cX11_fix 258 = .ok (.iadd, 1) := by decide +kernel
theorem dX11_fix_259 : decode cX11_fix 259 = .ok (.iaload, 1) := by decide +kernel
theorem dX11_fix_260 : decode cX11_fix 260 = .ok (.if_icmp .le 6, 3) := by decide +kernel
theorem dX11_fix_263 : decode cX11_fix 263 = .ok (.goto 39, 3) := by decide +kernel
theorem dX11_fix_266 : decode cX11_fix 266 = .ok (.aload_n 0, 1) := by decide +kernel
theorem dX11_fix_267 : decode cX11_fix 267 = .ok (.getfield 101, 3) := by decide +kernel
theorem dX11_fix_270 : decode cX11_fix 270 = .ok (.aload_n 0, 1) := by decide +kernel
theorem dX11_fix_271 : decode cX11_fix 271 = .ok (.getfield 104, 3) := by decide +kernel
theorem dX11_fix_274 : decode cX11_fix 274 = .ok (.aload_n 0, 1) := by decide +kernel
theorem dX11_fix_275 : decode cX11_fix 275 = .ok (.getfield 92, 3) := by decide +kernel
theorem dX11_fix_278 : decode cX11_fix 278 = .ok (.iload 4, 2) := by decide +kernel
theorem dX11_fix_280 : decode cX11_fix 280 = .ok (.iaload, 1) := by decide +kernel
theorem dX11_fix_281 : decode cX11_fix 281 = .ok (.iastore, 1) := by decide +kernel
theorem dX11_fix_282 : decode cX11_fix 282 = .ok (.aload_n 0, 1) := by decide +kernel
theorem dX11_fix_283 : decode cX11_fix 283 = .ok (.dup, 1) := by decide +kernel
theorem dX11_fix_284 : decode cX11_fix 284 = .ok (.getfield 104, 3) := by decide +kernel
theorem dX11_fix_287 : decode cX11_fix 287 = .ok (.iconst 1, 1) := by decide +kernel
theorem dX11_fix_288 : decode cX11_fix 288 = .ok (.iadd, 1) := by decide +kernel
theorem dX11_fix_289 : decode cX11_fix 289 = .ok (.putfield 104, 3) := by decide +kernel
theorem dX11_fix_292 : decode cX11_fix 292 = .ok (.iload_n 3, 1) := by decide +kernel
theorem dX11_fix_293 : decode cX11_fix 293 = .ok (.aload_n 0, 1) := by decide +kernel
theorem dX11_fix_294 : decode cX11_fix 294 = .ok (.getfield 95, 3) := by decide +kernel
theorem dX11_fix_297 : decode cX11_fix 297 = .ok (.iload 4, 2) := by decide +kernel
theorem dX11_fix_299 : decode cX11_fix 299 = .ok (.iaload, 1) := by decide +kernel
theorem dX11_fix_300 : decode cX11_fix 300 = .ok (.ior, 1) := by decide +kernel
theorem dX11_fix_301 : decode cX11_fix 301 = .ok (.istore_n 3, 1) := by decide +kernel
theorem dX11_fix_302 : decode cX11_fix 302 = .ok (.iinc 4 1, 3) := by decide +kernel
theorem dX11_fix_305 : decode cX11_fix 305 = .ok (.goto (-97), 3) := by decide +kernel
theorem dX11_fix_308 : decode cX11_fix 308 = .ok (.aload_n 0, 1) := by decide +kernel
theorem dX11_fix_309 : decode cX11_fix 309 = .ok (.getfield 104, 3) := by decide +kernel
theorem dX11_fix_312 : decode cX11_fix 312 = .ok (.ireturn, 1) := by decide +kernel
theorem dX11_fixAt_0 : decode cX11_fixAt 0 = .ok (.aload_n 0, 1) := by decide +kernel
theorem dX11_fixAt_1 : decode cX11_fixAt 1 = .ok (.iconst 0, 1) := by decide +kernel
theorem dX11_fixAt_2 : decode cX11_fixAt 2 = .ok (.putfield 1, 3) := by decide +kernel
theorem dX11_fixAt_5 : decode cX11_fixAt 5 = .ok (.iload_n 1, 1) := by decide +kernel
theorem dX11_fixAt_6 : decode cX11_fixAt 6 = .ok (.iconst 0, 1) := by decide +kernel
theorem dX11_fixAt_7 : decode cX11_fixAt 7 = .ok (.aload_n 0, 1) := by decide +kernel
theorem dX11_fixAt_8 : decode cX11_fixAt 8 = .ok (.getfield 104, 3) := by decide +kernel
theorem dX11_fixAt_11 : decode cX11_fixAt 11 = .ok (.iconst 1, 1) := by decide +kernel
theorem dX11_fixAt_12 : decode cX11_fixAt 12 = .ok (.isub, 1) := by decide +kernel
theorem dX11_fixAt_13 : decode cX11_fixAt 13 = .ok (.invokestatic 175, 3) := by decide +kernel
theorem dX11_fixAt_16 : decode cX11_fixAt 16 = .ok (.ifCond .eq 12, 3) := by decide +kernel
theorem dX11_fixAt_19 : decode cX11_fixAt 19 = .ok (.aload_n 0, 1) := by decide +kernel
theorem dX11_fixAt_20 : decode cX11_fixAt 20 = .ok (.getfield 101, 3) := by decide +kernel
theorem dX11_fixAt_23 : decode cX11_fixAt 23 = .ok (.iload_n 1, 1) := by decide +kernel
theorem dX11_fixAt_24 : decode cX11_fixAt 24 = .ok (.iaload, 1) := by decide +kernel
theorem dX11_fixAt_25 : decode cX11_fixAt 25 = .ok (.goto 4, 3) := by decide +kernel
theorem dX11_fixAt_28 : decode cX11_fixAt 28 = .ok (.iconst (-1), 1) := by decide +kernel
theorem dX11_fixAt_29 : decode cX11_fixAt 29 = .ok (.ireturn, 1) := by decide +kernel
theorem dX11_image_0 : decode cX11_image 0 = .ok (.aload_n 0, 1) := by decide +kernel
theorem dX11_image_1 : decode cX11_image 1 = .ok (.iconst 0, 1) := by decide +kernel
theorem dX11_image_2 : decode cX11_image 2 = .ok (.putfield 1, 3) := by decide +kernel
theorem dX11_image_5 : decode cX11_image 5 = .ok (.iload_n 1, 1) := by decide +kernel
theorem dX11_image_6 : decode cX11_image 6 = .ok (.iconst 0, 1) := by decide +kernel
theorem dX11_image_7 : decode cX11_image 7 = .ok (.iconst 1, 1) := by decide +kernel
theorem dX11_image_8 : decode cX11_image 8 = .ok (.invokestatic 175, 3) := by decide +kernel
theorem dX11_image_11 : decode cX11_image 11 = .ok (.ifCond .ne 5, 3) := by decide +kernel
theorem dX11_image_14 : decode cX11_image 14 = .ok (.iconst 0, 1) := by decide +kernel
theorem dX11_image_15 : decode cX11_image 15 = .ok (.ireturn, 1) := by decide +kernel
theorem dX11_image_16 : decode cX11_image 16 = .ok (.iconst 0, 1) := by decide +kernel
theorem dX11_image_17 : decode cX11_image 17 = .ok (.istore_n 2, 1) := by decide +kernel
theorem dX11_image_18 : decode cX11_image 18 = .ok (.iload_n 2, 1) := by decide +kernel
theorem dX11_image_19 : decode cX11_image 19 = .ok (.bipush 82, 2) := by decide +kernel
theorem dX11_image_21 : decode cX11_image 21 = .ok (.if_icmp .ge 26, 3) := by decide +kernel
theorem dX11_image_24 : decode cX11_image 24 = .ok (.aload_n 0, 1) := by decide +kernel
theorem dX11_image_25 : decode cX11_image 25 = .ok (.getfield 107, 3) := by decide +kernel
theorem dX11_image_28 : decode cX11_image 28 = .ok (.bipush 82, 2) := by decide +kernel
theorem dX11_image_30 : decode cX11_image 30 = .ok (.iload_n 1, 1) := by decide +kernel
theorem dX11_image_31 : decode cX11_image 31 = .ok (.imul, 1) := by decide +kernel
theorem dX11_image_32 : decode cX11_image 32 = .ok (.iload_n 2, 1) := by decide +kernel
theorem dX11_image_33 : decode cX11_image 33 = .ok (.iadd, 1) := by decide +kernel
theorem dX11_image_34 : decode cX11_image 34 = .ok (.aload_n 0, 1) := by decide +kernel
theorem dX11_image_35 : decode cX11_image 35 = .ok (.getfield 33, 3) := by decide +kernel
theorem dX11_image_38 : decode cX11_image 38 = .ok (.iload_n 2, 1) := by decide +kernel
theorem dX11_image_39 : decode cX11_image 39 = .ok (.iaload, 1) := by decide +kernel
theorem dX11_image_40 : decode cX11_image 40 = .ok (.iastore, 1) := by decide +kernel
theorem dX11_image_41 : decode cX11_image 41 = .ok (.iinc 2 1, 3) := by decide +kernel
theorem dX11_image_44 : decode cX11_image 44 = .ok (.goto (-26), 3) := by decide +kernel
theorem dX11_image_47 : decode cX11_image 47 = .ok (.aload_n 0, 1) := by decide +kernel
theorem dX11_image_48 : decode cX11_image 48 = .ok (.getfield 110, 3) := by decide +kernel
theorem dX11_image_51 : decode cX11_image 51 = .ok (.iload_n 1, 1) := by decide +kernel
theorem dX11_image_52 : decode cX11_image 52 = .ok (.iconst 1, 1) := by decide +kernel
theorem dX11_image_53 : decode cX11_image 53 = .ok (.bastore, 1) := by decide +kernel
theorem dX11_image_54 : decode cX11_image 54 = .ok (.iconst 1, 1) := by decide +kernel
theorem dX11_image_55 : decode cX11_image 55 = .ok (.ireturn, 1) := by decide +kernel
theorem dX11_restore_0 : decode cX11_restore 0 = .ok (.aload_n 0, 1) := by decide +kernel
theorem dX11_restore_1 : decode cX11_restore 1 = .ok (.iconst 0, 1) := by decide +kernel
theorem dX11_restore_2 : decode cX11_restore 2 = .ok (.putfield 1, 3) := by decide +kernel
theorem dX11_restore_5 : decode cX11_restore 5 = .ok (.iload_n 1, 1) := by decide +kernel
theorem dX11_restore_6 : decode cX11_restore 6 = .ok (.iconst 0, 1) := by decide +kernel
theorem dX11_restore_7 : decode cX11_restore 7 = .ok (.iconst 1, 1) := by decide +kernel
theorem dX11_restore_8 : decode cX11_restore 8 = .ok (.invokestatic 175, 3) := by decide +kernel
theorem dX11_restore_11 : decode cX11_restore 11 = .ok (.ifCond .eq 12, 3) := by decide +kernel
theorem dX11_restore_14 : decode cX11_restore 14 = .ok (.aload_n 0, 1) := by decide +kernel
theorem dX11_restore_15 : decode cX11_restore 15 = .ok (.getfield 110, 3) := by decide +kernel
theorem dX11_restore_18 : decode cX11_restore 18 = .ok (.iload_n 1, 1) := by decide +kernel
theorem dX11_restore_19 : decode cX11_restore 19 = .ok (.baload, 1) := by decide +kernel
theorem dX11_restore_20 : decode cX11_restore 20 = .ok (.ifCond .ne 5, 3) := by decide +kernel
theorem dX11_restore_23 : decode cX11_restore 23 = .ok (.iconst 0, 1) := by decide +kernel
theorem dX11_restore_24 : decode cX11_restore 24 = .ok (.ireturn, 1) := by decide +kernel
theorem dX11_restore_25 : decode cX11_restore 25 = .ok (.iconst 0, 1) := by decide +kernel
theorem dX11_restore_26 : decode cX11_restore 26 = .ok (.istore_n 2, 1) := by decide +kernel
theorem dX11_restore_27 : decode cX11_restore 27 = .ok (.iload_n 2, 1) := by decide +kernel
theorem dX11_restore_28 : decode cX11_restore 28 = .ok (.bipush 82, 2) := by decide +kernel
theorem dX11_restore_30 : decode cX11_restore 30 = .ok (.if_icmp .ge 26, 3) := by decide +kernel
theorem dX11_restore_33 : decode cX11_restore 33 = .ok (.aload_n 0, 1) := by decide +kernel
theorem dX11_restore_34 : decode cX11_restore 34 = .ok (.getfield 33, 3) := by decide +kernel
theorem dX11_restore_37 : decode cX11_restore 37 = .ok (.iload_n 2, 1) := by decide +kernel
theorem dX11_restore_38 : decode cX11_restore 38 = .ok (.aload_n 0, 1) := by decide +kernel
theorem dX11_restore_39 : decode cX11_restore 39 = .ok (.getfield 107, 3) := by decide +kernel
theorem dX11_restore_42 : decode cX11_restore 42 = .ok (.bipush 82, 2) := by decide +kernel
theorem dX11_restore_44 : decode cX11_restore 44 = .ok (.iload_n 1, 1) := by decide +kernel
theorem dX11_restore_45 : decode cX11_restore 45 = .ok (.imul, 1) := by decide +kernel
theorem dX11_restore_46 : decode cX11_restore 46 = .ok (.iload_n 2, 1) := by decide +kernel
theorem dX11_restore_47 : decode cX11_restore 47 = .ok (.iadd, 1) := by decide +kernel
theorem dX11_restore_48 : decode cX11_restore 48 = .ok (.iaload, 1) := by decide +kernel
theorem dX11_restore_49 : decode cX11_restore 49 = .ok (.iastore, 1) := by decide +kernel
theorem dX11_restore_50 : decode cX11_restore 50 = .ok (.iinc 2 1, 3) := by decide +kernel
theorem dX11_restore_53 : decode cX11_restore 53 = .ok (.goto (-26), 3) := by decide +kernel
theorem dX11_restore_56 : decode cX11_restore 56 = .ok (.aload_n 0, 1) := by decide +kernel
theorem dX11_restore_57 : decode cX11_restore 57 = .ok (.invokevirtual 130, 3) := by decide +kernel
theorem dX11_restore_60 : decode cX11_restore 60 = .ok (.iconst 1, 1) := by decide +kernel
theorem dX11_restore_61 : decode cX11_restore 61 = .ok (.ireturn, 1) := by decide +kernel
theorem dX11_count_0 : decode cX11_count 0 = .ok (.aload_n 0, 1) := by decide +kernel
theorem dX11_count_1 : decode cX11_count 1 = .ok (.iconst 0, 1) := by decide +kernel
theorem dX11_count_2 : decode cX11_count 2 = .ok (.putfield 1, 3) := by decide +kernel
theorem dX11_count_5 : decode cX11_count 5 = .ok (.iload_n 1, 1) := by decide +kernel
theorem dX11_count_6 : decode cX11_count 6 = .ok (.tableswitch 107 0 8 #[50, 57, 62, 67, 74, 81, 88, 95, 102], 50) := by decide +kernel
theorem dX11_count_56 : decode cX11_count 56 = .ok (.aload_n 0, 1) := by decide +kernel
theorem dX11_count_57 : decode cX11_count 57 = .ok (.getfield 33, 3) := by decide +kernel
theorem dX11_count_60 : decode cX11_count 60 = .ok (.iconst 0, 1) := by decide +kernel
theorem dX11_count_61 : decode cX11_count 61 = .ok (.iaload, 1) := by decide +kernel
theorem dX11_count_62 : decode cX11_count 62 = .ok (.ireturn, 1) := by decide +kernel
theorem dX11_count_63 : decode cX11_count 63 = .ok (.aload_n 0, 1) := by decide +kernel
theorem dX11_count_64 : decode cX11_count 64 = .ok (.getfield 230, 3) := by decide +kernel
theorem dX11_count_67 : decode cX11_count 67 = .ok (.ireturn, 1) := by decide +kernel
theorem dX11_count_68 : decode cX11_count 68 = .ok (.aload_n 0, 1) := by decide +kernel
theorem dX11_count_69 : decode cX11_count 69 = .ok (.getfield 236, 3) := by decide +kernel
theorem dX11_count_72 : decode cX11_count 72 = .ok (.ireturn, 1) := by decide +kernel
theorem dX11_count_73 : decode cX11_count 73 = .ok (.aload_n 0, 1) := by decide +kernel
theorem dX11_count_74 : decode cX11_count 74 = .ok (.getfield 33, 3) := by decide +kernel
theorem dX11_count_77 : decode cX11_count 77 = .ok (.iconst 1, 1) := by decide +kernel
theorem dX11_count_78 : decode cX11_count 78 = .ok (.iaload, 1) := by decide +kernel
theorem dX11_count_79 : decode cX11_count 79 = .ok (.ireturn, 1) := by decide +kernel
theorem dX11_count_80 : decode cX11_count 80 = .ok (.aload_n 0, 1) := by decide +kernel
theorem dX11_count_81 : decode cX11_count 81 = .ok (.getfield 33, 3) := by decide +kernel
theorem dX11_count_84 : decode cX11_count 84 = .ok (.iconst 2, 1) := by decide +kernel
theorem dX11_count_85 : decode cX11_count 85 = .ok (.iaload, 1) := by decide +kernel
theorem dX11_count_86 : decode cX11_count 86 = .ok (.ireturn, 1) := by decide +kernel
theorem dX11_count_87 : decode cX11_count 87 = .ok (.aload_n 0, 1) := by decide +kernel
theorem dX11_count_88 : decode cX11_count 88 = .ok (.getfield 33, 3) := by decide +kernel
theorem dX11_count_91 : decode cX11_count 91 = .ok (.iconst 3, 1) := by decide +kernel
theorem dX11_count_92 : decode cX11_count 92 = .ok (.iaload, 1) := by decide +kernel
theorem dX11_count_93 : decode cX11_count 93 = .ok (.ireturn, 1) := by decide +kernel
theorem dX11_count_94 : decode cX11_count 94 = .ok (.aload_n 0, 1) := by decide +kernel
theorem dX11_count_95 : decode cX11_count 95 = .ok (.getfield 33, 3) := by decide +kernel
theorem dX11_count_98 : decode cX11_count 98 = .ok (.iconst 4, 1) := by decide +kernel
theorem dX11_count_99 : decode cX11_count 99 = .ok (.iaload, 1) := by decide +kernel
theorem dX11_count_100 : decode cX11_count 100 = .ok (.ireturn, 1) := by decide +kernel
theorem dX11_count_101 : decode cX11_count 101 = .ok (.aload_n 0, 1) := by decide +kernel
theorem dX11_count_102 : decode cX11_count 102 = .ok (.getfield 33, 3) := by decide +kernel
theorem dX11_count_105 : decode cX11_count 105 = .ok (.iconst 5, 1) := by decide +kernel
theorem dX11_count_106 : decode cX11_count 106 = .ok (.iaload, 1) := by decide +kernel
theorem dX11_count_107 : decode cX11_count 107 = .ok (.ireturn, 1) := by decide +kernel
theorem dX11_count_108 : decode cX11_count 108 = .ok (.aload_n 0, 1) := by decide +kernel
theorem dX11_count_109 : decode cX11_count 109 = .ok (.getfield 7, 3) := by decide +kernel
theorem dX11_count_112 : decode cX11_count 112 = .ok (.ireturn, 1) := by decide +kernel
theorem dX11_count_113 : decode cX11_count 113 = .ok (.iconst (-1), 1) := by decide +kernel
theorem dX11_count_114 : decode cX11_count 114 = .ok (.ireturn, 1) := by decide +kernel
theorem dJ6_numberOfTrailingZeros_0f7a4_0 : decode cJ6_numberOfTrailingZeros_0f7a4 0 = .ok (.iload_n 0, 1) := by decide +kernel
theorem dJ6_numberOfTrailingZeros_0f7a4_1 : decode cJ6_numberOfTrailingZeros_0f7a4 1 = .ok (.iconst (-1), 1) := by decide +kernel
theorem dJ6_numberOfTrailingZeros_0f7a4_2 : decode cJ6_numberOfTrailingZeros_0f7a4 2 = .ok (.ixor, 1) := by decide +kernel
theorem dJ6_numberOfTrailingZeros_0f7a4_3 : decode cJ6_numberOfTrailingZeros_0f7a4 3 = .ok (.iload_n 0, 1) := by decide +kernel
theorem dJ6_numberOfTrailingZeros_0f7a4_4 : decode cJ6_numberOfTrailingZeros_0f7a4 4 = .ok (.iconst 1, 1) := by decide +kernel
theorem dJ6_numberOfTrailingZeros_0f7a4_5 : decode cJ6_numberOfTrailingZeros_0f7a4 5 = .ok (.isub, 1) := by decide +kernel
theorem dJ6_numberOfTrailingZeros_0f7a4_6 : decode cJ6_numberOfTrailingZeros_0f7a4 6 = .ok (.iand, 1) := by decide +kernel
theorem dJ6_numberOfTrailingZeros_0f7a4_7 : decode cJ6_numberOfTrailingZeros_0f7a4 7 = .ok (.istore_n 0, 1) := by decide +kernel
theorem dJ6_numberOfTrailingZeros_0f7a4_8 : decode cJ6_numberOfTrailingZeros_0f7a4 8 = .ok (.iload_n 0, 1) := by decide +kernel
theorem dJ6_numberOfTrailingZeros_0f7a4_9 : decode cJ6_numberOfTrailingZeros_0f7a4 9 = .ok (.ifCond .gt 8, 3) := by decide +kernel
theorem dJ6_numberOfTrailingZeros_0f7a4_12 : decode cJ6_numberOfTrailingZeros_0f7a4 12 = .ok (.iload_n 0, 1) := by decide +kernel
theorem dJ6_numberOfTrailingZeros_0f7a4_13 : decode cJ6_numberOfTrailingZeros_0f7a4 13 = .ok (.bipush 32, 2) := by decide +kernel
theorem dJ6_numberOfTrailingZeros_0f7a4_15 : decode cJ6_numberOfTrailingZeros_0f7a4 15 = .ok (.iand, 1) := by decide +kernel
theorem dJ6_numberOfTrailingZeros_0f7a4_16 : decode cJ6_numberOfTrailingZeros_0f7a4 16 = .ok (.ireturn, 1) := by decide +kernel
theorem dJ6_numberOfTrailingZeros_0f7a4_17 : decode cJ6_numberOfTrailingZeros_0f7a4 17 = .ok (.iconst 1, 1) := by decide +kernel
theorem dJ6_numberOfTrailingZeros_0f7a4_18 : decode cJ6_numberOfTrailingZeros_0f7a4 18 = .ok (.istore_n 1, 1) := by decide +kernel
theorem dJ6_numberOfTrailingZeros_0f7a4_19 : decode cJ6_numberOfTrailingZeros_0f7a4 19 = .ok (.iload_n 0, 1) := by decide +kernel
theorem dJ6_numberOfTrailingZeros_0f7a4_20 : decode cJ6_numberOfTrailingZeros_0f7a4 20 = .ok (.ldc_w 264, 3) := by decide +kernel
theorem dJ6_numberOfTrailingZeros_0f7a4_23 : decode cJ6_numberOfTrailingZeros_0f7a4 23 = .ok (.if_icmp .le 11, 3) := by decide +kernel
theorem dJ6_numberOfTrailingZeros_0f7a4_26 : decode cJ6_numberOfTrailingZeros_0f7a4 26 = .ok (.iinc 1 16, 3) := by decide +kernel
theorem dJ6_numberOfTrailingZeros_0f7a4_29 : decode cJ6_numberOfTrailingZeros_0f7a4 29 = .ok (.iload_n 0, 1) := by decide +kernel
theorem dJ6_numberOfTrailingZeros_0f7a4_30 : decode cJ6_numberOfTrailingZeros_0f7a4 30 = .ok (.bipush 16, 2) := by decide +kernel
theorem dJ6_numberOfTrailingZeros_0f7a4_32 : decode cJ6_numberOfTrailingZeros_0f7a4 32 = .ok (.iushr, 1) := by decide +kernel
theorem dJ6_numberOfTrailingZeros_0f7a4_33 : decode cJ6_numberOfTrailingZeros_0f7a4 33 = .ok (.istore_n 0, 1) := by decide +kernel
theorem dJ6_numberOfTrailingZeros_0f7a4_34 : decode cJ6_numberOfTrailingZeros_0f7a4 34 = .ok (.iload_n 0, 1) := by decide +kernel
theorem dJ6_numberOfTrailingZeros_0f7a4_35 : decode cJ6_numberOfTrailingZeros_0f7a4 35 = .ok (.sipush 256, 3) := by decide +kernel
theorem dJ6_numberOfTrailingZeros_0f7a4_38 : decode cJ6_numberOfTrailingZeros_0f7a4 38 = .ok (.if_icmp .le 11, 3) := by decide +kernel
theorem dJ6_numberOfTrailingZeros_0f7a4_41 : decode cJ6_numberOfTrailingZeros_0f7a4 41 = .ok (.iinc 1 8, 3) := by decide +kernel
theorem dJ6_numberOfTrailingZeros_0f7a4_44 : decode cJ6_numberOfTrailingZeros_0f7a4 44 = .ok (.iload_n 0, 1) := by decide +kernel
theorem dJ6_numberOfTrailingZeros_0f7a4_45 : decode cJ6_numberOfTrailingZeros_0f7a4 45 = .ok (.bipush 8, 2) := by decide +kernel
theorem dJ6_numberOfTrailingZeros_0f7a4_47 : decode cJ6_numberOfTrailingZeros_0f7a4 47 = .ok (.iushr, 1) := by decide +kernel
theorem dJ6_numberOfTrailingZeros_0f7a4_48 : decode cJ6_numberOfTrailingZeros_0f7a4 48 = .ok (.istore_n 0, 1) := by decide +kernel
theorem dJ6_numberOfTrailingZeros_0f7a4_49 : decode cJ6_numberOfTrailingZeros_0f7a4 49 = .ok (.iload_n 0, 1) := by decide +kernel
theorem dJ6_numberOfTrailingZeros_0f7a4_50 : decode cJ6_numberOfTrailingZeros_0f7a4 50 = .ok (.bipush 16, 2) := by decide +kernel
theorem dJ6_numberOfTrailingZeros_0f7a4_52 : decode cJ6_numberOfTrailingZeros_0f7a4 52 = .ok (.if_icmp .le 10, 3) := by decide +kernel
theorem dJ6_numberOfTrailingZeros_0f7a4_55 : decode cJ6_numberOfTrailingZeros_0f7a4 55 = .ok (.iinc 1 4, 3) := by decide +kernel
theorem dJ6_numberOfTrailingZeros_0f7a4_58 : decode cJ6_numberOfTrailingZeros_0f7a4 58 = .ok (.iload_n 0, 1) := by decide +kernel
theorem dJ6_numberOfTrailingZeros_0f7a4_59 : decode cJ6_numberOfTrailingZeros_0f7a4 59 = .ok (.iconst 4, 1) := by decide +kernel
theorem dJ6_numberOfTrailingZeros_0f7a4_60 : decode cJ6_numberOfTrailingZeros_0f7a4 60 = .ok (.iushr, 1) := by decide +kernel
theorem dJ6_numberOfTrailingZeros_0f7a4_61 : decode cJ6_numberOfTrailingZeros_0f7a4 61 = .ok (.istore_n 0, 1) := by decide +kernel
theorem dJ6_numberOfTrailingZeros_0f7a4_62 : decode cJ6_numberOfTrailingZeros_0f7a4 62 = .ok (.iload_n 0, 1) := by decide +kernel
theorem dJ6_numberOfTrailingZeros_0f7a4_63 : decode cJ6_numberOfTrailingZeros_0f7a4 63 = .ok (.iconst 4, 1) := by decide +kernel
theorem dJ6_numberOfTrailingZeros_0f7a4_64 : decode cJ6_numberOfTrailingZeros_0f7a4 64 = .ok (.if_icmp .le 10, 3) := by decide +kernel
theorem dJ6_numberOfTrailingZeros_0f7a4_67 : decode cJ6_numberOfTrailingZeros_0f7a4 67 = .ok (.iinc 1 2, 3) := by decide +kernel
theorem dJ6_numberOfTrailingZeros_0f7a4_70 : decode cJ6_numberOfTrailingZeros_0f7a4 70 = .ok (.iload_n 0, 1) := by decide +kernel
theorem dJ6_numberOfTrailingZeros_0f7a4_71 : decode cJ6_numberOfTrailingZeros_0f7a4 71 = .ok (.iconst 2, 1) := by decide +kernel
theorem dJ6_numberOfTrailingZeros_0f7a4_72 : decode cJ6_numberOfTrailingZeros_0f7a4 72 = .ok (.iushr, 1) := by decide +kernel
theorem dJ6_numberOfTrailingZeros_0f7a4_73 : decode cJ6_numberOfTrailingZeros_0f7a4 73 = .ok (.istore_n 0, 1) := by decide +kernel
theorem dJ6_numberOfTrailingZeros_0f7a4_74 : decode cJ6_numberOfTrailingZeros_0f7a4 74 = .ok (.iload_n 1, 1) := by decide +kernel
theorem dJ6_numberOfTrailingZeros_0f7a4_75 : decode cJ6_numberOfTrailingZeros_0f7a4 75 = .ok (.iload_n 0, 1) := by decide +kernel
theorem dJ6_numberOfTrailingZeros_0f7a4_76 : decode cJ6_numberOfTrailingZeros_0f7a4 76 = .ok (.iconst 1, 1) := by decide +kernel
theorem dJ6_numberOfTrailingZeros_0f7a4_77 : decode cJ6_numberOfTrailingZeros_0f7a4 77 = .ok (.iushr, 1) := by decide +kernel
theorem dJ6_numberOfTrailingZeros_0f7a4_78 : decode cJ6_numberOfTrailingZeros_0f7a4 78 = .ok (.iadd, 1) := by decide +kernel
theorem dJ6_numberOfTrailingZeros_0f7a4_79 : decode cJ6_numberOfTrailingZeros_0f7a4 79 = .ok (.ireturn, 1) := by decide +kernel
theorem dJ6_bitCount_0f7a4_0 : decode cJ6_bitCount_0f7a4 0 = .ok (.iload_n 0, 1) := by decide +kernel
theorem dJ6_bitCount_0f7a4_1 : decode cJ6_bitCount_0f7a4 1 = .ok (.iload_n 0, 1) := by decide +kernel
theorem dJ6_bitCount_0f7a4_2 : decode cJ6_bitCount_0f7a4 2 = .ok (.iconst 1, 1) := by decide +kernel
theorem dJ6_bitCount_0f7a4_3 : decode cJ6_bitCount_0f7a4 3 = .ok (.iushr, 1) := by decide +kernel
theorem dJ6_bitCount_0f7a4_4 : decode cJ6_bitCount_0f7a4 4 = .ok (.ldc_w 265, 3) := by decide +kernel
theorem dJ6_bitCount_0f7a4_7 : decode cJ6_bitCount_0f7a4 7 = .ok (.iand, 1) := by decide +kernel
theorem dJ6_bitCount_0f7a4_8 : decode cJ6_bitCount_0f7a4 8 = .ok (.isub, 1) := by decide +kernel
theorem dJ6_bitCount_0f7a4_9 : decode cJ6_bitCount_0f7a4 9 = .ok (.istore_n 0, 1) := by decide +kernel
theorem dJ6_bitCount_0f7a4_10 : decode cJ6_bitCount_0f7a4 10 = .ok (.iload_n 0, 1) := by decide +kernel
theorem dJ6_bitCount_0f7a4_11 : decode cJ6_bitCount_0f7a4 11 = .ok (.ldc_w 266, 3) := by decide +kernel
theorem dJ6_bitCount_0f7a4_14 : decode cJ6_bitCount_0f7a4 14 = .ok (.iand, 1) := by decide +kernel
theorem dJ6_bitCount_0f7a4_15 : decode cJ6_bitCount_0f7a4 15 = .ok (.iload_n 0, 1) := by decide +kernel
theorem dJ6_bitCount_0f7a4_16 : decode cJ6_bitCount_0f7a4 16 = .ok (.iconst 2, 1) := by decide +kernel
theorem dJ6_bitCount_0f7a4_17 : decode cJ6_bitCount_0f7a4 17 = .ok (.iushr, 1) := by decide +kernel
theorem dJ6_bitCount_0f7a4_18 : decode cJ6_bitCount_0f7a4 18 = .ok (.ldc_w 266, 3) := by decide +kernel
theorem dJ6_bitCount_0f7a4_21 : decode cJ6_bitCount_0f7a4 21 = .ok (.iand, 1) := by decide +kernel
theorem dJ6_bitCount_0f7a4_22 : decode cJ6_bitCount_0f7a4 22 = .ok (.iadd, 1) := by decide +kernel
theorem dJ6_bitCount_0f7a4_23 : decode cJ6_bitCount_0f7a4 23 = .ok (.istore_n 0, 1) := by decide +kernel
theorem dJ6_bitCount_0f7a4_24 : decode cJ6_bitCount_0f7a4 24 = .ok (.iload_n 0, 1) := by decide +kernel
theorem dJ6_bitCount_0f7a4_25 : decode cJ6_bitCount_0f7a4 25 = .ok (.iload_n 0, 1) := by decide +kernel
theorem dJ6_bitCount_0f7a4_26 : decode cJ6_bitCount_0f7a4 26 = .ok (.iconst 4, 1) := by decide +kernel
theorem dJ6_bitCount_0f7a4_27 : decode cJ6_bitCount_0f7a4 27 = .ok (.iushr, 1) := by decide +kernel
theorem dJ6_bitCount_0f7a4_28 : decode cJ6_bitCount_0f7a4 28 = .ok (.iadd, 1) := by decide +kernel
theorem dJ6_bitCount_0f7a4_29 : decode cJ6_bitCount_0f7a4 29 = .ok (.ldc_w 267, 3) := by decide +kernel
theorem dJ6_bitCount_0f7a4_32 : decode cJ6_bitCount_0f7a4 32 = .ok (.iand, 1) := by decide +kernel
theorem dJ6_bitCount_0f7a4_33 : decode cJ6_bitCount_0f7a4 33 = .ok (.istore_n 0, 1) := by decide +kernel
theorem dJ6_bitCount_0f7a4_34 : decode cJ6_bitCount_0f7a4 34 = .ok (.iload_n 0, 1) := by decide +kernel
theorem dJ6_bitCount_0f7a4_35 : decode cJ6_bitCount_0f7a4 35 = .ok (.iload_n 0, 1) := by decide +kernel
theorem dJ6_bitCount_0f7a4_36 : decode cJ6_bitCount_0f7a4 36 = .ok (.bipush 8, 2) := by decide +kernel
theorem dJ6_bitCount_0f7a4_38 : decode cJ6_bitCount_0f7a4 38 = .ok (.iushr, 1) := by decide +kernel
theorem dJ6_bitCount_0f7a4_39 : decode cJ6_bitCount_0f7a4 39 = .ok (.iadd, 1) := by decide +kernel
theorem dJ6_bitCount_0f7a4_40 : decode cJ6_bitCount_0f7a4 40 = .ok (.istore_n 0, 1) := by decide +kernel
theorem dJ6_bitCount_0f7a4_41 : decode cJ6_bitCount_0f7a4 41 = .ok (.iload_n 0, 1) := by decide +kernel
theorem dJ6_bitCount_0f7a4_42 : decode cJ6_bitCount_0f7a4 42 = .ok (.iload_n 0, 1) := by decide +kernel
theorem dJ6_bitCount_0f7a4_43 : decode cJ6_bitCount_0f7a4 43 = .ok (.bipush 16, 2) := by decide +kernel
theorem dJ6_bitCount_0f7a4_45 : decode cJ6_bitCount_0f7a4 45 = .ok (.iushr, 1) := by decide +kernel
theorem dJ6_bitCount_0f7a4_46 : decode cJ6_bitCount_0f7a4 46 = .ok (.iadd, 1) := by decide +kernel
theorem dJ6_bitCount_0f7a4_47 : decode cJ6_bitCount_0f7a4 47 = .ok (.istore_n 0, 1) := by decide +kernel
theorem dJ6_bitCount_0f7a4_48 : decode cJ6_bitCount_0f7a4 48 = .ok (.iload_n 0, 1) := by decide +kernel
theorem dJ6_bitCount_0f7a4_49 : decode cJ6_bitCount_0f7a4 49 = .ok (.bipush 63, 2) := by decide +kernel
theorem dJ6_bitCount_0f7a4_51 : decode cJ6_bitCount_0f7a4 51 = .ok (.iand, 1) := by decide +kernel
theorem dJ6_bitCount_0f7a4_52 : decode cJ6_bitCount_0f7a4 52 = .ok (.ireturn, 1) := by decide +kernel
theorem dJ13_bitCount_95d88_0 : decode cJ13_bitCount_95d88 0 = .ok (.lload_n 0, 1) := by decide +kernel
theorem dJ13_bitCount_95d88_1 : decode cJ13_bitCount_95d88 1 = .ok (.lload_n 0, 1) := by decide +kernel
theorem dJ13_bitCount_95d88_2 : decode cJ13_bitCount_95d88 2 = .ok (.iconst 1, 1) := by decide +kernel
theorem dJ13_bitCount_95d88_3 : decode cJ13_bitCount_95d88 3 = .ok (.lushr, 1) := by decide +kernel
theorem dJ13_bitCount_95d88_4 : decode cJ13_bitCount_95d88 4 = .ok (.ldc2_w 314, 3) := by decide +kernel
theorem dJ13_bitCount_95d88_7 : decode cJ13_bitCount_95d88 7 = .ok (.land, 1) := by decide +kernel
theorem dJ13_bitCount_95d88_8 : decode cJ13_bitCount_95d88 8 = .ok (.lsub, 1) := by decide +kernel
theorem dJ13_bitCount_95d88_9 : decode cJ13_bitCount_95d88 9 = .ok (.lstore_n 0, 1) := by decide +kernel
theorem dJ13_bitCount_95d88_10 : decode cJ13_bitCount_95d88 10 = .ok (.lload_n 0, 1) := by decide +kernel
theorem dJ13_bitCount_95d88_11 : decode cJ13_bitCount_95d88 11 = .ok (.ldc2_w 316, 3) := by decide +kernel
theorem dJ13_bitCount_95d88_14 : decode cJ13_bitCount_95d88 14 = .ok (.land, 1) := by decide +kernel
theorem dJ13_bitCount_95d88_15 : decode cJ13_bitCount_95d88 15 = .ok (.lload_n 0, 1) := by decide +kernel
theorem dJ13_bitCount_95d88_16 : decode cJ13_bitCount_95d88 16 = .ok (.iconst 2, 1) := by decide +kernel
theorem dJ13_bitCount_95d88_17 : decode cJ13_bitCount_95d88 17 = .ok (.lushr, 1) := by decide +kernel
theorem dJ13_bitCount_95d88_18 : decode cJ13_bitCount_95d88 18 = .ok (.ldc2_w 316, 3) := by decide +kernel
theorem dJ13_bitCount_95d88_21 : decode cJ13_bitCount_95d88 21 = .ok (.land, 1) := by decide +kernel
theorem dJ13_bitCount_95d88_22 : decode cJ13_bitCount_95d88 22 = .ok (.ladd, 1) := by decide +kernel
theorem dJ13_bitCount_95d88_23 : decode cJ13_bitCount_95d88 23 = .ok (.lstore_n 0, 1) := by decide +kernel
theorem dJ13_bitCount_95d88_24 : decode cJ13_bitCount_95d88 24 = .ok (.lload_n 0, 1) := by decide +kernel
theorem dJ13_bitCount_95d88_25 : decode cJ13_bitCount_95d88 25 = .ok (.lload_n 0, 1) := by decide +kernel
theorem dJ13_bitCount_95d88_26 : decode cJ13_bitCount_95d88 26 = .ok (.iconst 4, 1) := by decide +kernel
theorem dJ13_bitCount_95d88_27 : decode cJ13_bitCount_95d88 27 = .ok (.lushr, 1) := by decide +kernel
theorem dJ13_bitCount_95d88_28 : decode cJ13_bitCount_95d88 28 = .ok (.ladd, 1) := by decide +kernel
theorem dJ13_bitCount_95d88_29 : decode cJ13_bitCount_95d88 29 = .ok (.ldc2_w 318, 3) := by decide +kernel
theorem dJ13_bitCount_95d88_32 : decode cJ13_bitCount_95d88 32 = .ok (.land, 1) := by decide +kernel
theorem dJ13_bitCount_95d88_33 : decode cJ13_bitCount_95d88 33 = .ok (.lstore_n 0, 1) := by decide +kernel
theorem dJ13_bitCount_95d88_34 : decode cJ13_bitCount_95d88 34 = .ok (.lload_n 0, 1) := by decide +kernel
theorem dJ13_bitCount_95d88_35 : decode cJ13_bitCount_95d88 35 = .ok (.lload_n 0, 1) := by decide +kernel
theorem dJ13_bitCount_95d88_36 : decode cJ13_bitCount_95d88 36 = .ok (.bipush 8, 2) := by decide +kernel
theorem dJ13_bitCount_95d88_38 : decode cJ13_bitCount_95d88 38 = .ok (.lushr, 1) := by decide +kernel
theorem dJ13_bitCount_95d88_39 : decode cJ13_bitCount_95d88 39 = .ok (.ladd, 1) := by decide +kernel
theorem dJ13_bitCount_95d88_40 : decode cJ13_bitCount_95d88 40 = .ok (.lstore_n 0, 1) := by decide +kernel
theorem dJ13_bitCount_95d88_41 : decode cJ13_bitCount_95d88 41 = .ok (.lload_n 0, 1) := by decide +kernel
theorem dJ13_bitCount_95d88_42 : decode cJ13_bitCount_95d88 42 = .ok (.lload_n 0, 1) := by decide +kernel
theorem dJ13_bitCount_95d88_43 : decode cJ13_bitCount_95d88 43 = .ok (.bipush 16, 2) := by decide +kernel
theorem dJ13_bitCount_95d88_45 : decode cJ13_bitCount_95d88 45 = .ok (.lushr, 1) := by decide +kernel
theorem dJ13_bitCount_95d88_46 : decode cJ13_bitCount_95d88 46 = .ok (.ladd, 1) := by decide +kernel
theorem dJ13_bitCount_95d88_47 : decode cJ13_bitCount_95d88 47 = .ok (.lstore_n 0, 1) := by decide +kernel
theorem dJ13_bitCount_95d88_48 : decode cJ13_bitCount_95d88 48 = .ok (.lload_n 0, 1) := by decide +kernel
theorem dJ13_bitCount_95d88_49 : decode cJ13_bitCount_95d88 49 = .ok (.lload_n 0, 1) := by decide +kernel
theorem dJ13_bitCount_95d88_50 : decode cJ13_bitCount_95d88 50 = .ok (.bipush 32, 2) := by decide +kernel
theorem dJ13_bitCount_95d88_52 : decode cJ13_bitCount_95d88 52 = .ok (.lushr, 1) := by decide +kernel
theorem dJ13_bitCount_95d88_53 : decode cJ13_bitCount_95d88 53 = .ok (.ladd, 1) := by decide +kernel
theorem dJ13_bitCount_95d88_54 : decode cJ13_bitCount_95d88 54 = .ok (.lstore_n 0, 1) := by decide +kernel
theorem dJ13_bitCount_95d88_55 : decode cJ13_bitCount_95d88 55 = .ok (.lload_n 0, 1) := by decide +kernel
theorem dJ13_bitCount_95d88_56 : decode cJ13_bitCount_95d88 56 = .ok (.l2i, 1) := by decide +kernel
theorem dJ13_bitCount_95d88_57 : decode cJ13_bitCount_95d88 57 = .ok (.bipush 127, 2) := by decide +kernel
theorem dJ13_bitCount_95d88_59 : decode cJ13_bitCount_95d88 59 = .ok (.iand, 1) := by decide +kernel
theorem dJ13_bitCount_95d88_60 : decode cJ13_bitCount_95d88 60 = .ok (.ireturn, 1) := by decide +kernel
theorem dJ9_abs_0f7a4_0 : decode cJ9_abs_0f7a4 0 = .ok (.iload_n 0, 1) := by decide +kernel
theorem dJ9_abs_0f7a4_1 : decode cJ9_abs_0f7a4 1 = .ok (.ifCond .ge 8, 3) := by decide +kernel
theorem dJ9_abs_0f7a4_4 : decode cJ9_abs_0f7a4 4 = .ok (.iload_n 0, 1) := by decide +kernel
theorem dJ9_abs_0f7a4_5 : decode cJ9_abs_0f7a4 5 = .ok (.ineg, 1) := by decide +kernel
theorem dJ9_abs_0f7a4_6 : decode cJ9_abs_0f7a4 6 = .ok (.goto 4, 3) := by decide +kernel
theorem dJ9_abs_0f7a4_9 : decode cJ9_abs_0f7a4 9 = .ok (.iload_n 0, 1) := by decide +kernel
theorem dJ9_abs_0f7a4_10 : decode cJ9_abs_0f7a4 10 = .ok (.ireturn, 1) := by decide +kernel
theorem dJ9_abs_067f4_0 : decode cJ9_abs_067f4 0 = .ok (.lload_n 0, 1) := by decide +kernel
theorem dJ9_abs_067f4_1 : decode cJ9_abs_067f4 1 = .ok (.lconst 0, 1) := by decide +kernel
theorem dJ9_abs_067f4_2 : decode cJ9_abs_067f4 2 = .ok (.lcmp, 1) := by decide +kernel
theorem dJ9_abs_067f4_3 : decode cJ9_abs_067f4 3 = .ok (.ifCond .ge 8, 3) := by decide +kernel
theorem dJ9_abs_067f4_6 : decode cJ9_abs_067f4 6 = .ok (.lload_n 0, 1) := by decide +kernel
theorem dJ9_abs_067f4_7 : decode cJ9_abs_067f4 7 = .ok (.lneg, 1) := by decide +kernel
theorem dJ9_abs_067f4_8 : decode cJ9_abs_067f4 8 = .ok (.goto 4, 3) := by decide +kernel
theorem dJ9_abs_067f4_11 : decode cJ9_abs_067f4 11 = .ok (.lload_n 0, 1) := by decide +kernel
theorem dJ9_abs_067f4_12 : decode cJ9_abs_067f4 12 = .ok (.lreturn, 1) := by decide +kernel
theorem dJ9_min_7cf53_0 : decode cJ9_min_7cf53 0 = .ok (.iload_n 0, 1) := by decide +kernel
theorem dJ9_min_7cf53_1 : decode cJ9_min_7cf53 1 = .ok (.iload_n 1, 1) := by decide +kernel
theorem dJ9_min_7cf53_2 : decode cJ9_min_7cf53 2 = .ok (.if_icmp .gt 7, 3) := by decide +kernel
theorem dJ9_min_7cf53_5 : decode cJ9_min_7cf53 5 = .ok (.iload_n 0, 1) := by decide +kernel
theorem dJ9_min_7cf53_6 : decode cJ9_min_7cf53 6 = .ok (.goto 4, 3) := by decide +kernel
theorem dJ9_min_7cf53_9 : decode cJ9_min_7cf53 9 = .ok (.iload_n 1, 1) := by decide +kernel
theorem dJ9_min_7cf53_10 : decode cJ9_min_7cf53 10 = .ok (.ireturn, 1) := by decide +kernel
theorem dL_hearer_0 : decode cL_hearer 0 = .ok (.aload_n 3, 1) := by decide +kernel
theorem dL_hearer_1 : decode cL_hearer 1 = .ok (.iconst 0, 1) := by decide +kernel
theorem dL_hearer_2 : decode cL_hearer 2 = .ok (.aload_n 0, 1) := by decide +kernel
theorem dL_hearer_3 : decode cL_hearer 3 = .ok (.iload_n 1, 1) := by decide +kernel
theorem dL_hearer_4 : decode cL_hearer 4 = .ok (.iload_n 2, 1) := by decide +kernel
theorem dL_hearer_5 : decode cL_hearer 5 = .ok (.invokevirtual 7, 3) := by decide +kernel
theorem dL_hearer_8 : decode cL_hearer 8 = .ok (.i2l, 1) := by decide +kernel
theorem dL_hearer_9 : decode cL_hearer 9 = .ok (.lastore, 1) := by decide +kernel
theorem dL_hearer_10 : decode cL_hearer 10 = .ok (.goto 7, 3) := by decide +kernel
theorem dL_hearer_13 : decode cL_hearer 13 = .ok (.astore 4, 2) := by decide +kernel
theorem dL_hearer_15 : decode cL_hearer 15 = .ok (.iconst 1, 1) := by decide +kernel
theorem dL_hearer_16 : decode cL_hearer 16 = .ok (.ireturn, 1) := by decide +kernel
theorem dL_hearer_17 : decode cL_hearer 17 = .ok (.iconst 0, 1) := by decide +kernel
theorem dL_hearer_18 : decode cL_hearer 18 = .ok (.ireturn, 1) := by decide +kernel
theorem dL_sender_0 : decode cL_sender 0 = .ok (.aload_n 3, 1) := by decide +kernel
theorem dL_sender_1 : decode cL_sender 1 = .ok (.iconst 0, 1) := by decide +kernel
theorem dL_sender_2 : decode cL_sender 2 = .ok (.aload_n 0, 1) := by decide +kernel
theorem dL_sender_3 : decode cL_sender 3 = .ok (.iload_n 1, 1) := by decide +kernel
theorem dL_sender_4 : decode cL_sender 4 = .ok (.iload_n 2, 1) := by decide +kernel
theorem dL_sender_5 : decode cL_sender 5 = .ok (.invokevirtual 15, 3) := by decide +kernel
theorem dL_sender_8 : decode cL_sender 8 = .ok (.i2l, 1) := by decide +kernel
theorem dL_sender_9 : decode cL_sender 9 = .ok (.lastore, 1) := by decide +kernel
theorem dL_sender_10 : decode cL_sender 10 = .ok (.goto 7, 3) := by decide +kernel
theorem dL_sender_13 : decode cL_sender 13 = .ok (.astore 4, 2) := by decide +kernel
theorem dL_sender_15 : decode cL_sender 15 = .ok (.iconst 1, 1) := by decide +kernel
theorem dL_sender_16 : decode cL_sender 16 = .ok (.ireturn, 1) := by decide +kernel
theorem dL_sender_17 : decode cL_sender 17 = .ok (.iconst 0, 1) := by decide +kernel
theorem dL_sender_18 : decode cL_sender 18 = .ok (.ireturn, 1) := by decide +kernel
theorem dL_cross_0 : decode cL_cross 0 = .ok (.aload 4, 2) := by decide +kernel
theorem dL_cross_2 : decode cL_cross 2 = .ok (.iconst 0, 1) := by decide +kernel
theorem dL_cross_3 : decode cL_cross 3 = .ok (.aload_n 0, 1) := by decide +kernel
theorem dL_cross_4 : decode cL_cross 4 = .ok (.iload_n 1, 1) := by decide +kernel
theorem dL_cross_5 : decode cL_cross 5 = .ok (.iload_n 2, 1) := by decide +kernel
theorem dL_cross_6 : decode cL_cross 6 = .ok (.iload_n 3, 1) := by decide +kernel
theorem dL_cross_7 : decode cL_cross 7 = .ok (.invokevirtual 18, 3) := by decide +kernel
theorem dL_cross_10 : decode cL_cross 10 = .ok (.lastore, 1) := by decide +kernel
theorem dL_cross_11 : decode cL_cross 11 = .ok (.goto 7, 3) := by decide +kernel
theorem dL_cross_14 : decode cL_cross 14 = .ok (.astore 5, 2) := by decide +kernel
theorem dL_cross_16 : decode cL_cross 16 = .ok (.iconst 1, 1) := by decide +kernel
theorem dL_cross_17 : decode cL_cross 17 = .ok (.ireturn, 1) := by decide +kernel
theorem dL_cross_18 : decode cL_cross 18 = .ok (.iconst 0, 1) := by decide +kernel
theorem dL_cross_19 : decode cL_cross 19 = .ok (.ireturn, 1) := by decide +kernel
theorem dL_law_0 : decode cL_law 0 = .ok (.new 8, 3) := by decide +kernel
theorem dL_law_3 : decode cL_law 3 = .ok (.dup, 1) := by decide +kernel
theorem dL_law_4 : decode cL_law 4 = .ok (.invokespecial 22, 3) := by decide +kernel
theorem dL_law_7 : decode cL_law 7 = .ok (.astore_n 1, 1) := by decide +kernel
theorem dL_law_8 : decode cL_law 8 = .ok (.new 23, 3) := by decide +kernel
theorem dL_law_11 : decode cL_law 11 = .ok (.dup, 1) := by decide +kernel
theorem dL_law_12 : decode cL_law 12 = .ok (.invokespecial 25, 3) := by decide +kernel
theorem dL_law_15 : decode cL_law 15 = .ok (.astore_n 2, 1) := by decide +kernel
theorem dL_law_16 : decode cL_law 16 = .ok (.iconst 1, 1) := by decide +kernel
theorem dL_law_17 : decode cL_law 17 = .ok (.newarray .long, 2) := by decide +kernel
theorem dL_law_19 : decode cL_law 19 = .ok (.astore_n 3, 1) := by decide +kernel
theorem dL_law_20 : decode cL_law 20 = .ok (.iconst 0, 1) := by decide +kernel
theorem dL_law_21 : decode cL_law 21 = .ok (.istore 4, 2) := by decide +kernel
theorem dL_law_23 : decode cL_law 23 = .ok (.iload 4, 2) := by decide +kernel
theorem dL_law_25 : decode cL_law 25 = .ok (.aload_n 0, 1) := by decide +kernel
theorem dL_law_26 : decode cL_law 26 = .ok (.arraylength, 1) := by decide +kernel
theorem dL_law_27 : decode cL_law 27 = .ok (.bipush 6, 2) := by decide +kernel
theorem dL_law_29 : decode cL_law 29 = .ok (.isub, 1) := by decide +kernel
theorem dL_law_30 : decode cL_law 30 = .ok (.if_icmp .gt 1358, 3) := by decide +kernel
theorem dL_law_33 : decode cL_law 33 = .ok (.aload_n 0, 1) := by decide +kernel
theorem dL_law_34 : decode cL_law 34 = .ok (.iload 4, 2) := by decide +kernel
theorem dL_law_36 : decode cL_law 36 = .ok (.iaload, 1) := by decide +kernel
theorem dL_law_37 : decode cL_law 37 = .ok (.bipush 63, 2) := by decide +kernel
theorem dL_law_39 : decode cL_law 39 = .ok (.iand, 1) := by decide +kernel
theorem dL_law_40 : decode cL_law 40 = .ok (.tableswitch 1342 0 41 #[184, 257, 282, 295, 308, 376, 444, 469, 506, 531, 568, 581, 595, 621, 646, 672, 697, 710, 735, 760, 785, 799, 824, 849, 874, 887, 912, 925, 950, 975, 1000, 1025, 1038, 1063, 1088, 1113, 1192, 1205, 1230, 1267, 1292, 1317], 184) := by decide +kernel
theorem dL_law_224 : decode cL_law 224 = .ok (.aload_n 1, 1) := by decide +kernel
theorem dL_law_225 : decode cL_law 225 = .ok (.aload_n 0, 1) := by decide +kernel
theorem dL_law_226 : decode cL_law 226 = .ok (.iload 4, 2) := by decide +kernel
theorem dL_law_228 : decode cL_law 228 = .ok (.iconst 1, 1) := by decide +kernel
theorem dL_law_229 : decode cL_law 229 = .ok (.iadd, 1) := by decide +kernel
theorem dL_law_230 : decode cL_law 230 = .ok (.iaload, 1) := by decide +kernel
theorem dL_law_231 : decode cL_law 231 = .ok (.aload_n 0, 1) := by decide +kernel
theorem dL_law_232 : decode cL_law 232 = .ok (.iload 4, 2) := by decide +kernel
theorem dL_law_234 : decode cL_law 234 = .ok (.iconst 2, 1) := by decide +kernel
theorem dL_law_235 : decode cL_law 235 = .ok (.iadd, 1) := by decide +kernel
theorem dL_law_236 : decode cL_law 236 = .ok (.iaload, 1) := by decide +kernel
theorem dL_law_237 : decode cL_law 237 = .ok (.aload_n 0, 1) := by decide +kernel
theorem dL_law_238 : decode cL_law 238 = .ok (.iload 4, 2) := by decide +kernel
theorem dL_law_240 : decode cL_law 240 = .ok (.iconst 3, 1) := by decide +kernel
theorem dL_law_241 : decode cL_law 241 = .ok (.iadd, 1) := by decide +kernel
theorem dL_law_242 : decode cL_law 242 = .ok (.iaload, 1) := by decide +kernel
theorem dL_law_243 : decode cL_law 243 = .ok (.aload_n 0, 1) := by decide +kernel
theorem dL_law_244 : decode cL_law 244 = .ok (.iload 4, 2) := by decide +kernel
theorem dL_law_246 : decode cL_law 246 = .ok (.iconst 4, 1) := by decide +kernel
theorem dL_law_247 : decode cL_law 247 = .ok (.iadd, 1) := by decide +kernel
theorem dL_law_248 : decode cL_law 248 = .ok (.iaload, 1) := by decide +kernel
theorem dL_law_249 : decode cL_law 249 = .ok (.aload_n 0, 1) := by decide +kernel
theorem dL_law_250 : decode cL_law 250 = .ok (.iload 4, 2) := by decide +kernel
theorem dL_law_252 : decode cL_law 252 = .ok (.iconst 5, 1) := by decide +kernel
theorem dL_law_253 : decode cL_law 253 = .ok (.iadd, 1) := by decide +kernel
theorem dL_law_254 : decode cL_law 254 = .ok (.iaload, 1) := by decide +kernel
theorem dL_law_255 : decode cL_law 255 = .ok (.invokevirtual 26, 3) := by decide +kernel
theorem dL_law_258 : decode cL_law 258 = .ok (.aload_n 2, 1) := by decide +kernel
theorem dL_law_259 : decode cL_law 259 = .ok (.aload_n 0, 1) := by decide +kernel
theorem dL_law_260 : decode cL_law 260 = .ok (.iload 4, 2) := by decide +kernel
theorem dL_law_262 : decode cL_law 262 = .ok (.iconst 1, 1) := by decide +kernel
theorem dL_law_263 : decode cL_law 263 = .ok (.iadd, 1) := by decide +kernel
theorem dL_law_264 : decode cL_law 264 = .ok (.iaload, 1) := by decide +kernel
theorem dL_law_265 : decode cL_law 265 = .ok (.aload_n 0, 1) := by decide +kernel
theorem dL_law_266 : decode cL_law 266 = .ok (.iload 4, 2) := by decide +kernel
theorem dL_law_268 : decode cL_law 268 = .ok (.iconst 2, 1) := by decide +kernel
theorem dL_law_269 : decode cL_law 269 = .ok (.iadd, 1) := by decide +kernel
theorem dL_law_270 : decode cL_law 270 = .ok (.iaload, 1) := by decide +kernel
theorem dL_law_271 : decode cL_law 271 = .ok (.aload_n 0, 1) := by decide +kernel
theorem dL_law_272 : decode cL_law 272 = .ok (.iload 4, 2) := by decide +kernel
theorem dL_law_274 : decode cL_law 274 = .ok (.iconst 3, 1) := by decide +kernel
theorem dL_law_275 : decode cL_law 275 = .ok (.iadd, 1) := by decide +kernel
theorem dL_law_276 : decode cL_law 276 = .ok (.iaload, 1) := by decide +kernel
theorem dL_law_277 : decode cL_law 277 = .ok (.aload_n 0, 1) := by decide +kernel
theorem dL_law_278 : decode cL_law 278 = .ok (.iload 4, 2) := by decide +kernel
theorem dL_law_280 : decode cL_law 280 = .ok (.iconst 4, 1) := by decide +kernel
theorem dL_law_281 : decode cL_law 281 = .ok (.iadd, 1) := by decide +kernel
theorem dL_law_282 : decode cL_law 282 = .ok (.iaload, 1) := by decide +kernel
theorem dL_law_283 : decode cL_law 283 = .ok (.aload_n 0, 1) := by decide +kernel
theorem dL_law_284 : decode cL_law 284 = .ok (.iload 4, 2) := by decide +kernel
theorem dL_law_286 : decode cL_law 286 = .ok (.iconst 5, 1) := by decide +kernel
theorem dL_law_287 : decode cL_law 287 = .ok (.iadd, 1) := by decide +kernel
theorem dL_law_288 : decode cL_law 288 = .ok (.iaload, 1) := by decide +kernel
theorem dL_law_289 : decode cL_law 289 = .ok (.invokevirtual 30, 3) := by decide +kernel
theorem dL_law_292 : decode cL_law 292 = .ok (.if_icmp .eq 1090, 3) := by decide +kernel
theorem dL_law_295 : decode cL_law 295 = .ok (.iconst 0, 1) := by decide +kernel
theorem dL_law_296 : decode cL_law 296 = .ok (.ireturn, 1) := by decide +kernel
theorem dL_law_297 : decode cL_law 297 = .ok (.aload_n 1, 1) := by decide +kernel
theorem dL_law_298 : decode cL_law 298 = .ok (.aload_n 0, 1) := by decide +kernel
theorem dL_law_299 : decode cL_law 299 = .ok (.iload 4, 2) := by decide +kernel
theorem dL_law_301 : decode cL_law 301 = .ok (.iconst 1, 1) := by decide +kernel
theorem dL_law_302 : decode cL_law 302 = .ok (.iadd, 1) := by decide +kernel
theorem dL_law_303 : decode cL_law 303 = .ok (.iaload, 1) := by decide +kernel
theorem dL_law_304 : decode cL_law 304 = .ok (.invokevirtual 31, 3) := by decide +kernel
theorem dL_law_307 : decode cL_law 307 = .ok (.aload_n 2, 1) := by decide +kernel
theorem dL_law_308 : decode cL_law 308 = .ok (.aload_n 0, 1) := by decide +kernel
theorem dL_law_309 : decode cL_law 309 = .ok (.iload 4, 2) := by decide +kernel
theorem dL_law_311 : decode cL_law 311 = .ok (.iconst 1, 1) := by decide +kernel
theorem dL_law_312 : decode cL_law 312 = .ok (.iadd, 1) := by decide +kernel
theorem dL_law_313 : decode cL_law 313 = .ok (.iaload, 1) := by decide +kernel
theorem dL_law_314 : decode cL_law 314 = .ok (.invokevirtual 35, 3) := by decide +kernel
theorem dL_law_317 : decode cL_law 317 = .ok (.if_icmp .eq 1065, 3) := by decide +kernel
theorem dL_law_320 : decode cL_law 320 = .ok (.iconst 0, 1) := by decide +kernel
theorem dL_law_321 : decode cL_law 321 = .ok (.ireturn, 1) := by decide +kernel
theorem dL_law_322 : decode cL_law 322 = .ok (.aload_n 1, 1) := by decide +kernel
theorem dL_law_323 : decode cL_law 323 = .ok (.invokevirtual 36, 3) := by decide +kernel
theorem dL_law_326 : decode cL_law 326 = .ok (.aload_n 2, 1) := by decide +kernel
theorem dL_law_327 : decode cL_law 327 = .ok (.invokevirtual 40, 3) := by decide +kernel
theorem dL_law_330 : decode cL_law 330 = .ok (.if_icmp .eq 1052, 3) := by decide +kernel
theorem dL_law_333 : decode cL_law 333 = .ok (.iconst 0, 1) := by decide +kernel
theorem dL_law_334 : decode cL_law 334 = .ok (.ireturn, 1) := by decide +kernel
theorem dL_law_335 : decode cL_law 335 = .ok (.aload_n 1, 1) := by decide +kernel
theorem dL_law_336 : decode cL_law 336 = .ok (.invokevirtual 41, 3) := by decide +kernel
theorem dL_law_339 : decode cL_law 339 = .ok (.aload_n 2, 1) := by decide +kernel
theorem dL_law_340 : decode cL_law 340 = .ok (.invokevirtual 44, 3) := by decide +kernel
theorem dL_law_343 : decode cL_law 343 = .ok (.if_icmp .eq 1039, 3) := by decide +kernel
theorem dL_law_346 : decode cL_law 346 = .ok (.iconst 0, 1) := by decide +kernel
theorem dL_law_347 : decode cL_law 347 = .ok (.ireturn, 1) := by decide +kernel
theorem dL_law_348 : decode cL_law 348 = .ok (.aload_n 1, 1) := by decide +kernel
theorem dL_law_349 : decode cL_law 349 = .ok (.aload_n 0, 1) := by decide +kernel
theorem dL_law_350 : decode cL_law 350 = .ok (.iload 4, 2) := by decide +kernel
theorem dL_law_352 : decode cL_law 352 = .ok (.iconst 1, 1) := by decide +kernel
theorem dL_law_353 : decode cL_law 353 = .ok (.iadd, 1) := by decide +kernel
theorem dL_law_354 : decode cL_law 354 = .ok (.iaload, 1) := by decide +kernel
theorem dL_law_355 : decode cL_law 355 = .ok (.aload_n 0, 1) := by decide +kernel
theorem dL_law_356 : decode cL_law 356 = .ok (.iload 4, 2) := by decide +kernel
theorem dL_law_358 : decode cL_law 358 = .ok (.iconst 2, 1) := by decide +kernel
theorem dL_law_359 : decode cL_law 359 = .ok (.iadd, 1) := by decide +kernel
theorem dL_law_360 : decode cL_law 360 = .ok (.iaload, 1) := by decide +kernel
theorem dL_law_361 : decode cL_law 361 = .ok (.aload_n 3, 1) := by decide +kernel
theorem dL_law_362 : decode cL_law 362 = .ok (.invokestatic 45, 3) := by decide +kernel
theorem dL_law_365 : decode cL_law 365 = .ok (.istore 5, 2) := by decide +kernel
theorem dL_law_367 : decode cL_law 367 = .ok (.aload_n 2, 1) := by decide +kernel
theorem dL_law_368 : decode cL_law 368 = .ok (.aload_n 0, 1) := by decide +kernel
theorem dL_law_369 : decode cL_law 369 = .ok (.iload 4, 2) := by decide +kernel
theorem dL_law_371 : decode cL_law 371 = .ok (.iconst 1, 1) := by decide +kernel
theorem dL_law_372 : decode cL_law 372 = .ok (.iadd, 1) := by decide +kernel
theorem dL_law_373 : decode cL_law 373 = .ok (.iaload, 1) := by decide +kernel
theorem dL_law_374 : decode cL_law 374 = .ok (.aload_n 0, 1) := by decide +kernel
theorem dL_law_375 : decode cL_law 375 = .ok (.iload 4, 2) := by decide +kernel
theorem dL_law_377 : decode cL_law 377 = .ok (.iconst 2, 1) := by decide +kernel
theorem dL_law_378 : decode cL_law 378 = .ok (.iadd, 1) := by decide +kernel
theorem dL_law_379 : decode cL_law 379 = .ok (.iaload, 1) := by decide +kernel
theorem dL_law_380 : decode cL_law 380 = .ok (.invokevirtual 50, 3) := by decide +kernel
theorem dL_law_383 : decode cL_law 383 = .ok (.istore 6, 2) := by decide +kernel
theorem dL_law_385 : decode cL_law 385 = .ok (.aload_n 2, 1) := by decide +kernel
theorem dL_law_386 : decode cL_law 386 = .ok (.invokevirtual 51, 3) := by decide +kernel
theorem dL_law_389 : decode cL_law 389 = .ok (.iload 5, 2) := by decide +kernel
theorem dL_law_391 : decode cL_law 391 = .ok (.if_icmp .eq 5, 3) := by decide +kernel
theorem dL_law_394 : decode cL_law 394 = .ok (.iconst 0, 1) := by decide +kernel
theorem dL_law_395 : decode cL_law 395 = .ok (.ireturn, 1) := by decide +kernel
theorem dL_law_396 : decode cL_law 396 = .ok (.iload 5, 2) := by decide +kernel
theorem dL_law_398 : decode cL_law 398 = .ok (.ifCond .ne 15, 3) := by decide +kernel
theorem dL_law_401 : decode cL_law 401 = .ok (.aload_n 3, 1) := by decide +kernel
theorem dL_law_402 : decode cL_law 402 = .ok (.iconst 0, 1) := by decide +kernel
theorem dL_law_403 : decode cL_law 403 = .ok (.laload, 1) := by decide +kernel
theorem dL_law_404 : decode cL_law 404 = .ok (.iload 6, 2) := by decide +kernel
theorem dL_law_406 : decode cL_law 406 = .ok (.i2l, 1) := by decide +kernel
theorem dL_law_407 : decode cL_law 407 = .ok (.lcmp, 1) := by decide +kernel
theorem dL_law_408 : decode cL_law 408 = .ok (.ifCond .eq 5, 3) := by decide +kernel
theorem dL_law_411 : decode cL_law 411 = .ok (.iconst 0, 1) := by decide +kernel
theorem dL_law_412 : decode cL_law 412 = .ok (.ireturn, 1) := by decide +kernel
theorem dL_law_413 : decode cL_law 413 = .ok (.goto 969, 3) := by decide +kernel
theorem dL_law_416 : decode cL_law 416 = .ok (.aload_n 1, 1) := by decide +kernel
theorem dL_law_417 : decode cL_law 417 = .ok (.aload_n 0, 1) := by decide +kernel
theorem dL_law_418 : decode cL_law 418 = .ok (.iload 4, 2) := by decide +kernel
theorem dL_law_420 : decode cL_law 420 = .ok (.iconst 1, 1) := by decide +kernel
theorem dL_law_421 : decode cL_law 421 = .ok (.iadd, 1) := by decide +kernel
theorem dL_law_422 : decode cL_law 422 = .ok (.iaload, 1) := by decide +kernel
theorem dL_law_423 : decode cL_law 423 = .ok (.aload_n 0, 1) := by decide +kernel
theorem dL_law_424 : decode cL_law 424 = .ok (.iload 4, 2) := by decide +kernel
theorem dL_law_426 : decode cL_law 426 = .ok (.iconst 2, 1) := by decide +kernel
theorem dL_law_427 : decode cL_law 427 = .ok (.iadd, 1) := by decide +kernel
theorem dL_law_428 : decode cL_law 428 = .ok (.iaload, 1) := by decide +kernel
theorem dL_law_429 : decode cL_law 429 = .ok (.aload_n 3, 1) := by decide +kernel
theorem dL_law_430 : decode cL_law 430 = .ok (.invokestatic 54, 3) := by decide +kernel
theorem dL_law_433 : decode cL_law 433 = .ok (.istore 5, 2) := by decide +kernel
theorem dL_law_435 : decode cL_law 435 = .ok (.aload_n 2, 1) := by decide +kernel
theorem dL_law_436 : decode cL_law 436 = .ok (.aload_n 0, 1) := by decide +kernel
theorem dL_law_437 : decode cL_law 437 = .ok (.iload 4, 2) := by decide +kernel
theorem dL_law_439 : decode cL_law 439 = .ok (.iconst 1, 1) := by decide +kernel
theorem dL_law_440 : decode cL_law 440 = .ok (.iadd, 1) := by decide +kernel
theorem dL_law_441 : decode cL_law 441 = .ok (.iaload, 1) := by decide +kernel
theorem dL_law_442 : decode cL_law 442 = .ok (.aload_n 0, 1) := by decide +kernel
theorem dL_law_443 : decode cL_law 443 = .ok (.iload 4, 2) := by decide +kernel
theorem dL_law_445 : decode cL_law 445 = .ok (.iconst 2, 1) := by decide +kernel
theorem dL_law_446 : decode cL_law 446 = .ok (.iadd, 1) := by decide +kernel
theorem dL_law_447 : decode cL_law 447 = .ok (.iaload, 1) := by decide +kernel
theorem dL_law_448 : decode cL_law 448 = .ok (.invokevirtual 56, 3) := by decide +kernel
theorem dL_law_451 : decode cL_law 451 = .ok (.istore 6, 2) := by decide +kernel
theorem dL_law_453 : decode cL_law 453 = .ok (.aload_n 2, 1) := by decide +kernel
theorem dL_law_454 : decode cL_law 454 = .ok (.invokevirtual 51, 3) := by decide +kernel
theorem dL_law_457 : decode cL_law 457 = .ok (.iload 5, 2) := by decide +kernel
theorem dL_law_459 : decode cL_law 459 = .ok (.if_icmp .eq 5, 3) := by decide +kernel
theorem dL_law_462 : decode cL_law 462 = .ok (.iconst 0, 1) := by decide +kernel
theorem dL_law_463 : decode cL_law 463 = .ok (.ireturn, 1) := by decide +kernel
theorem dL_law_464 : decode cL_law 464 = .ok (.iload 5, 2) := by decide +kernel
theorem dL_law_466 : decode cL_law 466 = .ok (.ifCond .ne 15, 3) := by decide +kernel
theorem dL_law_469 : decode cL_law 469 = .ok (.aload_n 3, 1) := by decide +kernel
theorem dL_law_470 : decode cL_law 470 = .ok (.iconst 0, 1) := by decide +kernel
theorem dL_law_471 : decode cL_law 471 = .ok (.laload, 1) := by decide +kernel
theorem dL_law_472 : decode cL_law 472 = .ok (.iload 6, 2) := by decide +kernel
theorem dL_law_474 : decode cL_law 474 = .ok (.i2l, 1) := by decide +kernel
theorem dL_law_475 : decode cL_law 475 = .ok (.lcmp, 1) := by decide +kernel
theorem dL_law_476 : decode cL_law 476 = .ok (.ifCond .eq 5, 3) := by decide +kernel
theorem dL_law_479 : decode cL_law 479 = .ok (.iconst 0, 1) := by decide +kernel
theorem dL_law_480 : decode cL_law 480 = .ok (.ireturn, 1) := by decide +kernel
theorem dL_law_481 : decode cL_law 481 = .ok (.goto 901, 3) := by decide +kernel
theorem dL_law_484 : decode cL_law 484 = .ok (.aload_n 1, 1) := by decide +kernel
theorem dL_law_485 : decode cL_law 485 = .ok (.aload_n 0, 1) := by decide +kernel
theorem dL_law_486 : decode cL_law 486 = .ok (.iload 4, 2) := by decide +kernel
theorem dL_law_488 : decode cL_law 488 = .ok (.iconst 1, 1) := by decide +kernel
theorem dL_law_489 : decode cL_law 489 = .ok (.iadd, 1) := by decide +kernel
theorem dL_law_490 : decode cL_law 490 = .ok (.iaload, 1) := by decide +kernel
theorem dL_law_491 : decode cL_law 491 = .ok (.invokevirtual 57, 3) := by decide +kernel
theorem dL_law_494 : decode cL_law 494 = .ok (.aload_n 2, 1) := by decide +kernel
theorem dL_law_495 : decode cL_law 495 = .ok (.aload_n 0, 1) := by decide +kernel
theorem dL_law_496 : decode cL_law 496 = .ok (.iload 4, 2) := by decide +kernel
theorem dL_law_498 : decode cL_law 498 = .ok (.iconst 1, 1) := by decide +kernel
theorem dL_law_499 : decode cL_law 499 = .ok (.iadd, 1) := by decide +kernel
theorem dL_law_500 : decode cL_law 500 = .ok (.iaload, 1) := by decide +kernel
theorem dL_law_501 : decode cL_law 501 = .ok (.invokevirtual 60, 3) := by decide +kernel
theorem dL_law_504 : decode cL_law 504 = .ok (.if_icmp .eq 878, 3) := by decide +kernel
theorem dL_law_507 : decode cL_law 507 = .ok (.iconst 0, 1) := by decide +kernel
theorem dL_law_508 : decode cL_law 508 = .ok (.ireturn, 1) := by decide +kernel
theorem dL_law_509 : decode cL_law 509 = .ok (.aload_n 1, 1) := by decide +kernel
theorem dL_law_510 : decode cL_law 510 = .ok (.aload_n 0, 1) := by decide +kernel
theorem dL_law_511 : decode cL_law 511 = .ok (.iload 4, 2) := by decide +kernel
theorem dL_law_513 : decode cL_law 513 = .ok (.iconst 1, 1) := by decide +kernel
theorem dL_law_514 : decode cL_law 514 = .ok (.iadd, 1) := by decide +kernel
theorem dL_law_515 : decode cL_law 515 = .ok (.iaload, 1) := by decide +kernel
theorem dL_law_516 : decode cL_law 516 = .ok (.aload_n 0, 1) := by decide +kernel
theorem dL_law_517 : decode cL_law 517 = .ok (.iload 4, 2) := by decide +kernel
theorem dL_law_519 : decode cL_law 519 = .ok (.iconst 2, 1) := by decide +kernel
theorem dL_law_520 : decode cL_law 520 = .ok (.iadd, 1) := by decide +kernel
theorem dL_law_521 : decode cL_law 521 = .ok (.iaload, 1) := by decide +kernel
theorem dL_law_522 : decode cL_law 522 = .ok (.invokevirtual 61, 3) := by decide +kernel
theorem dL_law_525 : decode cL_law 525 = .ok (.aload_n 2, 1) := by decide +kernel
theorem dL_law_526 : decode cL_law 526 = .ok (.aload_n 0, 1) := by decide +kernel
theorem dL_law_527 : decode cL_law 527 = .ok (.iload 4, 2) := by decide +kernel
theorem dL_law_529 : decode cL_law 529 = .ok (.iconst 1, 1) := by decide +kernel
theorem dL_law_530 : decode cL_law 530 = .ok (.iadd, 1) := by decide +kernel
theorem dL_law_531 : decode cL_law 531 = .ok (.iaload, 1) := by decide +kernel
theorem dL_law_532 : decode cL_law 532 = .ok (.aload_n 0, 1) := by decide +kernel
theorem dL_law_533 : decode cL_law 533 = .ok (.iload 4, 2) := by decide +kernel
theorem dL_law_535 : decode cL_law 535 = .ok (.iconst 2, 1) := by decide +kernel
theorem dL_law_536 : decode cL_law 536 = .ok (.iadd, 1) := by decide +kernel
theorem dL_law_537 : decode cL_law 537 = .ok (.iaload, 1) := by decide +kernel
theorem dL_law_538 : decode cL_law 538 = .ok (.invokevirtual 64, 3) := by decide +kernel
theorem dL_law_541 : decode cL_law 541 = .ok (.if_icmp .eq 841, 3) := by decide +kernel
theorem dL_law_544 : decode cL_law 544 = .ok (.iconst 0, 1) := by decide +kernel
theorem dL_law_545 : decode cL_law 545 = .ok (.ireturn, 1) := by decide +kernel
theorem dL_law_546 : decode cL_law 546 = .ok (.aload_n 1, 1) := by decide +kernel
theorem dL_law_547 : decode cL_law 547 = .ok (.aload_n 0, 1) := by decide +kernel
theorem dL_law_548 : decode cL_law 548 = .ok (.iload 4, 2) := by decide +kernel
theorem dL_law_550 : decode cL_law 550 = .ok (.iconst 1, 1) := by decide +kernel
theorem dL_law_551 : decode cL_law 551 = .ok (.iadd, 1) := by decide +kernel
theorem dL_law_552 : decode cL_law 552 = .ok (.iaload, 1) := by decide +kernel
theorem dL_law_553 : decode cL_law 553 = .ok (.invokevirtual 65, 3) := by decide +kernel
theorem dL_law_556 : decode cL_law 556 = .ok (.aload_n 2, 1) := by decide +kernel
theorem dL_law_557 : decode cL_law 557 = .ok (.aload_n 0, 1) := by decide +kernel
theorem dL_law_558 : decode cL_law 558 = .ok (.iload 4, 2) := by decide +kernel
theorem dL_law_560 : decode cL_law 560 = .ok (.iconst 1, 1) := by decide +kernel
theorem dL_law_561 : decode cL_law 561 = .ok (.iadd, 1) := by decide +kernel
theorem dL_law_562 : decode cL_law 562 = .ok (.iaload, 1) := by decide +kernel
theorem dL_law_563 : decode cL_law 563 = .ok (.invokevirtual 69, 3) := by decide +kernel
theorem dL_law_566 : decode cL_law 566 = .ok (.if_icmp .eq 816, 3) := by decide +kernel
theorem dL_law_569 : decode cL_law 569 = .ok (.iconst 0, 1) := by decide +kernel
theorem dL_law_570 : decode cL_law 570 = .ok (.ireturn, 1) := by decide +kernel
theorem dL_law_571 : decode cL_law 571 = .ok (.aload_n 1, 1) := by decide +kernel
theorem dL_law_572 : decode cL_law 572 = .ok (.aload_n 0, 1) := by decide +kernel
theorem dL_law_573 : decode cL_law 573 = .ok (.iload 4, 2) := by decide +kernel
theorem dL_law_575 : decode cL_law 575 = .ok (.iconst 1, 1) := by decide +kernel
theorem dL_law_576 : decode cL_law 576 = .ok (.iadd, 1) := by decide +kernel
theorem dL_law_577 : decode cL_law 577 = .ok (.iaload, 1) := by decide +kernel
theorem dL_law_578 : decode cL_law 578 = .ok (.aload_n 0, 1) := by decide +kernel
theorem dL_law_579 : decode cL_law 579 = .ok (.iload 4, 2) := by decide +kernel
theorem dL_law_581 : decode cL_law 581 = .ok (.iconst 2, 1) := by decide +kernel
theorem dL_law_582 : decode cL_law 582 = .ok (.iadd, 1) := by decide +kernel
theorem dL_law_583 : decode cL_law 583 = .ok (.iaload, 1) := by decide +kernel
theorem dL_law_584 : decode cL_law 584 = .ok (.invokevirtual 70, 3) := by decide +kernel
theorem dL_law_587 : decode cL_law 587 = .ok (.aload_n 2, 1) := by decide +kernel
theorem dL_law_588 : decode cL_law 588 = .ok (.aload_n 0, 1) := by decide +kernel
theorem dL_law_589 : decode cL_law 589 = .ok (.iload 4, 2) := by decide +kernel
theorem dL_law_591 : decode cL_law 591 = .ok (.iconst 1, 1) := by decide +kernel
theorem dL_law_592 : decode cL_law 592 = .ok (.iadd, 1) := by decide +kernel
theorem dL_law_593 : decode cL_law 593 = .ok (.iaload, 1) := by decide +kernel
theorem dL_law_594 : decode cL_law 594 = .ok (.aload_n 0, 1) := by decide +kernel
theorem dL_law_595 : decode cL_law 595 = .ok (.iload 4, 2) := by decide +kernel
theorem dL_law_597 : decode cL_law 597 = .ok (.iconst 2, 1) := by decide +kernel
theorem dL_law_598 : decode cL_law 598 = .ok (.iadd, 1) := by decide +kernel
theorem dL_law_599 : decode cL_law 599 = .ok (.iaload, 1) := by decide +kernel
theorem dL_law_600 : decode cL_law 600 = .ok (.invokevirtual 73, 3) := by decide +kernel
theorem dL_law_603 : decode cL_law 603 = .ok (.if_icmp .eq 779, 3) := by decide +kernel
theorem dL_law_606 : decode cL_law 606 = .ok (.iconst 0, 1) := by decide +kernel
theorem dL_law_607 : decode cL_law 607 = .ok (.ireturn, 1) := by decide +kernel
theorem dL_law_608 : decode cL_law 608 = .ok (.aload_n 1, 1) := by decide +kernel
theorem dL_law_609 : decode cL_law 609 = .ok (.invokevirtual 74, 3) := by decide +kernel
theorem dL_law_612 : decode cL_law 612 = .ok (.aload_n 2, 1) := by decide +kernel
theorem dL_law_613 : decode cL_law 613 = .ok (.invokevirtual 77, 3) := by decide +kernel
theorem dL_law_616 : decode cL_law 616 = .ok (.if_icmp .eq 766, 3) := by decide +kernel
theorem dL_law_619 : decode cL_law 619 = .ok (.iconst 0, 1) := by decide +kernel
theorem dL_law_620 : decode cL_law 620 = .ok (.ireturn, 1) := by decide +kernel
theorem dL_law_621 : decode cL_law 621 = .ok (.aload_n 1, 1) := by decide +kernel
theorem dL_law_622 : decode cL_law 622 = .ok (.invokevirtual 78, 3) := by decide +kernel
theorem dL_law_625 : decode cL_law 625 = .ok (.aload_n 2, 1) := by decide +kernel
theorem dL_law_626 : decode cL_law 626 = .ok (.invokevirtual 82, 3) := by decide +kernel
theorem dL_law_629 : decode cL_law 629 = .ok (.lcmp, 1) := by decide +kernel
theorem dL_law_630 : decode cL_law 630 = .ok (.ifCond .eq 752, 3) := by decide +kernel
theorem dL_law_633 : decode cL_law 633 = .ok (.iconst 0, 1) := by decide +kernel
theorem dL_law_634 : decode cL_law 634 = .ok (.ireturn, 1) := by decide +kernel
theorem dL_law_635 : decode cL_law 635 = .ok (.aload_n 1, 1) := by decide +kernel
theorem dL_law_636 : decode cL_law 636 = .ok (.aload_n 0, 1) := by decide +kernel
theorem dL_law_637 : decode cL_law 637 = .ok (.iload 4, 2) := by decide +kernel
theorem dL_law_639 : decode cL_law 639 = .ok (.iconst 1, 1) := by decide +kernel
theorem dL_law_640 : decode cL_law 640 = .ok (.iadd, 1) := by decide +kernel
theorem dL_law_641 : decode cL_law 641 = .ok (.iaload, 1) := by decide +kernel
theorem dL_law_642 : decode cL_law 642 = .ok (.invokevirtual 83, 3) := by decide +kernel
theorem dL_law_645 : decode cL_law 645 = .ok (.aload_n 2, 1) := by decide +kernel
theorem dL_law_646 : decode cL_law 646 = .ok (.aload_n 0, 1) := by decide +kernel
theorem dL_law_647 : decode cL_law 647 = .ok (.iload 4, 2) := by decide +kernel
theorem dL_law_649 : decode cL_law 649 = .ok (.iconst 1, 1) := by decide +kernel
theorem dL_law_650 : decode cL_law 650 = .ok (.iadd, 1) := by decide +kernel
theorem dL_law_651 : decode cL_law 651 = .ok (.iaload, 1) := by decide +kernel
theorem dL_law_652 : decode cL_law 652 = .ok (.invokevirtual 87, 3) := by decide +kernel
theorem dL_law_655 : decode cL_law 655 = .ok (.lcmp, 1) := by decide +kernel
theorem dL_law_656 : decode cL_law 656 = .ok (.ifCond .eq 726, 3) := by decide +kernel
theorem dL_law_659 : decode cL_law 659 = .ok (.iconst 0, 1) := by decide +kernel
theorem dL_law_660 : decode cL_law 660 = .ok (.ireturn, 1) := by decide +kernel
theorem dL_law_661 : decode cL_law 661 = .ok (.aload_n 1, 1) := by decide +kernel
theorem dL_law_662 : decode cL_law 662 = .ok (.aload_n 0, 1) := by decide +kernel
theorem dL_law_663 : decode cL_law 663 = .ok (.iload 4, 2) := by decide +kernel
theorem dL_law_665 : decode cL_law 665 = .ok (.iconst 1, 1) := by decide +kernel
theorem dL_law_666 : decode cL_law 666 = .ok (.iadd, 1) := by decide +kernel
theorem dL_law_667 : decode cL_law 667 = .ok (.iaload, 1) := by decide +kernel
theorem dL_law_668 : decode cL_law 668 = .ok (.invokevirtual 88, 3) := by decide +kernel
theorem dL_law_671 : decode cL_law 671 = .ok (.aload_n 2, 1) := by decide +kernel
theorem dL_law_672 : decode cL_law 672 = .ok (.aload_n 0, 1) := by decide +kernel
theorem dL_law_673 : decode cL_law 673 = .ok (.iload 4, 2) := by decide +kernel
theorem dL_law_675 : decode cL_law 675 = .ok (.iconst 1, 1) := by decide +kernel
theorem dL_law_676 : decode cL_law 676 = .ok (.iadd, 1) := by decide +kernel
theorem dL_law_677 : decode cL_law 677 = .ok (.iaload, 1) := by decide +kernel
theorem dL_law_678 : decode cL_law 678 = .ok (.invokevirtual 91, 3) := by decide +kernel
theorem dL_law_681 : decode cL_law 681 = .ok (.if_icmp .eq 701, 3) := by decide +kernel
theorem dL_law_684 : decode cL_law 684 = .ok (.iconst 0, 1) := by decide +kernel
theorem dL_law_685 : decode cL_law 685 = .ok (.ireturn, 1) := by decide +kernel
theorem dL_law_686 : decode cL_law 686 = .ok (.aload_n 1, 1) := by decide +kernel
theorem dL_law_687 : decode cL_law 687 = .ok (.aload_n 0, 1) := by decide +kernel
theorem dL_law_688 : decode cL_law 688 = .ok (.iload 4, 2) := by decide +kernel
theorem dL_law_690 : decode cL_law 690 = .ok (.iconst 1, 1) := by decide +kernel
theorem dL_law_691 : decode cL_law 691 = .ok (.iadd, 1) := by decide +kernel
theorem dL_law_692 : decode cL_law 692 = .ok (.iaload, 1) := by decide +kernel
theorem dL_law_693 : decode cL_law 693 = .ok (.invokevirtual 92, 3) := by decide +kernel
theorem dL_law_696 : decode cL_law 696 = .ok (.aload_n 2, 1) := by decide +kernel
theorem dL_law_697 : decode cL_law 697 = .ok (.aload_n 0, 1) := by decide +kernel
theorem dL_law_698 : decode cL_law 698 = .ok (.iload 4, 2) := by decide +kernel
theorem dL_law_700 : decode cL_law 700 = .ok (.iconst 1, 1) := by decide +kernel
theorem dL_law_701 : decode cL_law 701 = .ok (.iadd, 1) := by decide +kernel
theorem dL_law_702 : decode cL_law 702 = .ok (.iaload, 1) := by decide +kernel
theorem dL_law_703 : decode cL_law 703 = .ok (.invokevirtual 95, 3) := by decide +kernel
theorem dL_law_706 : decode cL_law 706 = .ok (.lcmp, 1) := by decide +kernel
theorem dL_law_707 : decode cL_law 707 = .ok (.ifCond .eq 675, 3) := by decide +kernel
theorem dL_law_710 : decode cL_law 710 = .ok (.iconst 0, 1) := by decide +kernel
theorem dL_law_711 : decode cL_law 711 = .ok (.ireturn, 1) := by decide +kernel
theorem dL_law_712 : decode cL_law 712 = .ok (.aload_n 1, 1) := by decide +kernel
theorem dL_law_713 : decode cL_law 713 = .ok (.aload_n 0, 1) := by decide +kernel
theorem dL_law_714 : decode cL_law 714 = .ok (.iload 4, 2) := by decide +kernel
theorem dL_law_716 : decode cL_law 716 = .ok (.iconst 1, 1) := by decide +kernel
theorem dL_law_717 : decode cL_law 717 = .ok (.iadd, 1) := by decide +kernel
theorem dL_law_718 : decode cL_law 718 = .ok (.iaload, 1) := by decide +kernel
theorem dL_law_719 : decode cL_law 719 = .ok (.invokevirtual 96, 3) := by decide +kernel
theorem dL_law_722 : decode cL_law 722 = .ok (.aload_n 2, 1) := by decide +kernel
theorem dL_law_723 : decode cL_law 723 = .ok (.aload_n 0, 1) := by decide +kernel
theorem dL_law_724 : decode cL_law 724 = .ok (.iload 4, 2) := by decide +kernel
theorem dL_law_726 : decode cL_law 726 = .ok (.iconst 1, 1) := by decide +kernel
theorem dL_law_727 : decode cL_law 727 = .ok (.iadd, 1) := by decide +kernel
theorem dL_law_728 : decode cL_law 728 = .ok (.iaload, 1) := by decide +kernel
theorem dL_law_729 : decode cL_law 729 = .ok (.invokevirtual 99, 3) := by decide +kernel
theorem dL_law_732 : decode cL_law 732 = .ok (.if_icmp .eq 650, 3) := by decide +kernel
theorem dL_law_735 : decode cL_law 735 = .ok (.iconst 0, 1) := by decide +kernel
theorem dL_law_736 : decode cL_law 736 = .ok (.ireturn, 1) := by decide +kernel
theorem dL_law_737 : decode cL_law 737 = .ok (.aload_n 1, 1) := by decide +kernel
theorem dL_law_738 : decode cL_law 738 = .ok (.invokevirtual 100, 3) := by decide +kernel
theorem dL_law_741 : decode cL_law 741 = .ok (.aload_n 2, 1) := by decide +kernel
theorem dL_law_742 : decode cL_law 742 = .ok (.invokevirtual 103, 3) := by decide +kernel
theorem dL_law_745 : decode cL_law 745 = .ok (.if_icmp .eq 637, 3) := by decide +kernel
theorem dL_law_748 : decode cL_law 748 = .ok (.iconst 0, 1) := by decide +kernel
theorem dL_law_749 : decode cL_law 749 = .ok (.ireturn, 1) := by decide +kernel
theorem dL_law_750 : decode cL_law 750 = .ok (.aload_n 1, 1) := by decide +kernel
theorem dL_law_751 : decode cL_law 751 = .ok (.aload_n 0, 1) := by decide +kernel
theorem dL_law_752 : decode cL_law 752 = .ok (.iload 4, 2) := by decide +kernel
theorem dL_law_754 : decode cL_law 754 = .ok (.iconst 1, 1) := by decide +kernel
theorem dL_law_755 : decode cL_law 755 = .ok (.iadd, 1) := by decide +kernel
theorem dL_law_756 : decode cL_law 756 = .ok (.iaload, 1) := by decide +kernel
theorem dL_law_757 : decode cL_law 757 = .ok (.invokevirtual 104, 3) := by decide +kernel
theorem dL_law_760 : decode cL_law 760 = .ok (.aload_n 2, 1) := by decide +kernel
theorem dL_law_761 : decode cL_law 761 = .ok (.aload_n 0, 1) := by decide +kernel
theorem dL_law_762 : decode cL_law 762 = .ok (.iload 4, 2) := by decide +kernel
theorem dL_law_764 : decode cL_law 764 = .ok (.iconst 1, 1) := by decide +kernel
theorem dL_law_765 : decode cL_law 765 = .ok (.iadd, 1) := by decide +kernel
theorem dL_law_766 : decode cL_law 766 = .ok (.iaload, 1) := by decide +kernel
theorem dL_law_767 : decode cL_law 767 = .ok (.invokevirtual 107, 3) := by decide +kernel
theorem dL_law_770 : decode cL_law 770 = .ok (.if_icmp .eq 612, 3) := by decide +kernel
theorem dL_law_773 : decode cL_law 773 = .ok (.iconst 0, 1) := by decide +kernel
theorem dL_law_774 : decode cL_law 774 = .ok (.ireturn, 1) := by decide +kernel
theorem dL_law_775 : decode cL_law 775 = .ok (.aload_n 1, 1) := by decide +kernel
theorem dL_law_776 : decode cL_law 776 = .ok (.aload_n 0, 1) := by decide +kernel
theorem dL_law_777 : decode cL_law 777 = .ok (.iload 4, 2) := by decide +kernel
theorem dL_law_779 : decode cL_law 779 = .ok (.iconst 1, 1) := by decide +kernel
theorem dL_law_780 : decode cL_law 780 = .ok (.iadd, 1) := by decide +kernel
theorem dL_law_781 : decode cL_law 781 = .ok (.iaload, 1) := by decide +kernel
theorem dL_law_782 : decode cL_law 782 = .ok (.invokevirtual 108, 3) := by decide +kernel
theorem dL_law_785 : decode cL_law 785 = .ok (.aload_n 2, 1) := by decide +kernel
theorem dL_law_786 : decode cL_law 786 = .ok (.aload_n 0, 1) := by decide +kernel
theorem dL_law_787 : decode cL_law 787 = .ok (.iload 4, 2) := by decide +kernel
theorem dL_law_789 : decode cL_law 789 = .ok (.iconst 1, 1) := by decide +kernel
theorem dL_law_790 : decode cL_law 790 = .ok (.iadd, 1) := by decide +kernel
theorem dL_law_791 : decode cL_law 791 = .ok (.iaload, 1) := by decide +kernel
theorem dL_law_792 : decode cL_law 792 = .ok (.invokevirtual 111, 3) := by decide +kernel
theorem dL_law_795 : decode cL_law 795 = .ok (.if_icmp .eq 587, 3) := by decide +kernel
theorem dL_law_798 : decode cL_law 798 = .ok (.iconst 0, 1) := by decide +kernel
theorem dL_law_799 : decode cL_law 799 = .ok (.ireturn, 1) := by decide +kernel
theorem dL_law_800 : decode cL_law 800 = .ok (.aload_n 1, 1) := by decide +kernel
theorem dL_law_801 : decode cL_law 801 = .ok (.aload_n 0, 1) := by decide +kernel
theorem dL_law_802 : decode cL_law 802 = .ok (.iload 4, 2) := by decide +kernel
theorem dL_law_804 : decode cL_law 804 = .ok (.iconst 1, 1) := by decide +kernel
theorem dL_law_805 : decode cL_law 805 = .ok (.iadd, 1) := by decide +kernel
theorem dL_law_806 : decode cL_law 806 = .ok (.iaload, 1) := by decide +kernel
theorem dL_law_807 : decode cL_law 807 = .ok (.invokevirtual 112, 3) := by decide +kernel
theorem dL_law_810 : decode cL_law 810 = .ok (.aload_n 2, 1) := by decide +kernel
theorem dL_law_811 : decode cL_law 811 = .ok (.aload_n 0, 1) := by decide +kernel
theorem dL_law_812 : decode cL_law 812 = .ok (.iload 4, 2) := by decide +kernel
theorem dL_law_814 : decode cL_law 814 = .ok (.iconst 1, 1) := by decide +kernel
theorem dL_law_815 : decode cL_law 815 = .ok (.iadd, 1) := by decide +kernel
theorem dL_law_816 : decode cL_law 816 = .ok (.iaload, 1) := by decide +kernel
theorem dL_law_817 : decode cL_law 817 = .ok (.invokevirtual 115, 3) := by decide +kernel
theorem dL_law_820 : decode cL_law 820 = .ok (.if_icmp .eq 562, 3) := by decide +kernel
theorem dL_law_823 : decode cL_law 823 = .ok (.iconst 0, 1) := by decide +kernel
theorem dL_law_824 : decode cL_law 824 = .ok (.ireturn, 1) := by decide +kernel
theorem dL_law_825 : decode cL_law 825 = .ok (.aload_n 1, 1) := by decide +kernel
theorem dL_law_826 : decode cL_law 826 = .ok (.invokevirtual 116, 3) := by decide +kernel
theorem dL_law_829 : decode cL_law 829 = .ok (.aload_n 2, 1) := by decide +kernel
theorem dL_law_830 : decode cL_law 830 = .ok (.invokevirtual 119, 3) := by decide +kernel
theorem dL_law_833 : decode cL_law 833 = .ok (.lcmp, 1) := by decide +kernel
theorem dL_law_834 : decode cL_law 834 = .ok (.ifCond .eq 548, 3) := by decide +kernel
theorem dL_law_837 : decode cL_law 837 = .ok (.iconst 0, 1) := by decide +kernel
theorem dL_law_838 : decode cL_law 838 = .ok (.ireturn, 1) := by decide +kernel
theorem dL_law_839 : decode cL_law 839 = .ok (.aload_n 1, 1) := by decide +kernel
theorem dL_law_840 : decode cL_law 840 = .ok (.aload_n 0, 1) := by decide +kernel
theorem dL_law_841 : decode cL_law 841 = .ok (.iload 4, 2) := by decide +kernel
theorem dL_law_843 : decode cL_law 843 = .ok (.iconst 1, 1) := by decide +kernel
theorem dL_law_844 : decode cL_law 844 = .ok (.iadd, 1) := by decide +kernel
theorem dL_law_845 : decode cL_law 845 = .ok (.iaload, 1) := by decide +kernel
theorem dL_law_846 : decode cL_law 846 = .ok (.invokevirtual 120, 3) := by decide +kernel
theorem dL_law_849 : decode cL_law 849 = .ok (.aload_n 2, 1) := by decide +kernel
theorem dL_law_850 : decode cL_law 850 = .ok (.aload_n 0, 1) := by decide +kernel
theorem dL_law_851 : decode cL_law 851 = .ok (.iload 4, 2) := by decide +kernel
theorem dL_law_853 : decode cL_law 853 = .ok (.iconst 1, 1) := by decide +kernel
theorem dL_law_854 : decode cL_law 854 = .ok (.iadd, 1) := by decide +kernel
theorem dL_law_855 : decode cL_law 855 = .ok (.iaload, 1) := by decide +kernel
theorem dL_law_856 : decode cL_law 856 = .ok (.invokevirtual 123, 3) := by decide +kernel
theorem dL_law_859 : decode cL_law 859 = .ok (.if_icmp .eq 523, 3) := by decide +kernel
theorem dL_law_862 : decode cL_law 862 = .ok (.iconst 0, 1) := by decide +kernel
theorem dL_law_863 : decode cL_law 863 = .ok (.ireturn, 1) := by decide +kernel
theorem dL_law_864 : decode cL_law 864 = .ok (.aload_n 1, 1) := by decide +kernel
theorem dL_law_865 : decode cL_law 865 = .ok (.aload_n 0, 1) := by decide +kernel
theorem dL_law_866 : decode cL_law 866 = .ok (.iload 4, 2) := by decide +kernel
theorem dL_law_868 : decode cL_law 868 = .ok (.iconst 1, 1) := by decide +kernel
theorem dL_law_869 : decode cL_law 869 = .ok (.iadd, 1) := by decide +kernel
theorem dL_law_870 : decode cL_law 870 = .ok (.iaload, 1) := by decide +kernel
theorem dL_law_871 : decode cL_law 871 = .ok (.invokevirtual 124, 3) := by decide +kernel
theorem dL_law_874 : decode cL_law 874 = .ok (.aload_n 2, 1) := by decide +kernel
theorem dL_law_875 : decode cL_law 875 = .ok (.aload_n 0, 1) := by decide +kernel
theorem dL_law_876 : decode cL_law 876 = .ok (.iload 4, 2) := by decide +kernel
theorem dL_law_878 : decode cL_law 878 = .ok (.iconst 1, 1) := by decide +kernel
theorem dL_law_879 : decode cL_law 879 = .ok (.iadd, 1) := by decide +kernel
theorem dL_law_880 : decode cL_law 880 = .ok (.iaload, 1) := by decide +kernel
theorem dL_law_881 : decode cL_law 881 = .ok (.invokevirtual 127, 3) := by decide +kernel
theorem dL_law_884 : decode cL_law 884 = .ok (.if_icmp .eq 498, 3) := by decide +kernel
theorem dL_law_887 : decode cL_law 887 = .ok (.iconst 0, 1) := by decide +kernel
theorem dL_law_888 : decode cL_law 888 = .ok (.ireturn, 1) := by decide +kernel
theorem dL_law_889 : decode cL_law 889 = .ok (.aload_n 1, 1) := by decide +kernel
theorem dL_law_890 : decode cL_law 890 = .ok (.aload_n 0, 1) := by decide +kernel
theorem dL_law_891 : decode cL_law 891 = .ok (.iload 4, 2) := by decide +kernel
theorem dL_law_893 : decode cL_law 893 = .ok (.iconst 1, 1) := by decide +kernel
theorem dL_law_894 : decode cL_law 894 = .ok (.iadd, 1) := by decide +kernel
theorem dL_law_895 : decode cL_law 895 = .ok (.iaload, 1) := by decide +kernel
theorem dL_law_896 : decode cL_law 896 = .ok (.invokevirtual 128, 3) := by decide +kernel
theorem dL_law_899 : decode cL_law 899 = .ok (.aload_n 2, 1) := by decide +kernel
theorem dL_law_900 : decode cL_law 900 = .ok (.aload_n 0, 1) := by decide +kernel
theorem dL_law_901 : decode cL_law 901 = .ok (.iload 4, 2) := by decide +kernel
theorem dL_law_903 : decode cL_law 903 = .ok (.iconst 1, 1) := by decide +kernel
theorem dL_law_904 : decode cL_law 904 = .ok (.iadd, 1) := by decide +kernel
theorem dL_law_905 : decode cL_law 905 = .ok (.iaload, 1) := by decide +kernel
theorem dL_law_906 : decode cL_law 906 = .ok (.invokevirtual 131, 3) := by decide +kernel
theorem dL_law_909 : decode cL_law 909 = .ok (.if_icmp .eq 473, 3) := by decide +kernel
theorem dL_law_912 : decode cL_law 912 = .ok (.iconst 0, 1) := by decide +kernel
theorem dL_law_913 : decode cL_law 913 = .ok (.ireturn, 1) := by decide +kernel
theorem dL_law_914 : decode cL_law 914 = .ok (.aload_n 1, 1) := by decide +kernel
theorem dL_law_915 : decode cL_law 915 = .ok (.invokevirtual 132, 3) := by decide +kernel
theorem dL_law_918 : decode cL_law 918 = .ok (.aload_n 2, 1) := by decide +kernel
theorem dL_law_919 : decode cL_law 919 = .ok (.invokevirtual 135, 3) := by decide +kernel
theorem dL_law_922 : decode cL_law 922 = .ok (.if_icmp .eq 460, 3) := by decide +kernel
theorem dL_law_925 : decode cL_law 925 = .ok (.iconst 0, 1) := by decide +kernel
theorem dL_law_926 : decode cL_law 926 = .ok (.ireturn, 1) := by decide +kernel
theorem dL_law_927 : decode cL_law 927 = .ok (.aload_n 1, 1) := by decide +kernel
theorem dL_law_928 : decode cL_law 928 = .ok (.aload_n 0, 1) := by decide +kernel
theorem dL_law_929 : decode cL_law 929 = .ok (.iload 4, 2) := by decide +kernel
theorem dL_law_931 : decode cL_law 931 = .ok (.iconst 1, 1) := by decide +kernel
theorem dL_law_932 : decode cL_law 932 = .ok (.iadd, 1) := by decide +kernel
theorem dL_law_933 : decode cL_law 933 = .ok (.iaload, 1) := by decide +kernel
theorem dL_law_934 : decode cL_law 934 = .ok (.invokevirtual 136, 3) := by decide +kernel
theorem dL_law_937 : decode cL_law 937 = .ok (.aload_n 2, 1) := by decide +kernel
theorem dL_law_938 : decode cL_law 938 = .ok (.aload_n 0, 1) := by decide +kernel
theorem dL_law_939 : decode cL_law 939 = .ok (.iload 4, 2) := by decide +kernel
theorem dL_law_941 : decode cL_law 941 = .ok (.iconst 1, 1) := by decide +kernel
theorem dL_law_942 : decode cL_law 942 = .ok (.iadd, 1) := by decide +kernel
theorem dL_law_943 : decode cL_law 943 = .ok (.iaload, 1) := by decide +kernel
theorem dL_law_944 : decode cL_law 944 = .ok (.invokevirtual 139, 3) := by decide +kernel
theorem dL_law_947 : decode cL_law 947 = .ok (.if_icmp .eq 435, 3) := by decide +kernel
theorem dL_law_950 : decode cL_law 950 = .ok (.iconst 0, 1) := by decide +kernel
theorem dL_law_951 : decode cL_law 951 = .ok (.ireturn, 1) := by decide +kernel
theorem dL_law_952 : decode cL_law 952 = .ok (.aload_n 1, 1) := by decide +kernel
theorem dL_law_953 : decode cL_law 953 = .ok (.invokevirtual 140, 3) := by decide +kernel
theorem dL_law_956 : decode cL_law 956 = .ok (.aload_n 2, 1) := by decide +kernel
theorem dL_law_957 : decode cL_law 957 = .ok (.invokevirtual 143, 3) := by decide +kernel
theorem dL_law_960 : decode cL_law 960 = .ok (.if_icmp .eq 422, 3) := by decide +kernel
theorem dL_law_963 : decode cL_law 963 = .ok (.iconst 0, 1) := by decide +kernel
theorem dL_law_964 : decode cL_law 964 = .ok (.ireturn, 1) := by decide +kernel
theorem dL_law_965 : decode cL_law 965 = .ok (.aload_n 1, 1) := by decide +kernel
theorem dL_law_966 : decode cL_law 966 = .ok (.aload_n 0, 1) := by decide +kernel
theorem dL_law_967 : decode cL_law 967 = .ok (.iload 4, 2) := by decide +kernel
theorem dL_law_969 : decode cL_law 969 = .ok (.iconst 1, 1) := by decide +kernel
theorem dL_law_970 : decode cL_law 970 = .ok (.iadd, 1) := by decide +kernel
theorem dL_law_971 : decode cL_law 971 = .ok (.iaload, 1) := by decide +kernel
theorem dL_law_972 : decode cL_law 972 = .ok (.invokevirtual 144, 3) := by decide +kernel
theorem dL_law_975 : decode cL_law 975 = .ok (.aload_n 2, 1) := by decide +kernel
theorem dL_law_976 : decode cL_law 976 = .ok (.aload_n 0, 1) := by decide +kernel
theorem dL_law_977 : decode cL_law 977 = .ok (.iload 4, 2) := by decide +kernel
theorem dL_law_979 : decode cL_law 979 = .ok (.iconst 1, 1) := by decide +kernel
theorem dL_law_980 : decode cL_law 980 = .ok (.iadd, 1) := by decide +kernel
theorem dL_law_981 : decode cL_law 981 = .ok (.iaload, 1) := by decide +kernel
theorem dL_law_982 : decode cL_law 982 = .ok (.invokevirtual 147, 3) := by decide +kernel
theorem dL_law_985 : decode cL_law 985 = .ok (.if_icmp .eq 397, 3) := by decide +kernel
theorem dL_law_988 : decode cL_law 988 = .ok (.iconst 0, 1) := by decide +kernel
theorem dL_law_989 : decode cL_law 989 = .ok (.ireturn, 1) := by decide +kernel
theorem dL_law_990 : decode cL_law 990 = .ok (.aload_n 1, 1) := by decide +kernel
theorem dL_law_991 : decode cL_law 991 = .ok (.aload_n 0, 1) := by decide +kernel
theorem dL_law_992 : decode cL_law 992 = .ok (.iload 4, 2) := by decide +kernel
theorem dL_law_994 : decode cL_law 994 = .ok (.iconst 1, 1) := by decide +kernel
theorem dL_law_995 : decode cL_law 995 = .ok (.iadd, 1) := by decide +kernel
theorem dL_law_996 : decode cL_law 996 = .ok (.iaload, 1) := by decide +kernel
theorem dL_law_997 : decode cL_law 997 = .ok (.invokevirtual 148, 3) := by decide +kernel
theorem dL_law_1000 : decode cL_law 1000 = .ok (.aload_n 2, 1) := by decide +kernel
theorem dL_law_1001 : decode cL_law 1001 = .ok (.aload_n 0, 1) := by decide +kernel
theorem dL_law_1002 : decode cL_law 1002 = .ok (.iload 4, 2) := by decide +kernel
theorem dL_law_1004 : decode cL_law 1004 = .ok (.iconst 1, 1) := by decide +kernel
theorem dL_law_1005 : decode cL_law 1005 = .ok (.iadd, 1) := by decide +kernel
theorem dL_law_1006 : decode cL_law 1006 = .ok (.iaload, 1) := by decide +kernel
theorem dL_law_1007 : decode cL_law 1007 = .ok (.invokevirtual 151, 3) := by decide +kernel
theorem dL_law_1010 : decode cL_law 1010 = .ok (.if_icmp .eq 372, 3) := by decide +kernel
theorem dL_law_1013 : decode cL_law 1013 = .ok (.iconst 0, 1) := by decide +kernel
theorem dL_law_1014 : decode cL_law 1014 = .ok (.ireturn, 1) := by decide +kernel
theorem dL_law_1015 : decode cL_law 1015 = .ok (.aload_n 1, 1) := by decide +kernel
theorem dL_law_1016 : decode cL_law 1016 = .ok (.aload_n 0, 1) := by decide +kernel
theorem dL_law_1017 : decode cL_law 1017 = .ok (.iload 4, 2) := by decide +kernel
theorem dL_law_1019 : decode cL_law 1019 = .ok (.iconst 1, 1) := by decide +kernel
theorem dL_law_1020 : decode cL_law 1020 = .ok (.iadd, 1) := by decide +kernel
theorem dL_law_1021 : decode cL_law 1021 = .ok (.iaload, 1) := by decide +kernel
theorem dL_law_1022 : decode cL_law 1022 = .ok (.invokevirtual 152, 3) := by decide +kernel
theorem dL_law_1025 : decode cL_law 1025 = .ok (.aload_n 2, 1) := by decide +kernel
theorem dL_law_1026 : decode cL_law 1026 = .ok (.aload_n 0, 1) := by decide +kernel
theorem dL_law_1027 : decode cL_law 1027 = .ok (.iload 4, 2) := by decide +kernel
theorem dL_law_1029 : decode cL_law 1029 = .ok (.iconst 1, 1) := by decide +kernel
theorem dL_law_1030 : decode cL_law 1030 = .ok (.iadd, 1) := by decide +kernel
theorem dL_law_1031 : decode cL_law 1031 = .ok (.iaload, 1) := by decide +kernel
theorem dL_law_1032 : decode cL_law 1032 = .ok (.invokevirtual 155, 3) := by decide +kernel
theorem dL_law_1035 : decode cL_law 1035 = .ok (.if_icmp .eq 347, 3) := by decide +kernel
theorem dL_law_1038 : decode cL_law 1038 = .ok (.iconst 0, 1) := by decide +kernel
theorem dL_law_1039 : decode cL_law 1039 = .ok (.ireturn, 1) := by decide +kernel
theorem dL_law_1040 : decode cL_law 1040 = .ok (.aload_n 1, 1) := by decide +kernel
theorem dL_law_1041 : decode cL_law 1041 = .ok (.aload_n 0, 1) := by decide +kernel
theorem dL_law_1042 : decode cL_law 1042 = .ok (.iload 4, 2) := by decide +kernel
theorem dL_law_1044 : decode cL_law 1044 = .ok (.iconst 1, 1) := by decide +kernel
theorem dL_law_1045 : decode cL_law 1045 = .ok (.iadd, 1) := by decide +kernel
theorem dL_law_1046 : decode cL_law 1046 = .ok (.iaload, 1) := by decide +kernel
theorem dL_law_1047 : decode cL_law 1047 = .ok (.invokevirtual 156, 3) := by decide +kernel
theorem dL_law_1050 : decode cL_law 1050 = .ok (.aload_n 2, 1) := by decide +kernel
theorem dL_law_1051 : decode cL_law 1051 = .ok (.aload_n 0, 1) := by decide +kernel
theorem dL_law_1052 : decode cL_law 1052 = .ok (.iload 4, 2) := by decide +kernel
theorem dL_law_1054 : decode cL_law 1054 = .ok (.iconst 1, 1) := by decide +kernel
theorem dL_law_1055 : decode cL_law 1055 = .ok (.iadd, 1) := by decide +kernel
theorem dL_law_1056 : decode cL_law 1056 = .ok (.iaload, 1) := by decide +kernel
theorem dL_law_1057 : decode cL_law 1057 = .ok (.invokevirtual 159, 3) := by decide +kernel
theorem dL_law_1060 : decode cL_law 1060 = .ok (.if_icmp .eq 322, 3) := by decide +kernel
theorem dL_law_1063 : decode cL_law 1063 = .ok (.iconst 0, 1) := by decide +kernel
theorem dL_law_1064 : decode cL_law 1064 = .ok (.ireturn, 1) := by decide +kernel
theorem dL_law_1065 : decode cL_law 1065 = .ok (.aload_n 1, 1) := by decide +kernel
theorem dL_law_1066 : decode cL_law 1066 = .ok (.invokevirtual 160, 3) := by decide +kernel
theorem dL_law_1069 : decode cL_law 1069 = .ok (.aload_n 2, 1) := by decide +kernel
theorem dL_law_1070 : decode cL_law 1070 = .ok (.invokevirtual 164, 3) := by decide +kernel
theorem dL_law_1073 : decode cL_law 1073 = .ok (.if_icmp .eq 309, 3) := by decide +kernel
theorem dL_law_1076 : decode cL_law 1076 = .ok (.iconst 0, 1) := by decide +kernel
theorem dL_law_1077 : decode cL_law 1077 = .ok (.ireturn, 1) := by decide +kernel
theorem dL_law_1078 : decode cL_law 1078 = .ok (.aload_n 1, 1) := by decide +kernel
theorem dL_law_1079 : decode cL_law 1079 = .ok (.aload_n 0, 1) := by decide +kernel
theorem dL_law_1080 : decode cL_law 1080 = .ok (.iload 4, 2) := by decide +kernel
theorem dL_law_1082 : decode cL_law 1082 = .ok (.iconst 1, 1) := by decide +kernel
theorem dL_law_1083 : decode cL_law 1083 = .ok (.iadd, 1) := by decide +kernel
theorem dL_law_1084 : decode cL_law 1084 = .ok (.iaload, 1) := by decide +kernel
theorem dL_law_1085 : decode cL_law 1085 = .ok (.invokevirtual 165, 3) := by decide +kernel
theorem dL_law_1088 : decode cL_law 1088 = .ok (.aload_n 2, 1) := by decide +kernel
theorem dL_law_1089 : decode cL_law 1089 = .ok (.aload_n 0, 1) := by decide +kernel
theorem dL_law_1090 : decode cL_law 1090 = .ok (.iload 4, 2) := by decide +kernel
theorem dL_law_1092 : decode cL_law 1092 = .ok (.iconst 1, 1) := by decide +kernel
theorem dL_law_1093 : decode cL_law 1093 = .ok (.iadd, 1) := by decide +kernel
theorem dL_law_1094 : decode cL_law 1094 = .ok (.iaload, 1) := by decide +kernel
theorem dL_law_1095 : decode cL_law 1095 = .ok (.invokevirtual 168, 3) := by decide +kernel
theorem dL_law_1098 : decode cL_law 1098 = .ok (.if_icmp .eq 284, 3) := by decide +kernel
theorem dL_law_1101 : decode cL_law 1101 = .ok (.iconst 0, 1) := by decide +kernel
theorem dL_law_1102 : decode cL_law 1102 = .ok (.ireturn, 1) := by decide +kernel
theorem dL_law_1103 : decode cL_law 1103 = .ok (.aload_n 1, 1) := by decide +kernel
theorem dL_law_1104 : decode cL_law 1104 = .ok (.aload_n 0, 1) := by decide +kernel
theorem dL_law_1105 : decode cL_law 1105 = .ok (.iload 4, 2) := by decide +kernel
theorem dL_law_1107 : decode cL_law 1107 = .ok (.iconst 1, 1) := by decide +kernel
theorem dL_law_1108 : decode cL_law 1108 = .ok (.iadd, 1) := by decide +kernel
theorem dL_law_1109 : decode cL_law 1109 = .ok (.iaload, 1) := by decide +kernel
theorem dL_law_1110 : decode cL_law 1110 = .ok (.invokevirtual 169, 3) := by decide +kernel
theorem dL_law_1113 : decode cL_law 1113 = .ok (.aload_n 2, 1) := by decide +kernel
theorem dL_law_1114 : decode cL_law 1114 = .ok (.aload_n 0, 1) := by decide +kernel
theorem dL_law_1115 : decode cL_law 1115 = .ok (.iload 4, 2) := by decide +kernel
theorem dL_law_1117 : decode cL_law 1117 = .ok (.iconst 1, 1) := by decide +kernel
theorem dL_law_1118 : decode cL_law 1118 = .ok (.iadd, 1) := by decide +kernel
theorem dL_law_1119 : decode cL_law 1119 = .ok (.iaload, 1) := by decide +kernel
theorem dL_law_1120 : decode cL_law 1120 = .ok (.invokevirtual 172, 3) := by decide +kernel
theorem dL_law_1123 : decode cL_law 1123 = .ok (.if_icmp .eq 259, 3) := by decide +kernel
theorem dL_law_1126 : decode cL_law 1126 = .ok (.iconst 0, 1) := by decide +kernel
theorem dL_law_1127 : decode cL_law 1127 = .ok (.ireturn, 1) := by decide +kernel
theorem dL_law_1128 : decode cL_law 1128 = .ok (.aload_n 1, 1) := by decide +kernel
theorem dL_law_1129 : decode cL_law 1129 = .ok (.aload_n 0, 1) := by decide +kernel
theorem dL_law_1130 : decode cL_law 1130 = .ok (.iload 4, 2) := by decide +kernel
theorem dL_law_1132 : decode cL_law 1132 = .ok (.iconst 1, 1) := by decide +kernel
theorem dL_law_1133 : decode cL_law 1133 = .ok (.iadd, 1) := by decide +kernel
theorem dL_law_1134 : decode cL_law 1134 = .ok (.iaload, 1) := by decide +kernel
theorem dL_law_1135 : decode cL_law 1135 = .ok (.invokevirtual 173, 3) := by decide +kernel
theorem dL_law_1138 : decode cL_law 1138 = .ok (.aload_n 2, 1) := by decide +kernel
theorem dL_law_1139 : decode cL_law 1139 = .ok (.aload_n 0, 1) := by decide +kernel
theorem dL_law_1140 : decode cL_law 1140 = .ok (.iload 4, 2) := by decide +kernel
theorem dL_law_1142 : decode cL_law 1142 = .ok (.iconst 1, 1) := by decide +kernel
theorem dL_law_1143 : decode cL_law 1143 = .ok (.iadd, 1) := by decide +kernel
theorem dL_law_1144 : decode cL_law 1144 = .ok (.iaload, 1) := by decide +kernel
theorem dL_law_1145 : decode cL_law 1145 = .ok (.invokevirtual 176, 3) := by decide +kernel
theorem dL_law_1148 : decode cL_law 1148 = .ok (.if_icmp .eq 234, 3) := by decide +kernel
theorem dL_law_1151 : decode cL_law 1151 = .ok (.iconst 0, 1) := by decide +kernel
theorem dL_law_1152 : decode cL_law 1152 = .ok (.ireturn, 1) := by decide +kernel
theorem dL_law_1153 : decode cL_law 1153 = .ok (.aload_n 1, 1) := by decide +kernel
theorem dL_law_1154 : decode cL_law 1154 = .ok (.aload_n 0, 1) := by decide +kernel
theorem dL_law_1155 : decode cL_law 1155 = .ok (.iload 4, 2) := by decide +kernel
theorem dL_law_1157 : decode cL_law 1157 = .ok (.iconst 1, 1) := by decide +kernel
theorem dL_law_1158 : decode cL_law 1158 = .ok (.iadd, 1) := by decide +kernel
theorem dL_law_1159 : decode cL_law 1159 = .ok (.iaload, 1) := by decide +kernel
theorem dL_law_1160 : decode cL_law 1160 = .ok (.aload_n 0, 1) := by decide +kernel
theorem dL_law_1161 : decode cL_law 1161 = .ok (.iload 4, 2) := by decide +kernel
theorem dL_law_1163 : decode cL_law 1163 = .ok (.iconst 2, 1) := by decide +kernel
theorem dL_law_1164 : decode cL_law 1164 = .ok (.iadd, 1) := by decide +kernel
theorem dL_law_1165 : decode cL_law 1165 = .ok (.iaload, 1) := by decide +kernel
theorem dL_law_1166 : decode cL_law 1166 = .ok (.aload_n 0, 1) := by decide +kernel
theorem dL_law_1167 : decode cL_law 1167 = .ok (.iload 4, 2) := by decide +kernel
theorem dL_law_1169 : decode cL_law 1169 = .ok (.iconst 3, 1) := by decide +kernel
theorem dL_law_1170 : decode cL_law 1170 = .ok (.iadd, 1) := by decide +kernel
theorem dL_law_1171 : decode cL_law 1171 = .ok (.iaload, 1) := by decide +kernel
theorem dL_law_1172 : decode cL_law 1172 = .ok (.aload_n 3, 1) := by decide +kernel
theorem dL_law_1173 : decode cL_law 1173 = .ok (.invokestatic 177, 3) := by decide +kernel
theorem dL_law_1176 : decode cL_law 1176 = .ok (.istore 5, 2) := by decide +kernel
theorem dL_law_1178 : decode cL_law 1178 = .ok (.aload_n 2, 1) := by decide +kernel
theorem dL_law_1179 : decode cL_law 1179 = .ok (.aload_n 0, 1) := by decide +kernel
theorem dL_law_1180 : decode cL_law 1180 = .ok (.iload 4, 2) := by decide +kernel
theorem dL_law_1182 : decode cL_law 1182 = .ok (.iconst 1, 1) := by decide +kernel
theorem dL_law_1183 : decode cL_law 1183 = .ok (.iadd, 1) := by decide +kernel
theorem dL_law_1184 : decode cL_law 1184 = .ok (.iaload, 1) := by decide +kernel
theorem dL_law_1185 : decode cL_law 1185 = .ok (.aload_n 0, 1) := by decide +kernel
theorem dL_law_1186 : decode cL_law 1186 = .ok (.iload 4, 2) := by decide +kernel
theorem dL_law_1188 : decode cL_law 1188 = .ok (.iconst 2, 1) := by decide +kernel
theorem dL_law_1189 : decode cL_law 1189 = .ok (.iadd, 1) := by decide +kernel
theorem dL_law_1190 : decode cL_law 1190 = .ok (.iaload, 1) := by decide +kernel
theorem dL_law_1191 : decode cL_law 1191 = .ok (.aload_n 0, 1) := by decide +kernel
theorem dL_law_1192 : decode cL_law 1192 = .ok (.iload 4, 2) := by decide +kernel
theorem dL_law_1194 : decode cL_law 1194 = .ok (.iconst 3, 1) := by decide +kernel
theorem dL_law_1195 : decode cL_law 1195 = .ok (.iadd, 1) := by decide +kernel
theorem dL_law_1196 : decode cL_law 1196 = .ok (.iaload, 1) := by decide +kernel
theorem dL_law_1197 : decode cL_law 1197 = .ok (.invokevirtual 180, 3) := by decide +kernel
theorem dL_law_1200 : decode cL_law 1200 = .ok (.lstore 6, 2) := by decide +kernel
theorem dL_law_1202 : decode cL_law 1202 = .ok (.aload_n 2, 1) := by decide +kernel
theorem dL_law_1203 : decode cL_law 1203 = .ok (.invokevirtual 51, 3) := by decide +kernel
theorem dL_law_1206 : decode cL_law 1206 = .ok (.iload 5, 2) := by decide +kernel
theorem dL_law_1208 : decode cL_law 1208 = .ok (.if_icmp .eq 5, 3) := by decide +kernel
theorem dL_law_1211 : decode cL_law 1211 = .ok (.iconst 0, 1) := by decide +kernel
theorem dL_law_1212 : decode cL_law 1212 = .ok (.ireturn, 1) := by decide +kernel
theorem dL_law_1213 : decode cL_law 1213 = .ok (.iload 5, 2) := by decide +kernel
theorem dL_law_1215 : decode cL_law 1215 = .ok (.ifCond .ne 14, 3) := by decide +kernel
theorem dL_law_1218 : decode cL_law 1218 = .ok (.aload_n 3, 1) := by decide +kernel
theorem dL_law_1219 : decode cL_law 1219 = .ok (.iconst 0, 1) := by decide +kernel
theorem dL_law_1220 : decode cL_law 1220 = .ok (.laload, 1) := by decide +kernel
theorem dL_law_1221 : decode cL_law 1221 = .ok (.lload 6, 2) := by decide +kernel
theorem dL_law_1223 : decode cL_law 1223 = .ok (.lcmp, 1) := by decide +kernel
theorem dL_law_1224 : decode cL_law 1224 = .ok (.ifCond .eq 5, 3) := by decide +kernel
theorem dL_law_1227 : decode cL_law 1227 = .ok (.iconst 0, 1) := by decide +kernel
theorem dL_law_1228 : decode cL_law 1228 = .ok (.ireturn, 1) := by decide +kernel
theorem dL_law_1229 : decode cL_law 1229 = .ok (.goto 153, 3) := by decide +kernel
theorem dL_law_1232 : decode cL_law 1232 = .ok (.aload_n 1, 1) := by decide +kernel
theorem dL_law_1233 : decode cL_law 1233 = .ok (.invokevirtual 181, 3) := by decide +kernel
theorem dL_law_1236 : decode cL_law 1236 = .ok (.aload_n 2, 1) := by decide +kernel
theorem dL_law_1237 : decode cL_law 1237 = .ok (.invokevirtual 184, 3) := by decide +kernel
theorem dL_law_1240 : decode cL_law 1240 = .ok (.if_icmp .eq 142, 3) := by decide +kernel
theorem dL_law_1243 : decode cL_law 1243 = .ok (.iconst 0, 1) := by decide +kernel
theorem dL_law_1244 : decode cL_law 1244 = .ok (.ireturn, 1) := by decide +kernel
theorem dL_law_1245 : decode cL_law 1245 = .ok (.aload_n 1, 1) := by decide +kernel
theorem dL_law_1246 : decode cL_law 1246 = .ok (.aload_n 0, 1) := by decide +kernel
theorem dL_law_1247 : decode cL_law 1247 = .ok (.iload 4, 2) := by decide +kernel
theorem dL_law_1249 : decode cL_law 1249 = .ok (.iconst 1, 1) := by decide +kernel
theorem dL_law_1250 : decode cL_law 1250 = .ok (.iadd, 1) := by decide +kernel
theorem dL_law_1251 : decode cL_law 1251 = .ok (.iaload, 1) := by decide +kernel
theorem dL_law_1252 : decode cL_law 1252 = .ok (.invokevirtual 185, 3) := by decide +kernel
theorem dL_law_1255 : decode cL_law 1255 = .ok (.aload_n 2, 1) := by decide +kernel
theorem dL_law_1256 : decode cL_law 1256 = .ok (.aload_n 0, 1) := by decide +kernel
theorem dL_law_1257 : decode cL_law 1257 = .ok (.iload 4, 2) := by decide +kernel
theorem dL_law_1259 : decode cL_law 1259 = .ok (.iconst 1, 1) := by decide +kernel
theorem dL_law_1260 : decode cL_law 1260 = .ok (.iadd, 1) := by decide +kernel
theorem dL_law_1261 : decode cL_law 1261 = .ok (.iaload, 1) := by decide +kernel
theorem dL_law_1262 : decode cL_law 1262 = .ok (.invokevirtual 188, 3) := by decide +kernel
theorem dL_law_1265 : decode cL_law 1265 = .ok (.if_icmp .eq 117, 3) := by decide +kernel
theorem dL_law_1268 : decode cL_law 1268 = .ok (.iconst 0, 1) := by decide +kernel
theorem dL_law_1269 : decode cL_law 1269 = .ok (.ireturn, 1) := by decide +kernel
theorem dL_law_1270 : decode cL_law 1270 = .ok (.aload_n 1, 1) := by decide +kernel
theorem dL_law_1271 : decode cL_law 1271 = .ok (.aload_n 0, 1) := by decide +kernel
theorem dL_law_1272 : decode cL_law 1272 = .ok (.iload 4, 2) := by decide +kernel
theorem dL_law_1274 : decode cL_law 1274 = .ok (.iconst 1, 1) := by decide +kernel
theorem dL_law_1275 : decode cL_law 1275 = .ok (.iadd, 1) := by decide +kernel
theorem dL_law_1276 : decode cL_law 1276 = .ok (.iaload, 1) := by decide +kernel
theorem dL_law_1277 : decode cL_law 1277 = .ok (.aload_n 0, 1) := by decide +kernel
theorem dL_law_1278 : decode cL_law 1278 = .ok (.iload 4, 2) := by decide +kernel
theorem dL_law_1280 : decode cL_law 1280 = .ok (.iconst 2, 1) := by decide +kernel
theorem dL_law_1281 : decode cL_law 1281 = .ok (.iadd, 1) := by decide +kernel
theorem dL_law_1282 : decode cL_law 1282 = .ok (.iaload, 1) := by decide +kernel
theorem dL_law_1283 : decode cL_law 1283 = .ok (.invokevirtual 189, 3) := by decide +kernel
theorem dL_law_1286 : decode cL_law 1286 = .ok (.aload_n 2, 1) := by decide +kernel
theorem dL_law_1287 : decode cL_law 1287 = .ok (.aload_n 0, 1) := by decide +kernel
theorem dL_law_1288 : decode cL_law 1288 = .ok (.iload 4, 2) := by decide +kernel
theorem dL_law_1290 : decode cL_law 1290 = .ok (.iconst 1, 1) := by decide +kernel
theorem dL_law_1291 : decode cL_law 1291 = .ok (.iadd, 1) := by decide +kernel
theorem dL_law_1292 : decode cL_law 1292 = .ok (.iaload, 1) := by decide +kernel
theorem dL_law_1293 : decode cL_law 1293 = .ok (.aload_n 0, 1) := by decide +kernel
theorem dL_law_1294 : decode cL_law 1294 = .ok (.iload 4, 2) := by decide +kernel
theorem dL_law_1296 : decode cL_law 1296 = .ok (.iconst 2, 1) := by decide +kernel
theorem dL_law_1297 : decode cL_law 1297 = .ok (.iadd, 1) := by decide +kernel
theorem dL_law_1298 : decode cL_law 1298 = .ok (.iaload, 1) := by decide +kernel
theorem dL_law_1299 : decode cL_law 1299 = .ok (.invokevirtual 192, 3) := by decide +kernel
theorem dL_law_1302 : decode cL_law 1302 = .ok (.if_icmp .eq 80, 3) := by decide +kernel
theorem dL_law_1305 : decode cL_law 1305 = .ok (.iconst 0, 1) := by decide +kernel
theorem dL_law_1306 : decode cL_law 1306 = .ok (.ireturn, 1) := by decide +kernel
theorem dL_law_1307 : decode cL_law 1307 = .ok (.aload_n 1, 1) := by decide +kernel
theorem dL_law_1308 : decode cL_law 1308 = .ok (.aload_n 0, 1) := by decide +kernel
theorem dL_law_1309 : decode cL_law 1309 = .ok (.iload 4, 2) := by decide +kernel
theorem dL_law_1311 : decode cL_law 1311 = .ok (.iconst 1, 1) := by decide +kernel
theorem dL_law_1312 : decode cL_law 1312 = .ok (.iadd, 1) := by decide +kernel
theorem dL_law_1313 : decode cL_law 1313 = .ok (.iaload, 1) := by decide +kernel
theorem dL_law_1314 : decode cL_law 1314 = .ok (.invokevirtual 193, 3) := by decide +kernel
theorem dL_law_1317 : decode cL_law 1317 = .ok (.aload_n 2, 1) := by decide +kernel
theorem dL_law_1318 : decode cL_law 1318 = .ok (.aload_n 0, 1) := by decide +kernel
theorem dL_law_1319 : decode cL_law 1319 = .ok (.iload 4, 2) := by decide +kernel
theorem dL_law_1321 : decode cL_law 1321 = .ok (.iconst 1, 1) := by decide +kernel
theorem dL_law_1322 : decode cL_law 1322 = .ok (.iadd, 1) := by decide +kernel
theorem dL_law_1323 : decode cL_law 1323 = .ok (.iaload, 1) := by decide +kernel
theorem dL_law_1324 : decode cL_law 1324 = .ok (.invokevirtual 196, 3) := by decide +kernel
theorem dL_law_1327 : decode cL_law 1327 = .ok (.if_icmp .eq 55, 3) := by decide +kernel
theorem dL_law_1330 : decode cL_law 1330 = .ok (.iconst 0, 1) := by decide +kernel
theorem dL_law_1331 : decode cL_law 1331 = .ok (.ireturn, 1) := by decide +kernel
theorem dL_law_1332 : decode cL_law 1332 = .ok (.aload_n 1, 1) := by decide +kernel
theorem dL_law_1333 : decode cL_law 1333 = .ok (.aload_n 0, 1) := by decide +kernel
theorem dL_law_1334 : decode cL_law 1334 = .ok (.iload 4, 2) := by decide +kernel
theorem dL_law_1336 : decode cL_law 1336 = .ok (.iconst 1, 1) := by decide +kernel
theorem dL_law_1337 : decode cL_law 1337 = .ok (.iadd, 1) := by decide +kernel
theorem dL_law_1338 : decode cL_law 1338 = .ok (.iaload, 1) := by decide +kernel
theorem dL_law_1339 : decode cL_law 1339 = .ok (.invokevirtual 197, 3) := by decide +kernel
theorem dL_law_1342 : decode cL_law 1342 = .ok (.aload_n 2, 1) := by decide +kernel
theorem dL_law_1343 : decode cL_law 1343 = .ok (.aload_n 0, 1) := by decide +kernel
theorem dL_law_1344 : decode cL_law 1344 = .ok (.iload 4, 2) := by decide +kernel
theorem dL_law_1346 : decode cL_law 1346 = .ok (.iconst 1, 1) := by decide +kernel
theorem dL_law_1347 : decode cL_law 1347 = .ok (.iadd, 1) := by decide +kernel
theorem dL_law_1348 : decode cL_law 1348 = .ok (.iaload, 1) := by decide +kernel
theorem dL_law_1349 : decode cL_law 1349 = .ok (.invokevirtual 200, 3) := by decide +kernel
theorem dL_law_1352 : decode cL_law 1352 = .ok (.if_icmp .eq 30, 3) := by decide +kernel
theorem dL_law_1355 : decode cL_law 1355 = .ok (.iconst 0, 1) := by decide +kernel
theorem dL_law_1356 : decode cL_law 1356 = .ok (.ireturn, 1) := by decide +kernel
theorem dL_law_1357 : decode cL_law 1357 = .ok (.aload_n 1, 1) := by decide +kernel
theorem dL_law_1358 : decode cL_law 1358 = .ok (.aload_n 0, 1) := by decide +kernel
theorem dL_law_1359 : decode cL_law 1359 = .ok (.iload 4, 2) := by decide +kernel
theorem dL_law_1361 : decode cL_law 1361 = .ok (.iconst 1, 1) := by decide +kernel
theorem dL_law_1362 : decode cL_law 1362 = .ok (.iadd, 1) := by decide +kernel
theorem dL_law_1363 : decode cL_law 1363 = .ok (.iaload, 1) := by decide +kernel
theorem dL_law_1364 : decode cL_law 1364 = .ok (.invokevirtual 201, 3) := by decide +kernel
theorem dL_law_1367 : decode cL_law 1367 = .ok (.aload_n 2, 1) := by decide +kernel
theorem dL_law_1368 : decode cL_law 1368 = .ok (.aload_n 0, 1) := by decide +kernel
theorem dL_law_1369 : decode cL_law 1369 = .ok (.iload 4, 2) := by decide +kernel
theorem dL_law_1371 : decode cL_law 1371 = .ok (.iconst 1, 1) := by decide +kernel
theorem dL_law_1372 : decode cL_law 1372 = .ok (.iadd, 1) := by decide +kernel
theorem dL_law_1373 : decode cL_law 1373 = .ok (.iaload, 1) := by decide +kernel
theorem dL_law_1374 : decode cL_law 1374 = .ok (.invokevirtual 204, 3) := by decide +kernel
theorem dL_law_1377 : decode cL_law 1377 = .ok (.if_icmp .eq 5, 3) := by decide +kernel
theorem dL_law_1380 : decode cL_law 1380 = .ok (.iconst 0, 1) := by decide +kernel
theorem dL_law_1381 : decode cL_law 1381 = .ok (.ireturn, 1) := by decide +kernel
theorem dL_law_1382 : decode cL_law 1382 = .ok (.iinc 4 6, 3) := by decide +kernel
theorem dL_law_1385 : decode cL_law 1385 = .ok (.goto (-1362), 3) := by decide +kernel
theorem dL_law_1388 : decode cL_law 1388 = .ok (.iconst 1, 1) := by decide +kernel
theorem dL_law_1389 : decode cL_law 1389 = .ok (.ireturn, 1) := by decide +kernel
