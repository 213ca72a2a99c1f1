theorem dX3_init_0 : decode cX3_init 0 = .ok (.aload_n 0, 1) := by decide +kernel
theorem dX3_init_1 : decode cX3_init 1 = .ok (.invokespecial 1, 3) := by decide +kernel
theorem dX3_init_4 : decode cX3_init 4 = .ok (.aload_n 0, 1) := by decide +kernel
theorem dX3_init_5 : decode cX3_init 5 = .ok (.bipush 30, 2) := by decide +kernel
theorem dX3_init_7 : decode cX3_init 7 = .ok (.newarray .boolean, 2) := by decide +kernel
theorem dX3_init_9 : decode cX3_init 9 = .ok (.putfield 7, 3) := by decide +kernel
theorem dX3_init_12 : decode cX3_init 12 = .ok (.aload_n 0, 1) := by decide +kernel
theorem dX3_init_13 : decode cX3_init 13 = .ok (.bipush 30, 2) := by decide +kernel
theorem dX3_init_15 : decode cX3_init 15 = .ok (.newarray .int, 2) := by decide +kernel
theorem dX3_init_17 : decode cX3_init 17 = .ok (.putfield 13, 3) := by decide +kernel
theorem dX3_init_20 : decode cX3_init 20 = .ok (.aload_n 0, 1) := by decide +kernel
theorem dX3_init_21 : decode cX3_init 21 = .ok (.bipush 30, 2) := by decide +kernel
theorem dX3_init_23 : decode cX3_init 23 = .ok (.newarray .int, 2) := by decide +kernel
theorem dX3_init_25 : decode cX3_init 25 = .ok (.putfield 17, 3) := by decide +kernel
theorem dX3_init_28 : decode cX3_init 28 = .ok (.aload_n 0, 1) := by decide +kernel
theorem dX3_init_29 : decode cX3_init 29 = .ok (.bipush 30, 2) := by decide +kernel
theorem dX3_init_31 : decode cX3_init 31 = .ok (.newarray .int, 2) := by decide +kernel
theorem dX3_init_33 : decode cX3_init 33 = .ok (.putfield 20, 3) := by decide +kernel
theorem dX3_init_36 : decode cX3_init 36 = .ok (.aload_n 0, 1) := by decide +kernel
theorem dX3_init_37 : decode cX3_init 37 = .ok (.bipush 30, 2) := by decide +kernel
theorem dX3_init_39 : decode cX3_init 39 = .ok (.newarray .int, 2) := by decide +kernel
theorem dX3_init_41 : decode cX3_init 41 = .ok (.putfield 23, 3) := by decide +kernel
theorem dX3_init_44 : decode cX3_init 44 = .ok (.aload_n 0, 1) := by decide +kernel
theorem dX3_init_45 : decode cX3_init 45 = .ok (.bipush 30, 2) := by decide +kernel
theorem dX3_init_47 : decode cX3_init 47 = .ok (.newarray .int, 2) := by decide +kernel
theorem dX3_init_49 : decode cX3_init 49 = .ok (.putfield 26, 3) := by decide +kernel
theorem dX3_init_52 : decode cX3_init 52 = .ok (.aload_n 0, 1) := by decide +kernel
theorem dX3_init_53 : decode cX3_init 53 = .ok (.bipush 30, 2) := by decide +kernel
theorem dX3_init_55 : decode cX3_init 55 = .ok (.newarray .boolean, 2) := by decide +kernel
theorem dX3_init_57 : decode cX3_init 57 = .ok (.putfield 29, 3) := by decide +kernel
theorem dX3_init_60 : decode cX3_init 60 = .ok (.aload_n 0, 1) := by decide +kernel
theorem dX3_init_61 : decode cX3_init 61 = .ok (.bipush 30, 2) := by decide +kernel
theorem dX3_init_63 : decode cX3_init 63 = .ok (.newarray .int, 2) := by decide +kernel
theorem dX3_init_65 : decode cX3_init 65 = .ok (.putfield 32, 3) := by decide +kernel
theorem dX3_init_68 : decode cX3_init 68 = .ok (.aload_n 0, 1) := by decide +kernel
theorem dX3_init_69 : decode cX3_init 69 = .ok (.bipush 30, 2) := by decide +kernel
theorem dX3_init_71 : decode cX3_init 71 = .ok (.newarray .boolean, 2) := by decide +kernel
theorem dX3_init_73 : decode cX3_init 73 = .ok (.putfield 35, 3) := by decide +kernel
theorem dX3_init_76 : decode cX3_init 76 = .ok (.aload_n 0, 1) := by decide +kernel
theorem dX3_init_77 : decode cX3_init 77 = .ok (.bipush 30, 2) := by decide +kernel
theorem dX3_init_79 : decode cX3_init 79 = .ok (.newarray .int, 2) := by decide +kernel
theorem dX3_init_81 : decode cX3_init 81 = .ok (.putfield 38, 3) := by decide +kernel
theorem dX3_init_84 : decode cX3_init 84 = .ok (.aload_n 0, 1) := by decide +kernel
theorem dX3_init_85 : decode cX3_init 85 = .ok (.bipush 30, 2) := by decide +kernel
theorem dX3_init_87 : decode cX3_init 87 = .ok (.newarray .int, 2) := by decide +kernel
theorem dX3_init_89 : decode cX3_init 89 = .ok (.putfield 41, 3) := by decide +kernel
theorem dX3_init_92 : decode cX3_init 92 = .ok (.aload_n 0, 1) := by decide +kernel
theorem dX3_init_93 : decode cX3_init 93 = .ok (.bipush 30, 2) := by decide +kernel
theorem dX3_init_95 : decode cX3_init 95 = .ok (.newarray .boolean, 2) := by decide +kernel
theorem dX3_init_97 : decode cX3_init 97 = .ok (.putfield 44, 3) := by decide +kernel
theorem dX3_init_100 : decode cX3_init 100 = .ok (.aload_n 0, 1) := by decide +kernel
theorem dX3_init_101 : decode cX3_init 101 = .ok (.bipush 30, 2) := by decide +kernel
theorem dX3_init_103 : decode cX3_init 103 = .ok (.newarray .int, 2) := by decide +kernel
theorem dX3_init_105 : decode cX3_init 105 = .ok (.putfield 47, 3) := by decide +kernel
theorem dX3_init_108 : decode cX3_init 108 = .ok (.aload_n 0, 1) := by decide +kernel
theorem dX3_init_109 : decode cX3_init 109 = .ok (.bipush 60, 2) := by decide +kernel
theorem dX3_init_111 : decode cX3_init 111 = .ok (.newarray .int, 2) := by decide +kernel
theorem dX3_init_113 : decode cX3_init 113 = .ok (.putfield 50, 3) := by decide +kernel
theorem dX3_init_116 : decode cX3_init 116 = .ok (.iconst 0, 1) := by decide +kernel
theorem dX3_init_117 : decode cX3_init 117 = .ok (.istore_n 1, 1) := by decide +kernel
theorem dX3_init_118 : decode cX3_init 118 = .ok (.iload_n 1, 1) := by decide +kernel
theorem dX3_init_119 : decode cX3_init 119 = .ok (.bipush 30, 2) := by decide +kernel
theorem dX3_init_121 : decode cX3_init 121 = .ok (.if_icmp .ge 16, 3) := by decide +kernel
theorem dX3_init_124 : decode cX3_init 124 = .ok (.aload_n 0, 1) := by decide +kernel
theorem dX3_init_125 : decode cX3_init 125 = .ok (.getfield 32, 3) := by decide +kernel
theorem dX3_init_128 : decode cX3_init 128 = .ok (.iload_n 1, 1) := by decide +kernel
theorem dX3_init_129 : decode cX3_init 129 = .ok (.iconst (-1), 1) := by decide +kernel
theorem dX3_init_130 : decode cX3_init 130 = .ok (.iastore, 1) := by decide +kernel
theorem dX3_init_131 : decode cX3_init 131 = .ok (.iinc 1 1, 3) := by decide +kernel
theorem dX3_init_134 : decode cX3_init 134 = .ok (.goto (-16), 3) := by decide +kernel
theorem dX3_init_137 : decode cX3_init 137 = .ok (.return_, 1) := by decide +kernel
theorem dX3_thrown_0 : decode cX3_thrown 0 = .ok (.aload_n 0, 1) := by decide +kernel
theorem dX3_thrown_1 : decode cX3_thrown 1 = .ok (.getfield 53, 3) := by decide +kernel
theorem dX3_thrown_4 : decode cX3_thrown 4 = .ok (.ireturn, 1) := by decide +kernel
theorem dX3_in_0 : decode cX3_in 0 = .ok (.iload_n 0, 1) := by decide +kernel
theorem dX3_in_1 : decode cX3_in 1 = .ok (.iload_n 1, 1) := by decide +kernel
theorem dX3_in_2 : decode cX3_in 2 = .ok (.if_icmp .lt 12, 3) := by decide +kernel
theorem dX3_in_5 : decode cX3_in 5 = .ok (.iload_n 0, 1) := by decide +kernel
theorem dX3_in_6 : decode cX3_in 6 = .ok (.iload_n 2, 1) := by decide +kernel
theorem dX3_in_7 : decode cX3_in 7 = .ok (.if_icmp .gt 7, 3) := by decide +kernel
theorem dX3_in_10 : decode cX3_in 10 = .ok (.iconst 1, 1) := by decide +kernel
theorem dX3_in_11 : decode cX3_in 11 = .ok (.goto 4, 3) := by decide +kernel
theorem dX3_in_14 : decode cX3_in 14 = .ok (.iconst 0, 1) := by decide +kernel
theorem dX3_in_15 : decode cX3_in 15 = .ok (.ireturn, 1) := by decide +kernel
theorem dX3_asked_0 : decode cX3_asked 0 = .ok (.aload_n 0, 1) := by decide +kernel
theorem dX3_asked_1 : decode cX3_asked 1 = .ok (.iload_n 1, 1) := by decide +kernel
theorem dX3_asked_2 : decode cX3_asked 2 = .ok (.ifCond .eq 7, 3) := by decide +kernel
theorem dX3_asked_5 : decode cX3_asked 5 = .ok (.iconst 0, 1) := by decide +kernel
theorem dX3_asked_6 : decode cX3_asked 6 = .ok (.goto 4, 3) := by decide +kernel
theorem dX3_asked_9 : decode cX3_asked 9 = .ok (.iconst 1, 1) := by decide +kernel
theorem dX3_asked_10 : decode cX3_asked 10 = .ok (.putfield 53, 3) := by decide +kernel
theorem dX3_asked_13 : decode cX3_asked 13 = .ok (.iload_n 1, 1) := by decide +kernel
theorem dX3_asked_14 : decode cX3_asked 14 = .ok (.ireturn, 1) := by decide +kernel
theorem dX3_asked__0 : decode cX3_asked_ 0 = .ok (.aload_n 0, 1) := by decide +kernel
theorem dX3_asked__1 : decode cX3_asked_ 1 = .ok (.iload_n 1, 1) := by decide +kernel
theorem dX3_asked__2 : decode cX3_asked_ 2 = .ok (.ifCond .ne 7, 3) := by decide +kernel
theorem dX3_asked__5 : decode cX3_asked_ 5 = .ok (.iconst 1, 1) := by decide +kernel
theorem dX3_asked__6 : decode cX3_asked_ 6 = .ok (.goto 12, 3) := by decide +kernel
theorem dX3_asked__9 : decode cX3_asked_ 9 = .ok (.iload_n 2, 1) := by decide +kernel
theorem dX3_asked__10 : decode cX3_asked_ 10 = .ok (.ifCond .eq 7, 3) := by decide +kernel
theorem dX3_asked__13 : decode cX3_asked_ 13 = .ok (.iconst 0, 1) := by decide +kernel
theorem dX3_asked__14 : decode cX3_asked_ 14 = .ok (.goto 4, 3) := by decide +kernel
theorem dX3_asked__17 : decode cX3_asked_ 17 = .ok (.iconst 2, 1) := by decide +kernel
theorem dX3_asked__18 : decode cX3_asked_ 18 = .ok (.putfield 53, 3) := by decide +kernel
theorem dX3_asked__21 : decode cX3_asked_ 21 = .ok (.aload_n 0, 1) := by decide +kernel
theorem dX3_asked__22 : decode cX3_asked_ 22 = .ok (.getfield 53, 3) := by decide +kernel
theorem dX3_asked__25 : decode cX3_asked_ 25 = .ok (.ifCond .ne 7, 3) := by decide +kernel
theorem dX3_asked__28 : decode cX3_asked_ 28 = .ok (.iconst 1, 1) := by decide +kernel
theorem dX3_asked__29 : decode cX3_asked_ 29 = .ok (.goto 4, 3) := by decide +kernel
theorem dX3_asked__32 : decode cX3_asked_ 32 = .ok (.iconst 0, 1) := by decide +kernel
theorem dX3_asked__33 : decode cX3_asked_ 33 = .ok (.ireturn, 1) := by decide +kernel
theorem dX3_isId_0 : decode cX3_isId 0 = .ok (.iload_n 0, 1) := by decide +kernel
theorem dX3_isId_1 : decode cX3_isId 1 = .ok (.iconst 0, 1) := by decide +kernel
theorem dX3_isId_2 : decode cX3_isId 2 = .ok (.bipush 29, 2) := by decide +kernel
theorem dX3_isId_4 : decode cX3_isId 4 = .ok (.invokestatic 57, 3) := by decide +kernel
theorem dX3_isId_7 : decode cX3_isId 7 = .ok (.ireturn, 1) := by decide +kernel
theorem dX3_knows_0 : decode cX3_knows 0 = .ok (.iconst 0, 1) := by decide +kernel
theorem dX3_knows_1 : decode cX3_knows 1 = .ok (.istore_n 1, 1) := by decide +kernel
theorem dX3_knows_2 : decode cX3_knows 2 = .ok (.iload_n 1, 1) := by decide +kernel
theorem dX3_knows_3 : decode cX3_knows 3 = .ok (.bipush 30, 2) := by decide +kernel
theorem dX3_knows_5 : decode cX3_knows 5 = .ok (.if_icmp .ge 16, 3) := by decide +kernel
theorem dX3_knows_8 : decode cX3_knows 8 = .ok (.aload_n 0, 1) := by decide +kernel
theorem dX3_knows_9 : decode cX3_knows 9 = .ok (.getfield 35, 3) := by decide +kernel
theorem dX3_knows_12 : decode cX3_knows 12 = .ok (.iload_n 1, 1) := by decide +kernel
theorem dX3_knows_13 : decode cX3_knows 13 = .ok (.iconst 0, 1) := by decide +kernel
theorem dX3_knows_14 : decode cX3_knows 14 = .ok (.bastore, 1) := by decide +kernel
theorem dX3_knows_15 : decode cX3_knows 15 = .ok (.iinc 1 1, 3) := by decide +kernel
theorem dX3_knows_18 : decode cX3_knows 18 = .ok (.goto (-16), 3) := by decide +kernel
theorem dX3_knows_21 : decode cX3_knows 21 = .ok (.iconst 0, 1) := by decide +kernel
theorem dX3_knows_22 : decode cX3_knows 22 = .ok (.istore_n 1, 1) := by decide +kernel
theorem dX3_knows_23 : decode cX3_knows 23 = .ok (.iload_n 1, 1) := by decide +kernel
theorem dX3_knows_24 : decode cX3_knows 24 = .ok (.bipush 30, 2) := by decide +kernel
theorem dX3_knows_26 : decode cX3_knows 26 = .ok (.if_icmp .ge 90, 3) := by decide +kernel
theorem dX3_knows_29 : decode cX3_knows 29 = .ok (.aload_n 0, 1) := by decide +kernel
theorem dX3_knows_30 : decode cX3_knows 30 = .ok (.getfield 7, 3) := by decide +kernel
theorem dX3_knows_33 : decode cX3_knows 33 = .ok (.iload_n 1, 1) := by decide +kernel
theorem dX3_knows_34 : decode cX3_knows 34 = .ok (.baload, 1) := by decide +kernel
theorem dX3_knows_35 : decode cX3_knows 35 = .ok (.ifCond .eq 75, 3) := by decide +kernel
theorem dX3_knows_38 : decode cX3_knows 38 = .ok (.aload_n 0, 1) := by decide +kernel
theorem dX3_knows_39 : decode cX3_knows 39 = .ok (.getfield 35, 3) := by decide +kernel
theorem dX3_knows_42 : decode cX3_knows 42 = .ok (.iload_n 1, 1) := by decide +kernel
theorem dX3_knows_43 : decode cX3_knows 43 = .ok (.iconst 1, 1) := by decide +kernel
theorem dX3_knows_44 : decode cX3_knows 44 = .ok (.bastore, 1) := by decide +kernel
theorem dX3_knows_45 : decode cX3_knows 45 = .ok (.aload_n 0, 1) := by decide +kernel
theorem dX3_knows_46 : decode cX3_knows 46 = .ok (.getfield 13, 3) := by decide +kernel
theorem dX3_knows_49 : decode cX3_knows 49 = .ok (.iload_n 1, 1) := by decide +kernel
theorem dX3_knows_50 : decode cX3_knows 50 = .ok (.iaload, 1) := by decide +kernel
theorem dX3_knows_51 : decode cX3_knows 51 = .ok (.iconst (-1), 1) := by decide +kernel
theorem dX3_knows_52 : decode cX3_knows 52 = .ok (.if_icmp .eq 15, 3) := by decide +kernel
theorem dX3_knows_55 : decode cX3_knows 55 = .ok (.aload_n 0, 1) := by decide +kernel
theorem dX3_knows_56 : decode cX3_knows 56 = .ok (.getfield 35, 3) := by decide +kernel
theorem dX3_knows_59 : decode cX3_knows 59 = .ok (.aload_n 0, 1) := by decide +kernel
theorem dX3_knows_60 : decode cX3_knows 60 = .ok (.getfield 13, 3) := by decide +kernel
theorem dX3_knows_63 : decode cX3_knows 63 = .ok (.iload_n 1, 1) := by decide +kernel
theorem dX3_knows_64 : decode cX3_knows 64 = .ok (.iaload, 1) := by decide +kernel
theorem dX3_knows_65 : decode cX3_knows 65 = .ok (.iconst 1, 1) := by decide +kernel
theorem dX3_knows_66 : decode cX3_knows 66 = .ok (.bastore, 1) := by decide +kernel
theorem dX3_knows_67 : decode cX3_knows 67 = .ok (.aload_n 0, 1) := by decide +kernel
theorem dX3_knows_68 : decode cX3_knows 68 = .ok (.getfield 17, 3) := by decide +kernel
theorem dX3_knows_71 : decode cX3_knows 71 = .ok (.iload_n 1, 1) := by decide +kernel
theorem dX3_knows_72 : decode cX3_knows 72 = .ok (.iaload, 1) := by decide +kernel
theorem dX3_knows_73 : decode cX3_knows 73 = .ok (.iconst (-1), 1) := by decide +kernel
theorem dX3_knows_74 : decode cX3_knows 74 = .ok (.if_icmp .eq 15, 3) := by decide +kernel
theorem dX3_knows_77 : decode cX3_knows 77 = .ok (.aload_n 0, 1) := by decide +kernel
theorem dX3_knows_78 : decode cX3_knows 78 = .ok (.getfield 35, 3) := by decide +kernel
theorem dX3_knows_81 : decode cX3_knows 81 = .ok (.aload_n 0, 1) := by decide +kernel
theorem dX3_knows_82 : decode cX3_knows 82 = .ok (.getfield 17, 3) := by decide +kernel
theorem dX3_knows_85 : decode cX3_knows 85 = .ok (.iload_n 1, 1) := by decide +kernel
theorem dX3_knows_86 : decode cX3_knows 86 = .ok (.iaload, 1) := by decide +kernel
theorem dX3_knows_87 : decode cX3_knows 87 = .ok (.iconst 1, 1) := by decide +kernel
theorem dX3_knows_88 : decode cX3_knows 88 = .ok (.bastore, 1) := by decide +kernel
theorem dX3_knows_89 : decode cX3_knows 89 = .ok (.aload_n 0, 1) := by decide +kernel
theorem dX3_knows_90 : decode cX3_knows 90 = .ok (.getfield 32, 3) := by decide +kernel
theorem dX3_knows_93 : decode cX3_knows 93 = .ok (.iload_n 1, 1) := by decide +kernel
theorem dX3_knows_94 : decode cX3_knows 94 = .ok (.iaload, 1) := by decide +kernel
theorem dX3_knows_95 : decode cX3_knows 95 = .ok (.ifCond .lt 15, 3) := by decide +kernel
theorem dX3_knows_98 : decode cX3_knows 98 = .ok (.aload_n 0, 1) := by decide +kernel
theorem dX3_knows_99 : decode cX3_knows 99 = .ok (.getfield 35, 3) := by decide +kernel
theorem dX3_knows_102 : decode cX3_knows 102 = .ok (.aload_n 0, 1) := by decide +kernel
theorem dX3_knows_103 : decode cX3_knows 103 = .ok (.getfield 32, 3) := by decide +kernel
theorem dX3_knows_106 : decode cX3_knows 106 = .ok (.iload_n 1, 1) := by decide +kernel
theorem dX3_knows_107 : decode cX3_knows 107 = .ok (.iaload, 1) := by decide +kernel
theorem dX3_knows_108 : decode cX3_knows 108 = .ok (.iconst 1, 1) := by decide +kernel
theorem dX3_knows_109 : decode cX3_knows 109 = .ok (.bastore, 1) := by decide +kernel
theorem dX3_knows_110 : decode cX3_knows 110 = .ok (.iinc 1 1, 3) := by decide +kernel
theorem dX3_knows_113 : decode cX3_knows 113 = .ok (.goto (-90), 3) := by decide +kernel
theorem dX3_knows_116 : decode cX3_knows 116 = .ok (.return_, 1) := by decide +kernel
theorem dX3_toldParent_0 : decode cX3_toldParent 0 = .ok (.aload_n 0, 1) := by decide +kernel
theorem dX3_toldParent_1 : decode cX3_toldParent 1 = .ok (.getfield 7, 3) := by decide +kernel
theorem dX3_toldParent_4 : decode cX3_toldParent 4 = .ok (.iload_n 1, 1) := by decide +kernel
theorem dX3_toldParent_5 : decode cX3_toldParent 5 = .ok (.baload, 1) := by decide +kernel
theorem dX3_toldParent_6 : decode cX3_toldParent 6 = .ok (.ifCond .eq 44, 3) := by decide +kernel
theorem dX3_toldParent_9 : decode cX3_toldParent 9 = .ok (.aload_n 0, 1) := by decide +kernel
theorem dX3_toldParent_10 : decode cX3_toldParent 10 = .ok (.getfield 32, 3) := by decide +kernel
theorem dX3_toldParent_13 : decode cX3_toldParent 13 = .ok (.iload_n 1, 1) := by decide +kernel
theorem dX3_toldParent_14 : decode cX3_toldParent 14 = .ok (.iaload, 1) := by decide +kernel
theorem dX3_toldParent_15 : decode cX3_toldParent 15 = .ok (.bipush (-2), 2) := by decide +kernel
theorem dX3_toldParent_17 : decode cX3_toldParent 17 = .ok (.if_icmp .ne 7, 3) := by decide +kernel
theorem dX3_toldParent_20 : decode cX3_toldParent 20 = .ok (.iconst (-1), 1) := by decide +kernel
theorem dX3_toldParent_21 : decode cX3_toldParent 21 = .ok (.goto 28, 3) := by decide +kernel
theorem dX3_toldParent_24 : decode cX3_toldParent 24 = .ok (.aload_n 0, 1) := by decide +kernel
theorem dX3_toldParent_25 : decode cX3_toldParent 25 = .ok (.getfield 32, 3) := by decide +kernel
theorem dX3_toldParent_28 : decode cX3_toldParent 28 = .ok (.iload_n 1, 1) := by decide +kernel
theorem dX3_toldParent_29 : decode cX3_toldParent 29 = .ok (.iaload, 1) := by decide +kernel
theorem dX3_toldParent_30 : decode cX3_toldParent 30 = .ok (.iconst (-1), 1) := by decide +kernel
theorem dX3_toldParent_31 : decode cX3_toldParent 31 = .ok (.if_icmp .ne 12, 3) := by decide +kernel
theorem dX3_toldParent_34 : decode cX3_toldParent 34 = .ok (.aload_n 0, 1) := by decide +kernel
theorem dX3_toldParent_35 : decode cX3_toldParent 35 = .ok (.getfield 13, 3) := by decide +kernel
theorem dX3_toldParent_38 : decode cX3_toldParent 38 = .ok (.iload_n 1, 1) := by decide +kernel
theorem dX3_toldParent_39 : decode cX3_toldParent 39 = .ok (.iaload, 1) := by decide +kernel
theorem dX3_toldParent_40 : decode cX3_toldParent 40 = .ok (.goto 9, 3) := by decide +kernel
theorem dX3_toldParent_43 : decode cX3_toldParent 43 = .ok (.aload_n 0, 1) := by decide +kernel
theorem dX3_toldParent_44 : decode cX3_toldParent 44 = .ok (.getfield 32, 3) := by decide +kernel
theorem dX3_toldParent_47 : decode cX3_toldParent 47 = .ok (.iload_n 1, 1) := by decide +kernel
theorem dX3_toldParent_48 : decode cX3_toldParent 48 = .ok (.iaload, 1) := by decide +kernel
theorem dX3_toldParent_49 : decode cX3_toldParent 49 = .ok (.ireturn, 1) := by decide +kernel
theorem dX3_toldParent_50 : decode cX3_toldParent 50 = .ok (.iconst 0, 1) := by decide +kernel
theorem dX3_toldParent_51 : decode cX3_toldParent 51 = .ok (.istore_n 2, 1) := by decide +kernel
theorem dX3_toldParent_52 : decode cX3_toldParent 52 = .ok (.iload_n 2, 1) := by decide +kernel
theorem dX3_toldParent_53 : decode cX3_toldParent 53 = .ok (.bipush 30, 2) := by decide +kernel
theorem dX3_toldParent_55 : decode cX3_toldParent 55 = .ok (.if_icmp .ge 45, 3) := by decide +kernel
theorem dX3_toldParent_58 : decode cX3_toldParent 58 = .ok (.aload_n 0, 1) := by decide +kernel
theorem dX3_toldParent_59 : decode cX3_toldParent 59 = .ok (.getfield 7, 3) := by decide +kernel
theorem dX3_toldParent_62 : decode cX3_toldParent 62 = .ok (.iload_n 2, 1) := by decide +kernel
theorem dX3_toldParent_63 : decode cX3_toldParent 63 = .ok (.baload, 1) := by decide +kernel
theorem dX3_toldParent_64 : decode cX3_toldParent 64 = .ok (.ifCond .eq 30, 3) := by decide +kernel
theorem dX3_toldParent_67 : decode cX3_toldParent 67 = .ok (.aload_n 0, 1) := by decide +kernel
theorem dX3_toldParent_68 : decode cX3_toldParent 68 = .ok (.getfield 13, 3) := by decide +kernel
theorem dX3_toldParent_71 : decode cX3_toldParent 71 = .ok (.iload_n 2, 1) := by decide +kernel
theorem dX3_toldParent_72 : decode cX3_toldParent 72 = .ok (.iaload, 1) := by decide +kernel
theorem dX3_toldParent_73 : decode cX3_toldParent 73 = .ok (.iload_n 1, 1) := by decide +kernel
theorem dX3_toldParent_74 : decode cX3_toldParent 74 = .ok (.if_icmp .ne 20, 3) := by decide +kernel
theorem dX3_toldParent_77 : decode cX3_toldParent 77 = .ok (.aload_n 0, 1) := by decide +kernel
theorem dX3_toldParent_78 : decode cX3_toldParent 78 = .ok (.getfield 17, 3) := by decide +kernel
theorem dX3_toldParent_81 : decode cX3_toldParent 81 = .ok (.iload_n 2, 1) := by decide +kernel
theorem dX3_toldParent_82 : decode cX3_toldParent 82 = .ok (.iaload, 1) := by decide +kernel
theorem dX3_toldParent_83 : decode cX3_toldParent 83 = .ok (.iconst (-1), 1) := by decide +kernel
theorem dX3_toldParent_84 : decode cX3_toldParent 84 = .ok (.if_icmp .eq 10, 3) := by decide +kernel
theorem dX3_toldParent_87 : decode cX3_toldParent 87 = .ok (.aload_n 0, 1) := by decide +kernel
theorem dX3_toldParent_88 : decode cX3_toldParent 88 = .ok (.getfield 17, 3) := by decide +kernel
theorem dX3_toldParent_91 : decode cX3_toldParent 91 = .ok (.iload_n 2, 1) := by decide +kernel
theorem dX3_toldParent_92 : decode cX3_toldParent 92 = .ok (.iaload, 1) := by decide +kernel
theorem dX3_toldParent_93 : decode cX3_toldParent 93 = .ok (.ireturn, 1) := by decide +kernel
theorem dX3_toldParent_94 : decode cX3_toldParent 94 = .ok (.iinc 2 1, 3) := by decide +kernel
theorem dX3_toldParent_97 : decode cX3_toldParent 97 = .ok (.goto (-45), 3) := by decide +kernel
theorem dX3_toldParent_100 : decode cX3_toldParent 100 = .ok (.iconst (-1), 1) := by decide +kernel
theorem dX3_toldParent_101 : decode cX3_toldParent 101 = .ok (.ireturn, 1) := by decide +kernel
theorem dX3_isBelow_0 : decode cX3_isBelow 0 = .ok (.iload_n 1, 1) := by decide +kernel
theorem dX3_isBelow_1 : decode cX3_isBelow 1 = .ok (.istore_n 3, 1) := by decide +kernel
theorem dX3_isBelow_2 : decode cX3_isBelow 2 = .ok (.iload_n 3, 1) := by decide +kernel
theorem dX3_isBelow_3 : decode cX3_isBelow 3 = .ok (.iconst (-1), 1) := by decide +kernel
theorem dX3_isBelow_4 : decode cX3_isBelow 4 = .ok (.if_icmp .eq 18, 3) := by decide +kernel
theorem dX3_isBelow_7 : decode cX3_isBelow 7 = .ok (.iload_n 3, 1) := by decide +kernel
theorem dX3_isBelow_8 : decode cX3_isBelow 8 = .ok (.iload_n 2, 1) := by decide +kernel
theorem dX3_isBelow_9 : decode cX3_isBelow 9 = .ok (.if_icmp .eq 13, 3) := by decide +kernel
theorem dX3_isBelow_12 : decode cX3_isBelow 12 = .ok (.aload_n 0, 1) := by decide +kernel
theorem dX3_isBelow_13 : decode cX3_isBelow 13 = .ok (.getfield 38, 3) := by decide +kernel
theorem dX3_isBelow_16 : decode cX3_isBelow 16 = .ok (.iload_n 3, 1) := by decide +kernel
theorem dX3_isBelow_17 : decode cX3_isBelow 17 = .ok (.iaload, 1) := by decide +kernel
theorem dX3_isBelow_18 : decode cX3_isBelow 18 = .ok (.istore_n 3, 1) := by decide +kernel
theorem dX3_isBelow_19 : decode cX3_isBelow 19 = .ok (.goto (-17), 3) := by decide +kernel
theorem dX3_isBelow_22 : decode cX3_isBelow 22 = .ok (.iload_n 3, 1) := by decide +kernel
theorem dX3_isBelow_23 : decode cX3_isBelow 23 = .ok (.iload_n 2, 1) := by decide +kernel
theorem dX3_isBelow_24 : decode cX3_isBelow 24 = .ok (.if_icmp .ne 7, 3) := by decide +kernel
theorem dX3_isBelow_27 : decode cX3_isBelow 27 = .ok (.iconst 1, 1) := by decide +kernel
theorem dX3_isBelow_28 : decode cX3_isBelow 28 = .ok (.goto 4, 3) := by decide +kernel
theorem dX3_isBelow_31 : decode cX3_isBelow 31 = .ok (.iconst 0, 1) := by decide +kernel
theorem dX3_isBelow_32 : decode cX3_isBelow 32 = .ok (.ireturn, 1) := by decide +kernel
theorem dX3_links_0 : decode cX3_links 0 = .ok (.iconst 0, 1) := by decide +kernel
theorem dX3_links_1 : decode cX3_links 1 = .ok (.istore_n 1, 1) := by decide +kernel
theorem dX3_links_2 : decode cX3_links 2 = .ok (.iload_n 1, 1) := by decide +kernel
theorem dX3_links_3 : decode cX3_links 3 = .ok (.bipush 30, 2) := by decide +kernel
theorem dX3_links_5 : decode cX3_links 5 = .ok (.if_icmp .ge 16, 3) := by decide +kernel
theorem dX3_links_8 : decode cX3_links 8 = .ok (.aload_n 0, 1) := by decide +kernel
theorem dX3_links_9 : decode cX3_links 9 = .ok (.getfield 38, 3) := by decide +kernel
theorem dX3_links_12 : decode cX3_links 12 = .ok (.iload_n 1, 1) := by decide +kernel
theorem dX3_links_13 : decode cX3_links 13 = .ok (.iconst (-1), 1) := by decide +kernel
theorem dX3_links_14 : decode cX3_links 14 = .ok (.iastore, 1) := by decide +kernel
theorem dX3_links_15 : decode cX3_links 15 = .ok (.iinc 1 1, 3) := by decide +kernel
theorem dX3_links_18 : decode cX3_links 18 = .ok (.goto (-16), 3) := by decide +kernel
theorem dX3_links_21 : decode cX3_links 21 = .ok (.iconst 0, 1) := by decide +kernel
theorem dX3_links_22 : decode cX3_links 22 = .ok (.istore_n 1, 1) := by decide +kernel
theorem dX3_links_23 : decode cX3_links 23 = .ok (.iload_n 1, 1) := by decide +kernel
theorem dX3_links_24 : decode cX3_links 24 = .ok (.bipush 30, 2) := by decide +kernel
theorem dX3_links_26 : decode cX3_links 26 = .ok (.if_icmp .ge 53, 3) := by decide +kernel
theorem dX3_links_29 : decode cX3_links 29 = .ok (.aload_n 0, 1) := by decide +kernel
theorem dX3_links_30 : decode cX3_links 30 = .ok (.getfield 35, 3) := by decide +kernel
theorem dX3_links_33 : decode cX3_links 33 = .ok (.iload_n 1, 1) := by decide +kernel
theorem dX3_links_34 : decode cX3_links 34 = .ok (.baload, 1) := by decide +kernel
theorem dX3_links_35 : decode cX3_links 35 = .ok (.ifCond .eq 11, 3) := by decide +kernel
theorem dX3_links_38 : decode cX3_links 38 = .ok (.aload_n 0, 1) := by decide +kernel
theorem dX3_links_39 : decode cX3_links 39 = .ok (.iload_n 1, 1) := by decide +kernel
theorem dX3_links_40 : decode cX3_links 40 = .ok (.invokevirtual 61, 3) := by decide +kernel
theorem dX3_links_43 : decode cX3_links 43 = .ok (.goto 4, 3) := by decide +kernel
theorem dX3_links_46 : decode cX3_links 46 = .ok (.iconst (-1), 1) := by decide +kernel
theorem dX3_links_47 : decode cX3_links 47 = .ok (.istore_n 2, 1) := by decide +kernel
theorem dX3_links_48 : decode cX3_links 48 = .ok (.aload_n 0, 1) := by decide +kernel
theorem dX3_links_49 : decode cX3_links 49 = .ok (.getfield 38, 3) := by decide +kernel
theorem dX3_links_52 : decode cX3_links 52 = .ok (.iload_n 1, 1) := by decide +kernel
theorem dX3_links_53 : decode cX3_links 53 = .ok (.iload_n 2, 1) := by decide +kernel
theorem dX3_links_54 : decode cX3_links 54 = .ok (.iconst (-1), 1) := by decide +kernel
theorem dX3_links_55 : decode cX3_links 55 = .ok (.if_icmp .eq 12, 3) := by decide +kernel
theorem dX3_links_58 : decode cX3_links 58 = .ok (.aload_n 0, 1) := by decide +kernel
theorem dX3_links_59 : decode cX3_links 59 = .ok (.iload_n 2, 1) := by decide +kernel
theorem dX3_links_60 : decode cX3_links 60 = .ok (.iload_n 1, 1) := by decide +kernel
theorem dX3_links_61 : decode cX3_links 61 = .ok (.invokevirtual 65, 3) := by decide +kernel
theorem dX3_links_64 : decode cX3_links 64 = .ok (.ifCond .eq 7, 3) := by decide +kernel
theorem dX3_links_67 : decode cX3_links 67 = .ok (.iconst (-1), 1) := by decide +kernel
theorem dX3_links_68 : decode cX3_links 68 = .ok (.goto 4, 3) := by decide +kernel
theorem dX3_links_71 : decode cX3_links 71 = .ok (.iload_n 2, 1) := by decide +kernel
theorem dX3_links_72 : decode cX3_links 72 = .ok (.iastore, 1) := by decide +kernel
theorem dX3_links_73 : decode cX3_links 73 = .ok (.iinc 1 1, 3) := by decide +kernel
theorem dX3_links_76 : decode cX3_links 76 = .ok (.goto (-53), 3) := by decide +kernel
theorem dX3_links_79 : decode cX3_links 79 = .ok (.return_, 1) := by decide +kernel
theorem dX3_isAlone_0 : decode cX3_isAlone 0 = .ok (.aload_n 0, 1) := by decide +kernel
theorem dX3_isAlone_1 : decode cX3_isAlone 1 = .ok (.getfield 7, 3) := by decide +kernel
theorem dX3_isAlone_4 : decode cX3_isAlone 4 = .ok (.iload_n 1, 1) := by decide +kernel
theorem dX3_isAlone_5 : decode cX3_isAlone 5 = .ok (.baload, 1) := by decide +kernel
theorem dX3_isAlone_6 : decode cX3_isAlone 6 = .ok (.ifCond .eq 17, 3) := by decide +kernel
theorem dX3_isAlone_9 : decode cX3_isAlone 9 = .ok (.aload_n 0, 1) := by decide +kernel
theorem dX3_isAlone_10 : decode cX3_isAlone 10 = .ok (.getfield 41, 3) := by decide +kernel
theorem dX3_isAlone_13 : decode cX3_isAlone 13 = .ok (.iload_n 1, 1) := by decide +kernel
theorem dX3_isAlone_14 : decode cX3_isAlone 14 = .ok (.iaload, 1) := by decide +kernel
theorem dX3_isAlone_15 : decode cX3_isAlone 15 = .ok (.iconst (-1), 1) := by decide +kernel
theorem dX3_isAlone_16 : decode cX3_isAlone 16 = .ok (.if_icmp .ne 7, 3) := by decide +kernel
theorem dX3_isAlone_19 : decode cX3_isAlone 19 = .ok (.iconst 1, 1) := by decide +kernel
theorem dX3_isAlone_20 : decode cX3_isAlone 20 = .ok (.goto 4, 3) := by decide +kernel
theorem dX3_isAlone_23 : decode cX3_isAlone 23 = .ok (.iconst 0, 1) := by decide +kernel
theorem dX3_isAlone_24 : decode cX3_isAlone 24 = .ok (.ireturn, 1) := by decide +kernel
theorem dX3_forest_0 : decode cX3_forest 0 = .ok (.aload_n 0, 1) := by decide +kernel
theorem dX3_forest_1 : decode cX3_forest 1 = .ok (.invokevirtual 69, 3) := by decide +kernel
theorem dX3_forest_4 : decode cX3_forest 4 = .ok (.aload_n 0, 1) := by decide +kernel
theorem dX3_forest_5 : decode cX3_forest 5 = .ok (.invokevirtual 72, 3) := by decide +kernel
theorem dX3_forest_8 : decode cX3_forest 8 = .ok (.iconst 0, 1) := by decide +kernel
theorem dX3_forest_9 : decode cX3_forest 9 = .ok (.istore_n 1, 1) := by decide +kernel
theorem dX3_forest_10 : decode cX3_forest 10 = .ok (.iload_n 1, 1) := by decide +kernel
theorem dX3_forest_11 : decode cX3_forest 11 = .ok (.bipush 30, 2) := by decide +kernel
theorem dX3_forest_13 : decode cX3_forest 13 = .ok (.if_icmp .ge 93, 3) := by decide +kernel
theorem dX3_forest_16 : decode cX3_forest 16 = .ok (.aload_n 0, 1) := by decide +kernel
theorem dX3_forest_17 : decode cX3_forest 17 = .ok (.getfield 41, 3) := by decide +kernel
theorem dX3_forest_20 : decode cX3_forest 20 = .ok (.iload_n 1, 1) := by decide +kernel
theorem dX3_forest_21 : decode cX3_forest 21 = .ok (.aload_n 0, 1) := by decide +kernel
theorem dX3_forest_22 : decode cX3_forest 22 = .ok (.getfield 7, 3) := by decide +kernel
theorem dX3_forest_25 : decode cX3_forest 25 = .ok (.iload_n 1, 1) := by decide +kernel
theorem dX3_forest_26 : decode cX3_forest 26 = .ok (.baload, 1) := by decide +kernel
theorem dX3_forest_27 : decode cX3_forest 27 = .ok (.ifCond .eq 12, 3) := by decide +kernel
theorem dX3_forest_30 : decode cX3_forest 30 = .ok (.aload_n 0, 1) := by decide +kernel
theorem dX3_forest_31 : decode cX3_forest 31 = .ok (.getfield 38, 3) := by decide +kernel
theorem dX3_forest_34 : decode cX3_forest 34 = .ok (.iload_n 1, 1) := by decide +kernel
theorem dX3_forest_35 : decode cX3_forest 35 = .ok (.iaload, 1) := by decide +kernel
theorem dX3_forest_36 : decode cX3_forest 36 = .ok (.goto 4, 3) := by decide +kernel
theorem dX3_forest_39 : decode cX3_forest 39 = .ok (.iconst (-1), 1) := by decide +kernel
theorem dX3_forest_40 : decode cX3_forest 40 = .ok (.iastore, 1) := by decide +kernel
theorem dX3_forest_41 : decode cX3_forest 41 = .ok (.aload_n 0, 1) := by decide +kernel
theorem dX3_forest_42 : decode cX3_forest 42 = .ok (.getfield 41, 3) := by decide +kernel
theorem dX3_forest_45 : decode cX3_forest 45 = .ok (.iload_n 1, 1) := by decide +kernel
theorem dX3_forest_46 : decode cX3_forest 46 = .ok (.iaload, 1) := by decide +kernel
theorem dX3_forest_47 : decode cX3_forest 47 = .ok (.iconst (-1), 1) := by decide +kernel
theorem dX3_forest_48 : decode cX3_forest 48 = .ok (.if_icmp .eq 52, 3) := by decide +kernel
theorem dX3_forest_51 : decode cX3_forest 51 = .ok (.aload_n 0, 1) := by decide +kernel
theorem dX3_forest_52 : decode cX3_forest 52 = .ok (.getfield 7, 3) := by decide +kernel
theorem dX3_forest_55 : decode cX3_forest 55 = .ok (.aload_n 0, 1) := by decide +kernel
theorem dX3_forest_56 : decode cX3_forest 56 = .ok (.getfield 41, 3) := by decide +kernel
theorem dX3_forest_59 : decode cX3_forest 59 = .ok (.iload_n 1, 1) := by decide +kernel
theorem dX3_forest_60 : decode cX3_forest 60 = .ok (.iaload, 1) := by decide +kernel
theorem dX3_forest_61 : decode cX3_forest 61 = .ok (.baload, 1) := by decide +kernel
theorem dX3_forest_62 : decode cX3_forest 62 = .ok (.ifCond .ne 38, 3) := by decide +kernel
theorem dX3_forest_65 : decode cX3_forest 65 = .ok (.aload_n 0, 1) := by decide +kernel
theorem dX3_forest_66 : decode cX3_forest 66 = .ok (.getfield 38, 3) := by decide +kernel
theorem dX3_forest_69 : decode cX3_forest 69 = .ok (.aload_n 0, 1) := by decide +kernel
theorem dX3_forest_70 : decode cX3_forest 70 = .ok (.getfield 41, 3) := by decide +kernel
theorem dX3_forest_73 : decode cX3_forest 73 = .ok (.iload_n 1, 1) := by decide +kernel
theorem dX3_forest_74 : decode cX3_forest 74 = .ok (.iaload, 1) := by decide +kernel
theorem dX3_forest_75 : decode cX3_forest 75 = .ok (.iaload, 1) := by decide +kernel
theorem dX3_forest_76 : decode cX3_forest 76 = .ok (.iconst (-1), 1) := by decide +kernel
theorem dX3_forest_77 : decode cX3_forest 77 = .ok (.if_icmp .eq 23, 3) := by decide +kernel
theorem dX3_forest_80 : decode cX3_forest 80 = .ok (.aload_n 0, 1) := by decide +kernel
theorem dX3_forest_81 : decode cX3_forest 81 = .ok (.getfield 41, 3) := by decide +kernel
theorem dX3_forest_84 : decode cX3_forest 84 = .ok (.iload_n 1, 1) := by decide +kernel
theorem dX3_forest_85 : decode cX3_forest 85 = .ok (.aload_n 0, 1) := by decide +kernel
theorem dX3_forest_86 : decode cX3_forest 86 = .ok (.getfield 38, 3) := by decide +kernel
theorem dX3_forest_89 : decode cX3_forest 89 = .ok (.aload_n 0, 1) := by decide +kernel
theorem dX3_forest_90 : decode cX3_forest 90 = .ok (.getfield 41, 3) := by decide +kernel
theorem dX3_forest_93 : decode cX3_forest 93 = .ok (.iload_n 1, 1) := by decide +kernel
theorem dX3_forest_94 : decode cX3_forest 94 = .ok (.iaload, 1) := by decide +kernel
theorem dX3_forest_95 : decode cX3_forest 95 = .ok (.iaload, 1) := by decide +kernel
theorem dX3_forest_96 : decode cX3_forest 96 = .ok (.iastore, 1) := by decide +kernel
theorem dX3_forest_97 : decode cX3_forest 97 = .ok (.goto (-56), 3) := by decide +kernel
theorem dX3_forest_100 : decode cX3_forest 100 = .ok (.iinc 1 1, 3) := by decide +kernel
theorem dX3_forest_103 : decode cX3_forest 103 = .ok (.goto (-93), 3) := by decide +kernel
theorem dX3_forest_106 : decode cX3_forest 106 = .ok (.iconst 0, 1) := by decide +kernel
theorem dX3_forest_107 : decode cX3_forest 107 = .ok (.istore_n 1, 1) := by decide +kernel
theorem dX3_forest_108 : decode cX3_forest 108 = .ok (.iload_n 1, 1) := by decide +kernel
theorem dX3_forest_109 : decode cX3_forest 109 = .ok (.bipush 30, 2) := by decide +kernel
theorem dX3_forest_111 : decode cX3_forest 111 = .ok (.if_icmp .ge 112, 3) := by decide +kernel
theorem dX3_forest_114 : decode cX3_forest 114 = .ok (.iconst 0, 1) := by decide +kernel
theorem dX3_forest_115 : decode cX3_forest 115 = .ok (.istore_n 2, 1) := by decide +kernel
theorem dX3_forest_116 : decode cX3_forest 116 = .ok (.iconst (-1), 1) := by decide +kernel
theorem dX3_forest_117 : decode cX3_forest 117 = .ok (.istore_n 3, 1) := by decide +kernel
theorem dX3_forest_118 : decode cX3_forest 118 = .ok (.iconst 0, 1) := by decide +kernel
theorem dX3_forest_119 : decode cX3_forest 119 = .ok (.istore 4, 2) := by decide +kernel
theorem dX3_forest_121 : decode cX3_forest 121 = .ok (.iload 4, 2) := by decide +kernel
theorem dX3_forest_123 : decode cX3_forest 123 = .ok (.bipush 30, 2) := by decide +kernel
theorem dX3_forest_125 : decode cX3_forest 125 = .ok (.if_icmp .ge 46, 3) := by decide +kernel
theorem dX3_forest_128 : decode cX3_forest 128 = .ok (.iload_n 2, 1) := by decide +kernel
theorem dX3_forest_129 : decode cX3_forest 129 = .ok (.aload_n 0, 1) := by decide +kernel
theorem dX3_forest_130 : decode cX3_forest 130 = .ok (.getfield 41, 3) := by decide +kernel
theorem dX3_forest_133 : decode cX3_forest 133 = .ok (.iload 4, 2) := by decide +kernel
theorem dX3_forest_135 : decode cX3_forest 135 = .ok (.iaload, 1) := by decide +kernel
theorem dX3_forest_136 : decode cX3_forest 136 = .ok (.iload_n 1, 1) := by decide +kernel
theorem dX3_forest_137 : decode cX3_forest 137 = .ok (.if_icmp .ne 7, 3) := by decide +kernel
theorem dX3_forest_140 : decode cX3_forest 140 = .ok (.iconst 1, 1) := by decide +kernel
theorem dX3_forest_141 : decode cX3_forest 141 = .ok (.goto 4, 3) := by decide +kernel
theorem dX3_forest_144 : decode cX3_forest 144 = .ok (.iconst 0, 1) := by decide +kernel
theorem dX3_forest_145 : decode cX3_forest 145 = .ok (.iadd, 1) := by decide +kernel
theorem dX3_forest_146 : decode cX3_forest 146 = .ok (.istore_n 2, 1) := by decide +kernel
theorem dX3_forest_147 : decode cX3_forest 147 = .ok (.aload_n 0, 1) := by decide +kernel
theorem dX3_forest_148 : decode cX3_forest 148 = .ok (.getfield 41, 3) := by decide +kernel
theorem dX3_forest_151 : decode cX3_forest 151 = .ok (.iload 4, 2) := by decide +kernel
theorem dX3_forest_153 : decode cX3_forest 153 = .ok (.iaload, 1) := by decide +kernel
theorem dX3_forest_154 : decode cX3_forest 154 = .ok (.iload_n 1, 1) := by decide +kernel
theorem dX3_forest_155 : decode cX3_forest 155 = .ok (.if_icmp .ne 8, 3) := by decide +kernel
theorem dX3_forest_158 : decode cX3_forest 158 = .ok (.iload 4, 2) := by decide +kernel
theorem dX3_forest_160 : decode cX3_forest 160 = .ok (.goto 4, 3) := by decide +kernel
theorem dX3_forest_163 : decode cX3_forest 163 = .ok (.iload_n 3, 1) := by decide +kernel
theorem dX3_forest_164 : decode cX3_forest 164 = .ok (.istore_n 3, 1) := by decide +kernel
theorem dX3_forest_165 : decode cX3_forest 165 = .ok (.iinc 4 1, 3) := by decide +kernel
theorem dX3_forest_168 : decode cX3_forest 168 = .ok (.goto (-47), 3) := by decide +kernel
theorem dX3_forest_171 : decode cX3_forest 171 = .ok (.aload_n 0, 1) := by decide +kernel
theorem dX3_forest_172 : decode cX3_forest 172 = .ok (.getfield 44, 3) := by decide +kernel
theorem dX3_forest_175 : decode cX3_forest 175 = .ok (.iload_n 1, 1) := by decide +kernel
theorem dX3_forest_176 : decode cX3_forest 176 = .ok (.aload_n 0, 1) := by decide +kernel
theorem dX3_forest_177 : decode cX3_forest 177 = .ok (.getfield 7, 3) := by decide +kernel
theorem dX3_forest_180 : decode cX3_forest 180 = .ok (.iload_n 1, 1) := by decide +kernel
theorem dX3_forest_181 : decode cX3_forest 181 = .ok (.baload, 1) := by decide +kernel
theorem dX3_forest_182 : decode cX3_forest 182 = .ok (.ifCond .ne 8, 3) := by decide +kernel
theorem dX3_forest_185 : decode cX3_forest 185 = .ok (.iload_n 2, 1) := by decide +kernel
theorem dX3_forest_186 : decode cX3_forest 186 = .ok (.iconst 1, 1) := by decide +kernel
theorem dX3_forest_187 : decode cX3_forest 187 = .ok (.if_icmp .le 7, 3) := by decide +kernel
theorem dX3_forest_190 : decode cX3_forest 190 = .ok (.iconst 1, 1) := by decide +kernel
theorem dX3_forest_191 : decode cX3_forest 191 = .ok (.goto 4, 3) := by decide +kernel
theorem dX3_forest_194 : decode cX3_forest 194 = .ok (.iconst 0, 1) := by decide +kernel
theorem dX3_forest_195 : decode cX3_forest 195 = .ok (.bastore, 1) := by decide +kernel
theorem dX3_forest_196 : decode cX3_forest 196 = .ok (.aload_n 0, 1) := by decide +kernel
theorem dX3_forest_197 : decode cX3_forest 197 = .ok (.getfield 7, 3) := by decide +kernel
theorem dX3_forest_200 : decode cX3_forest 200 = .ok (.iload_n 1, 1) := by decide +kernel
theorem dX3_forest_201 : decode cX3_forest 201 = .ok (.baload, 1) := by decide +kernel
theorem dX3_forest_202 : decode cX3_forest 202 = .ok (.ifCond .ne 15, 3) := by decide +kernel
theorem dX3_forest_205 : decode cX3_forest 205 = .ok (.iload_n 2, 1) := by decide +kernel
theorem dX3_forest_206 : decode cX3_forest 206 = .ok (.iconst 1, 1) := by decide +kernel
theorem dX3_forest_207 : decode cX3_forest 207 = .ok (.if_icmp .ne 10, 3) := by decide +kernel
theorem dX3_forest_210 : decode cX3_forest 210 = .ok (.aload_n 0, 1) := by decide +kernel
theorem dX3_forest_211 : decode cX3_forest 211 = .ok (.getfield 41, 3) := by decide +kernel
theorem dX3_forest_214 : decode cX3_forest 214 = .ok (.iload_n 3, 1) := by decide +kernel
theorem dX3_forest_215 : decode cX3_forest 215 = .ok (.iconst (-1), 1) := by decide +kernel
theorem dX3_forest_216 : decode cX3_forest 216 = .ok (.iastore, 1) := by decide +kernel
theorem dX3_forest_217 : decode cX3_forest 217 = .ok (.iinc 1 1, 3) := by decide +kernel
theorem dX3_forest_220 : decode cX3_forest 220 = .ok (.goto (-112), 3) := by decide +kernel
theorem dX3_forest_223 : decode cX3_forest 223 = .ok (.iconst 0, 1) := by decide +kernel
theorem dX3_forest_224 : decode cX3_forest 224 = .ok (.istore_n 1, 1) := by decide +kernel
theorem dX3_forest_225 : decode cX3_forest 225 = .ok (.iload_n 1, 1) := by decide +kernel
theorem dX3_forest_226 : decode cX3_forest 226 = .ok (.bipush 30, 2) := by decide +kernel
theorem dX3_forest_228 : decode cX3_forest 228 = .ok (.if_icmp .ge 175, 3) := by decide +kernel
theorem dX3_forest_231 : decode cX3_forest 231 = .ok (.aload_n 0, 1) := by decide +kernel
theorem dX3_forest_232 : decode cX3_forest 232 = .ok (.getfield 47, 3) := by decide +kernel
theorem dX3_forest_235 : decode cX3_forest 235 = .ok (.iload_n 1, 1) := by decide +kernel
theorem dX3_forest_236 : decode cX3_forest 236 = .ok (.iconst (-1), 1) := by decide +kernel
theorem dX3_forest_237 : decode cX3_forest 237 = .ok (.iastore, 1) := by decide +kernel
theorem dX3_forest_238 : decode cX3_forest 238 = .ok (.aload_n 0, 1) := by decide +kernel
theorem dX3_forest_239 : decode cX3_forest 239 = .ok (.iload_n 1, 1) := by decide +kernel
theorem dX3_forest_240 : decode cX3_forest 240 = .ok (.invokevirtual 75, 3) := by decide +kernel
theorem dX3_forest_243 : decode cX3_forest 243 = .ok (.ifCond .eq 154, 3) := by decide +kernel
theorem dX3_forest_246 : decode cX3_forest 246 = .ok (.aload_n 0, 1) := by decide +kernel
theorem dX3_forest_247 : decode cX3_forest 247 = .ok (.getfield 20, 3) := by decide +kernel
theorem dX3_forest_250 : decode cX3_forest 250 = .ok (.iload_n 1, 1) := by decide +kernel
theorem dX3_forest_251 : decode cX3_forest 251 = .ok (.iaload, 1) := by decide +kernel
theorem dX3_forest_252 : decode cX3_forest 252 = .ok (.bipush 10, 2) := by decide +kernel
theorem dX3_forest_254 : decode cX3_forest 254 = .ok (.if_icmp .lt 143, 3) := by decide +kernel
theorem dX3_forest_257 : decode cX3_forest 257 = .ok (.aload_n 0, 1) := by decide +kernel
theorem dX3_forest_258 : decode cX3_forest 258 = .ok (.getfield 32, 3) := by decide +kernel
theorem dX3_forest_261 : decode cX3_forest 261 = .ok (.iload_n 1, 1) := by decide +kernel
theorem dX3_forest_262 : decode cX3_forest 262 = .ok (.iaload, 1) := by decide +kernel
theorem dX3_forest_263 : decode cX3_forest 263 = .ok (.bipush (-2), 2) := by decide +kernel
theorem dX3_forest_265 : decode cX3_forest 265 = .ok (.if_icmp .eq 132, 3) := by decide +kernel
theorem dX3_forest_268 : decode cX3_forest 268 = .ok (.iconst 0, 1) := by decide +kernel
theorem dX3_forest_269 : decode cX3_forest 269 = .ok (.istore_n 2, 1) := by decide +kernel
theorem dX3_forest_270 : decode cX3_forest 270 = .ok (.iload_n 2, 1) := by decide +kernel
theorem dX3_forest_271 : decode cX3_forest 271 = .ok (.bipush 30, 2) := by decide +kernel
theorem dX3_forest_273 : decode cX3_forest 273 = .ok (.if_icmp .ge 124, 3) := by decide +kernel
theorem dX3_forest_276 : decode cX3_forest 276 = .ok (.aload_n 0, 1) := by decide +kernel
theorem dX3_forest_277 : decode cX3_forest 277 = .ok (.iload_n 2, 1) := by decide +kernel
theorem dX3_forest_278 : decode cX3_forest 278 = .ok (.invokevirtual 75, 3) := by decide +kernel
theorem dX3_forest_281 : decode cX3_forest 281 = .ok (.ifCond .eq 58, 3) := by decide +kernel
theorem dX3_forest_284 : decode cX3_forest 284 = .ok (.aload_n 0, 1) := by decide +kernel
theorem dX3_forest_285 : decode cX3_forest 285 = .ok (.getfield 20, 3) := by decide +kernel
theorem dX3_forest_288 : decode cX3_forest 288 = .ok (.iload_n 2, 1) := by decide +kernel
theorem dX3_forest_289 : decode cX3_forest 289 = .ok (.iaload, 1) := by decide +kernel
theorem dX3_forest_290 : decode cX3_forest 290 = .ok (.aload_n 0, 1) := by decide +kernel
theorem dX3_forest_291 : decode cX3_forest 291 = .ok (.getfield 20, 3) := by decide +kernel
theorem dX3_forest_294 : decode cX3_forest 294 = .ok (.iload_n 1, 1) := by decide +kernel
theorem dX3_forest_295 : decode cX3_forest 295 = .ok (.iaload, 1) := by decide +kernel
theorem dX3_forest_296 : decode cX3_forest 296 = .ok (.bipush 10, 2) := by decide +kernel
theorem dX3_forest_298 : decode cX3_forest 298 = .ok (.isub, 1) := by decide +kernel
theorem dX3_forest_299 : decode cX3_forest 299 = .ok (.if_icmp .ne 40, 3) := by decide +kernel
theorem dX3_forest_302 : decode cX3_forest 302 = .ok (.aload_n 0, 1) := by decide +kernel
theorem dX3_forest_303 : decode cX3_forest 303 = .ok (.getfield 23, 3) := by decide +kernel
theorem dX3_forest_306 : decode cX3_forest 306 = .ok (.iload_n 2, 1) := by decide +kernel
theorem dX3_forest_307 : decode cX3_forest 307 = .ok (.iaload, 1) := by decide +kernel
theorem dX3_forest_308 : decode cX3_forest 308 = .ok (.aload_n 0, 1) := by decide +kernel
theorem dX3_forest_309 : decode cX3_forest 309 = .ok (.getfield 23, 3) := by decide +kernel
theorem dX3_forest_312 : decode cX3_forest 312 = .ok (.iload_n 1, 1) := by decide +kernel
theorem dX3_forest_313 : decode cX3_forest 313 = .ok (.iaload, 1) := by decide +kernel
theorem dX3_forest_314 : decode cX3_forest 314 = .ok (.if_icmp .gt 25, 3) := by decide +kernel
theorem dX3_forest_317 : decode cX3_forest 317 = .ok (.aload_n 0, 1) := by decide +kernel
theorem dX3_forest_318 : decode cX3_forest 318 = .ok (.getfield 23, 3) := by decide +kernel
theorem dX3_forest_321 : decode cX3_forest 321 = .ok (.iload_n 1, 1) := by decide +kernel
theorem dX3_forest_322 : decode cX3_forest 322 = .ok (.iaload, 1) := by decide +kernel
theorem dX3_forest_323 : decode cX3_forest 323 = .ok (.aload_n 0, 1) := by decide +kernel
theorem dX3_forest_324 : decode cX3_forest 324 = .ok (.getfield 23, 3) := by decide +kernel
theorem dX3_forest_327 : decode cX3_forest 327 = .ok (.iload_n 2, 1) := by decide +kernel
theorem dX3_forest_328 : decode cX3_forest 328 = .ok (.iaload, 1) := by decide +kernel
theorem dX3_forest_329 : decode cX3_forest 329 = .ok (.isub, 1) := by decide +kernel
theorem dX3_forest_330 : decode cX3_forest 330 = .ok (.bipush 14, 2) := by decide +kernel
theorem dX3_forest_332 : decode cX3_forest 332 = .ok (.if_icmp .gt 7, 3) := by decide +kernel
theorem dX3_forest_335 : decode cX3_forest 335 = .ok (.iconst 1, 1) := by decide +kernel
theorem dX3_forest_336 : decode cX3_forest 336 = .ok (.goto 4, 3) := by decide +kernel
theorem dX3_forest_339 : decode cX3_forest 339 = .ok (.iconst 0, 1) := by decide +kernel
theorem dX3_forest_340 : decode cX3_forest 340 = .ok (.istore_n 3, 1) := by decide +kernel
theorem dX3_forest_341 : decode cX3_forest 341 = .ok (.aload_n 0, 1) := by decide +kernel
theorem dX3_forest_342 : decode cX3_forest 342 = .ok (.getfield 47, 3) := by decide +kernel
theorem dX3_forest_345 : decode cX3_forest 345 = .ok (.iload_n 1, 1) := by decide +kernel
theorem dX3_forest_346 : decode cX3_forest 346 = .ok (.iload_n 3, 1) := by decide +kernel
theorem dX3_forest_347 : decode cX3_forest 347 = .ok (.ifCond .eq 37, 3) := by decide +kernel
theorem dX3_forest_350 : decode cX3_forest 350 = .ok (.aload_n 0, 1) := by decide +kernel
theorem dX3_forest_351 : decode cX3_forest 351 = .ok (.getfield 47, 3) := by decide +kernel
theorem dX3_forest_354 : decode cX3_forest 354 = .ok (.iload_n 1, 1) := by decide +kernel
theorem dX3_forest_355 : decode cX3_forest 355 = .ok (.iaload, 1) := by decide +kernel
theorem dX3_forest_356 : decode cX3_forest 356 = .ok (.iconst (-1), 1) := by decide +kernel
theorem dX3_forest_357 : decode cX3_forest 357 = .ok (.if_icmp .eq 23, 3) := by decide +kernel
theorem dX3_forest_360 : decode cX3_forest 360 = .ok (.aload_n 0, 1) := by decide +kernel
theorem dX3_forest_361 : decode cX3_forest 361 = .ok (.getfield 23, 3) := by decide +kernel
theorem dX3_forest_364 : decode cX3_forest 364 = .ok (.iload_n 2, 1) := by decide +kernel
theorem dX3_forest_365 : decode cX3_forest 365 = .ok (.iaload, 1) := by decide +kernel
theorem dX3_forest_366 : decode cX3_forest 366 = .ok (.aload_n 0, 1) := by decide +kernel
theorem dX3_forest_367 : decode cX3_forest 367 = .ok (.getfield 23, 3) := by decide +kernel
theorem dX3_forest_370 : decode cX3_forest 370 = .ok (.aload_n 0, 1) := by decide +kernel
theorem dX3_forest_371 : decode cX3_forest 371 = .ok (.getfield 47, 3) := by decide +kernel
theorem dX3_forest_374 : decode cX3_forest 374 = .ok (.iload_n 1, 1) := by decide +kernel
theorem dX3_forest_375 : decode cX3_forest 375 = .ok (.iaload, 1) := by decide +kernel
theorem dX3_forest_376 : decode cX3_forest 376 = .ok (.iaload, 1) := by decide +kernel
theorem dX3_forest_377 : decode cX3_forest 377 = .ok (.if_icmp .le 7, 3) := by decide +kernel
theorem dX3_forest_380 : decode cX3_forest 380 = .ok (.iload_n 2, 1) := by decide +kernel
theorem dX3_forest_381 : decode cX3_forest 381 = .ok (.goto 9, 3) := by decide +kernel
theorem dX3_forest_384 : decode cX3_forest 384 = .ok (.aload_n 0, 1) := by decide +kernel
theorem dX3_forest_385 : decode cX3_forest 385 = .ok (.getfield 47, 3) := by decide +kernel
theorem dX3_forest_388 : decode cX3_forest 388 = .ok (.iload_n 1, 1) := by decide +kernel
theorem dX3_forest_389 : decode cX3_forest 389 = .ok (.iaload, 1) := by decide +kernel
theorem dX3_forest_390 : decode cX3_forest 390 = .ok (.iastore, 1) := by decide +kernel
theorem dX3_forest_391 : decode cX3_forest 391 = .ok (.iinc 2 1, 3) := by decide +kernel
theorem dX3_forest_394 : decode cX3_forest 394 = .ok (.goto (-124), 3) := by decide +kernel
theorem dX3_forest_397 : decode cX3_forest 397 = .ok (.iinc 1 1, 3) := by decide +kernel
theorem dX3_forest_400 : decode cX3_forest 400 = .ok (.goto (-175), 3) := by decide +kernel
theorem dX3_forest_403 : decode cX3_forest 403 = .ok (.iconst 0, 1) := by decide +kernel
theorem dX3_forest_404 : decode cX3_forest 404 = .ok (.istore_n 1, 1) := by decide +kernel
theorem dX3_forest_405 : decode cX3_forest 405 = .ok (.iload_n 1, 1) := by decide +kernel
theorem dX3_forest_406 : decode cX3_forest 406 = .ok (.bipush 30, 2) := by decide +kernel
theorem dX3_forest_408 : decode cX3_forest 408 = .ok (.if_icmp .ge 40, 3) := by decide +kernel
theorem dX3_forest_411 : decode cX3_forest 411 = .ok (.aload_n 0, 1) := by decide +kernel
theorem dX3_forest_412 : decode cX3_forest 412 = .ok (.getfield 41, 3) := by decide +kernel
theorem dX3_forest_415 : decode cX3_forest 415 = .ok (.iload_n 1, 1) := by decide +kernel
theorem dX3_forest_416 : decode cX3_forest 416 = .ok (.aload_n 0, 1) := by decide +kernel
theorem dX3_forest_417 : decode cX3_forest 417 = .ok (.getfield 47, 3) := by decide +kernel
theorem dX3_forest_420 : decode cX3_forest 420 = .ok (.iload_n 1, 1) := by decide +kernel
theorem dX3_forest_421 : decode cX3_forest 421 = .ok (.iaload, 1) := by decide +kernel
theorem dX3_forest_422 : decode cX3_forest 422 = .ok (.iconst (-1), 1) := by decide +kernel
theorem dX3_forest_423 : decode cX3_forest 423 = .ok (.if_icmp .ne 12, 3) := by decide +kernel
theorem dX3_forest_426 : decode cX3_forest 426 = .ok (.aload_n 0, 1) := by decide +kernel
theorem dX3_forest_427 : decode cX3_forest 427 = .ok (.getfield 41, 3) := by decide +kernel
theorem dX3_forest_430 : decode cX3_forest 430 = .ok (.iload_n 1, 1) := by decide +kernel
theorem dX3_forest_431 : decode cX3_forest 431 = .ok (.iaload, 1) := by decide +kernel
theorem dX3_forest_432 : decode cX3_forest 432 = .ok (.goto 9, 3) := by decide +kernel
theorem dX3_forest_435 : decode cX3_forest 435 = .ok (.aload_n 0, 1) := by decide +kernel
theorem dX3_forest_436 : decode cX3_forest 436 = .ok (.getfield 47, 3) := by decide +kernel
theorem dX3_forest_439 : decode cX3_forest 439 = .ok (.iload_n 1, 1) := by decide +kernel
theorem dX3_forest_440 : decode cX3_forest 440 = .ok (.iaload, 1) := by decide +kernel
theorem dX3_forest_441 : decode cX3_forest 441 = .ok (.iastore, 1) := by decide +kernel
theorem dX3_forest_442 : decode cX3_forest 442 = .ok (.iinc 1 1, 3) := by decide +kernel
theorem dX3_forest_445 : decode cX3_forest 445 = .ok (.goto (-40), 3) := by decide +kernel
theorem dX3_forest_448 : decode cX3_forest 448 = .ok (.return_, 1) := by decide +kernel
theorem dX3_trees_0 : decode cX3_trees 0 = .ok (.aload_n 0, 1) := by decide +kernel
theorem dX3_trees_1 : decode cX3_trees 1 = .ok (.iconst 0, 1) := by decide +kernel
theorem dX3_trees_2 : decode cX3_trees 2 = .ok (.putfield 79, 3) := by decide +kernel
theorem dX3_trees_5 : decode cX3_trees 5 = .ok (.iconst 0, 1) := by decide +kernel
theorem dX3_trees_6 : decode cX3_trees 6 = .ok (.istore_n 2, 1) := by decide +kernel
theorem dX3_trees_7 : decode cX3_trees 7 = .ok (.aload_n 0, 1) := by decide +kernel
theorem dX3_trees_8 : decode cX3_trees 8 = .ok (.getfield 50, 3) := by decide +kernel
theorem dX3_trees_11 : decode cX3_trees 11 = .ok (.iconst 0, 1) := by decide +kernel
theorem dX3_trees_12 : decode cX3_trees 12 = .ok (.iload_n 1, 1) := by decide +kernel
theorem dX3_trees_13 : decode cX3_trees 13 = .ok (.iastore, 1) := by decide +kernel
theorem dX3_trees_14 : decode cX3_trees 14 = .ok (.iload_n 2, 1) := by decide +kernel
theorem dX3_trees_15 : decode cX3_trees 15 = .ok (.ifCond .lt 168, 3) := by decide +kernel
theorem dX3_trees_18 : decode cX3_trees 18 = .ok (.aload_n 0, 1) := by decide +kernel
theorem dX3_trees_19 : decode cX3_trees 19 = .ok (.getfield 50, 3) := by decide +kernel
theorem dX3_trees_22 : decode cX3_trees 22 = .ok (.iload_n 2, 1) := by decide +kernel
theorem dX3_trees_23 : decode cX3_trees 23 = .ok (.iaload, 1) := by decide +kernel
theorem dX3_trees_24 : decode cX3_trees 24 = .ok (.istore_n 3, 1) := by decide +kernel
theorem dX3_trees_25 : decode cX3_trees 25 = .ok (.iinc 2 (-1), 3) := by decide +kernel
theorem dX3_trees_28 : decode cX3_trees 28 = .ok (.aload_n 0, 1) := by decide +kernel
theorem dX3_trees_29 : decode cX3_trees 29 = .ok (.getfield 47, 3) := by decide +kernel
theorem dX3_trees_32 : decode cX3_trees 32 = .ok (.aload_n 0, 1) := by decide +kernel
theorem dX3_trees_33 : decode cX3_trees 33 = .ok (.getfield 79, 3) := by decide +kernel
theorem dX3_trees_36 : decode cX3_trees 36 = .ok (.iload_n 3, 1) := by decide +kernel
theorem dX3_trees_37 : decode cX3_trees 37 = .ok (.iastore, 1) := by decide +kernel
theorem dX3_trees_38 : decode cX3_trees 38 = .ok (.aload_n 0, 1) := by decide +kernel
theorem dX3_trees_39 : decode cX3_trees 39 = .ok (.dup, 1) := by decide +kernel
theorem dX3_trees_40 : decode cX3_trees 40 = .ok (.getfield 79, 3) := by decide +kernel
theorem dX3_trees_43 : decode cX3_trees 43 = .ok (.iconst 1, 1) := by decide +kernel
theorem dX3_trees_44 : decode cX3_trees 44 = .ok (.iadd, 1) := by decide +kernel
theorem dX3_trees_45 : decode cX3_trees 45 = .ok (.putfield 79, 3) := by decide +kernel
theorem dX3_trees_48 : decode cX3_trees 48 = .ok (.iconst (-1), 1) := by decide +kernel
theorem dX3_trees_49 : decode cX3_trees 49 = .ok (.istore 4, 2) := by decide +kernel
theorem dX3_trees_51 : decode cX3_trees 51 = .ok (.iconst 0, 1) := by decide +kernel
theorem dX3_trees_52 : decode cX3_trees 52 = .ok (.istore 5, 2) := by decide +kernel
theorem dX3_trees_54 : decode cX3_trees 54 = .ok (.iload 5, 2) := by decide +kernel
theorem dX3_trees_56 : decode cX3_trees 56 = .ok (.bipush 30, 2) := by decide +kernel
theorem dX3_trees_58 : decode cX3_trees 58 = .ok (.if_icmp .ge 122, 3) := by decide +kernel
theorem dX3_trees_61 : decode cX3_trees 61 = .ok (.iconst (-1), 1) := by decide +kernel
theorem dX3_trees_62 : decode cX3_trees 62 = .ok (.istore 6, 2) := by decide +kernel
theorem dX3_trees_64 : decode cX3_trees 64 = .ok (.iconst 0, 1) := by decide +kernel
theorem dX3_trees_65 : decode cX3_trees 65 = .ok (.istore 7, 2) := by decide +kernel
theorem dX3_trees_67 : decode cX3_trees 67 = .ok (.iload 7, 2) := by decide +kernel
theorem dX3_trees_69 : decode cX3_trees 69 = .ok (.bipush 30, 2) := by decide +kernel
theorem dX3_trees_71 : decode cX3_trees 71 = .ok (.if_icmp .ge 75, 3) := by decide +kernel
theorem dX3_trees_74 : decode cX3_trees 74 = .ok (.aload_n 0, 1) := by decide +kernel
theorem dX3_trees_75 : decode cX3_trees 75 = .ok (.getfield 41, 3) := by decide +kernel
theorem dX3_trees_78 : decode cX3_trees 78 = .ok (.iload 7, 2) := by decide +kernel
theorem dX3_trees_80 : decode cX3_trees 80 = .ok (.iaload, 1) := by decide +kernel
theorem dX3_trees_81 : decode cX3_trees 81 = .ok (.iload_n 3, 1) := by decide +kernel
theorem dX3_trees_82 : decode cX3_trees 82 = .ok (.if_icmp .ne 24, 3) := by decide +kernel
theorem dX3_trees_85 : decode cX3_trees 85 = .ok (.iload 4, 2) := by decide +kernel
theorem dX3_trees_87 : decode cX3_trees 87 = .ok (.iconst (-1), 1) := by decide +kernel
theorem dX3_trees_88 : decode cX3_trees 88 = .ok (.if_icmp .eq 14, 3) := by decide +kernel
theorem dX3_trees_91 : decode cX3_trees 91 = .ok (.aload_n 0, 1) := by decide +kernel
theorem dX3_trees_92 : decode cX3_trees 92 = .ok (.iload 7, 2) := by decide +kernel
theorem dX3_trees_94 : decode cX3_trees 94 = .ok (.iload 4, 2) := by decide +kernel
theorem dX3_trees_96 : decode cX3_trees 96 = .ok (.invokevirtual 82, 3) := by decide +kernel
theorem dX3_trees_99 : decode cX3_trees 99 = .ok (.ifCond .eq 7, 3) := by decide +kernel
theorem dX3_trees_102 : decode cX3_trees 102 = .ok (.iconst 1, 1) := by decide +kernel
theorem dX3_trees_103 : decode cX3_trees 103 = .ok (.goto 4, 3) := by decide +kernel
theorem dX3_trees_106 : decode cX3_trees 106 = .ok (.iconst 0, 1) := by decide +kernel
theorem dX3_trees_107 : decode cX3_trees 107 = .ok (.istore 8, 2) := by decide +kernel
theorem dX3_trees_109 : decode cX3_trees 109 = .ok (.iload 8, 2) := by decide +kernel
theorem dX3_trees_111 : decode cX3_trees 111 = .ok (.ifCond .eq 25, 3) := by decide +kernel
theorem dX3_trees_114 : decode cX3_trees 114 = .ok (.iload 6, 2) := by decide +kernel
theorem dX3_trees_116 : decode cX3_trees 116 = .ok (.iconst (-1), 1) := by decide +kernel
theorem dX3_trees_117 : decode cX3_trees 117 = .ok (.if_icmp .eq 14, 3) := by decide +kernel
theorem dX3_trees_120 : decode cX3_trees 120 = .ok (.aload_n 0, 1) := by decide +kernel
theorem dX3_trees_121 : decode cX3_trees 121 = .ok (.iload 6, 2) := by decide +kernel
theorem dX3_trees_123 : decode cX3_trees 123 = .ok (.iload 7, 2) := by decide +kernel
theorem dX3_trees_125 : decode cX3_trees 125 = .ok (.invokevirtual 82, 3) := by decide +kernel
theorem dX3_trees_128 : decode cX3_trees 128 = .ok (.ifCond .eq 8, 3) := by decide +kernel
theorem dX3_trees_131 : decode cX3_trees 131 = .ok (.iload 7, 2) := by decide +kernel
theorem dX3_trees_133 : decode cX3_trees 133 = .ok (.goto 5, 3) := by decide +kernel
theorem dX3_trees_136 : decode cX3_trees 136 = .ok (.iload 6, 2) := by decide +kernel
theorem dX3_trees_138 : decode cX3_trees 138 = .ok (.istore 6, 2) := by decide +kernel
theorem dX3_trees_140 : decode cX3_trees 140 = .ok (.iinc 7 1, 3) := by decide +kernel
theorem dX3_trees_143 : decode cX3_trees 143 = .ok (.goto (-76), 3) := by decide +kernel
theorem dX3_trees_146 : decode cX3_trees 146 = .ok (.iload 6, 2) := by decide +kernel
theorem dX3_trees_148 : decode cX3_trees 148 = .ok (.iconst (-1), 1) := by decide +kernel
theorem dX3_trees_149 : decode cX3_trees 149 = .ok (.if_icmp .ne 10, 3) := by decide +kernel
theorem dX3_trees_152 : decode cX3_trees 152 = .ok (.bipush 30, 2) := by decide +kernel
theorem dX3_trees_154 : decode cX3_trees 154 = .ok (.istore 5, 2) := by decide +kernel
theorem dX3_trees_156 : decode cX3_trees 156 = .ok (.goto 18, 3) := by decide +kernel
theorem dX3_trees_159 : decode cX3_trees 159 = .ok (.iinc 2 1, 3) := by decide +kernel
theorem dX3_trees_162 : decode cX3_trees 162 = .ok (.aload_n 0, 1) := by decide +kernel
theorem dX3_trees_163 : decode cX3_trees 163 = .ok (.getfield 50, 3) := by decide +kernel
theorem dX3_trees_166 : decode cX3_trees 166 = .ok (.iload_n 2, 1) := by decide +kernel
theorem dX3_trees_167 : decode cX3_trees 167 = .ok (.iload 6, 2) := by decide +kernel
theorem dX3_trees_169 : decode cX3_trees 169 = .ok (.iastore, 1) := by decide +kernel
theorem dX3_trees_170 : decode cX3_trees 170 = .ok (.iload 6, 2) := by decide +kernel
theorem dX3_trees_172 : decode cX3_trees 172 = .ok (.istore 4, 2) := by decide +kernel
theorem dX3_trees_174 : decode cX3_trees 174 = .ok (.iinc 5 1, 3) := by decide +kernel
theorem dX3_trees_177 : decode cX3_trees 177 = .ok (.goto (-123), 3) := by decide +kernel
theorem dX3_trees_180 : decode cX3_trees 180 = .ok (.goto (-166), 3) := by decide +kernel
theorem dX3_trees_183 : decode cX3_trees 183 = .ok (.return_, 1) := by decide +kernel
theorem dX3_isAhead_0 : decode cX3_isAhead 0 = .ok (.aload_n 0, 1) := by decide +kernel
theorem dX3_isAhead_1 : decode cX3_isAhead 1 = .ok (.getfield 23, 3) := by decide +kernel
theorem dX3_isAhead_4 : decode cX3_isAhead 4 = .ok (.iload_n 1, 1) := by decide +kernel
theorem dX3_isAhead_5 : decode cX3_isAhead 5 = .ok (.iaload, 1) := by decide +kernel
theorem dX3_isAhead_6 : decode cX3_isAhead 6 = .ok (.aload_n 0, 1) := by decide +kernel
theorem dX3_isAhead_7 : decode cX3_isAhead 7 = .ok (.getfield 23, 3) := by decide +kernel
theorem dX3_isAhead_10 : decode cX3_isAhead 10 = .ok (.iload_n 2, 1) := by decide +kernel
theorem dX3_isAhead_11 : decode cX3_isAhead 11 = .ok (.iaload, 1) := by decide +kernel
theorem dX3_isAhead_12 : decode cX3_isAhead 12 = .ok (.if_icmp .lt 23, 3) := by decide +kernel
theorem dX3_isAhead_15 : decode cX3_isAhead 15 = .ok (.aload_n 0, 1) := by decide +kernel
theorem dX3_isAhead_16 : decode cX3_isAhead 16 = .ok (.getfield 23, 3) := by decide +kernel
theorem dX3_isAhead_19 : decode cX3_isAhead 19 = .ok (.iload_n 1, 1) := by decide +kernel
theorem dX3_isAhead_20 : decode cX3_isAhead 20 = .ok (.iaload, 1) := by decide +kernel
theorem dX3_isAhead_21 : decode cX3_isAhead 21 = .ok (.aload_n 0, 1) := by decide +kernel
theorem dX3_isAhead_22 : decode cX3_isAhead 22 = .ok (.getfield 23, 3) := by decide +kernel
theorem dX3_isAhead_25 : decode cX3_isAhead 25 = .ok (.iload_n 2, 1) := by decide +kernel
theorem dX3_isAhead_26 : decode cX3_isAhead 26 = .ok (.iaload, 1) := by decide +kernel
theorem dX3_isAhead_27 : decode cX3_isAhead 27 = .ok (.if_icmp .ne 12, 3) := by decide +kernel
theorem dX3_isAhead_30 : decode cX3_isAhead 30 = .ok (.iload_n 1, 1) := by decide +kernel
theorem dX3_isAhead_31 : decode cX3_isAhead 31 = .ok (.iload_n 2, 1) := by decide +kernel
theorem dX3_isAhead_32 : decode cX3_isAhead 32 = .ok (.if_icmp .ge 7, 3) := by decide +kernel
theorem dX3_isAhead_35 : decode cX3_isAhead 35 = .ok (.iconst 1, 1) := by decide +kernel
theorem dX3_isAhead_36 : decode cX3_isAhead 36 = .ok (.goto 4, 3) := by decide +kernel
theorem dX3_isAhead_39 : decode cX3_isAhead 39 = .ok (.iconst 0, 1) := by decide +kernel
theorem dX3_isAhead_40 : decode cX3_isAhead 40 = .ok (.ireturn, 1) := by decide +kernel
theorem dX3_rootsNow_0 : decode cX3_rootsNow 0 = .ok (.iconst 0, 1) := by decide +kernel
theorem dX3_rootsNow_1 : decode cX3_rootsNow 1 = .ok (.istore_n 1, 1) := by decide +kernel
theorem dX3_rootsNow_2 : decode cX3_rootsNow 2 = .ok (.iconst 0, 1) := by decide +kernel
theorem dX3_rootsNow_3 : decode cX3_rootsNow 3 = .ok (.istore_n 2, 1) := by decide +kernel
theorem dX3_rootsNow_4 : decode cX3_rootsNow 4 = .ok (.iload_n 2, 1) := by decide +kernel
theorem dX3_rootsNow_5 : decode cX3_rootsNow 5 = .ok (.bipush 30, 2) := by decide +kernel
theorem dX3_rootsNow_7 : decode cX3_rootsNow 7 = .ok (.if_icmp .ge 36, 3) := by decide +kernel
theorem dX3_rootsNow_10 : decode cX3_rootsNow 10 = .ok (.iload_n 1, 1) := by decide +kernel
theorem dX3_rootsNow_11 : decode cX3_rootsNow 11 = .ok (.aload_n 0, 1) := by decide +kernel
theorem dX3_rootsNow_12 : decode cX3_rootsNow 12 = .ok (.getfield 44, 3) := by decide +kernel
theorem dX3_rootsNow_15 : decode cX3_rootsNow 15 = .ok (.iload_n 2, 1) := by decide +kernel
theorem dX3_rootsNow_16 : decode cX3_rootsNow 16 = .ok (.baload, 1) := by decide +kernel
theorem dX3_rootsNow_17 : decode cX3_rootsNow 17 = .ok (.ifCond .eq 17, 3) := by decide +kernel
theorem dX3_rootsNow_20 : decode cX3_rootsNow 20 = .ok (.aload_n 0, 1) := by decide +kernel
theorem dX3_rootsNow_21 : decode cX3_rootsNow 21 = .ok (.getfield 41, 3) := by decide +kernel
theorem dX3_rootsNow_24 : decode cX3_rootsNow 24 = .ok (.iload_n 2, 1) := by decide +kernel
theorem dX3_rootsNow_25 : decode cX3_rootsNow 25 = .ok (.iaload, 1) := by decide +kernel
theorem dX3_rootsNow_26 : decode cX3_rootsNow 26 = .ok (.iconst (-1), 1) := by decide +kernel
theorem dX3_rootsNow_27 : decode cX3_rootsNow 27 = .ok (.if_icmp .ne 7, 3) := by decide +kernel
theorem dX3_rootsNow_30 : decode cX3_rootsNow 30 = .ok (.iconst 1, 1) := by decide +kernel
theorem dX3_rootsNow_31 : decode cX3_rootsNow 31 = .ok (.goto 4, 3) := by decide +kernel
theorem dX3_rootsNow_34 : decode cX3_rootsNow 34 = .ok (.iconst 0, 1) := by decide +kernel
theorem dX3_rootsNow_35 : decode cX3_rootsNow 35 = .ok (.iadd, 1) := by decide +kernel
theorem dX3_rootsNow_36 : decode cX3_rootsNow 36 = .ok (.istore_n 1, 1) := by decide +kernel
theorem dX3_rootsNow_37 : decode cX3_rootsNow 37 = .ok (.iinc 2 1, 3) := by decide +kernel
theorem dX3_rootsNow_40 : decode cX3_rootsNow 40 = .ok (.goto (-36), 3) := by decide +kernel
theorem dX3_rootsNow_43 : decode cX3_rootsNow 43 = .ok (.iload_n 1, 1) := by decide +kernel
theorem dX3_rootsNow_44 : decode cX3_rootsNow 44 = .ok (.ireturn, 1) := by decide +kernel
theorem dX3_rootsThen_0 : decode cX3_rootsThen 0 = .ok (.aload_n 0, 1) := by decide +kernel
theorem dX3_rootsThen_1 : decode cX3_rootsThen 1 = .ok (.invokevirtual 85, 3) := by decide +kernel
theorem dX3_rootsThen_4 : decode cX3_rootsThen 4 = .ok (.aload_n 0, 1) := by decide +kernel
theorem dX3_rootsThen_5 : decode cX3_rootsThen 5 = .ok (.invokevirtual 88, 3) := by decide +kernel
theorem dX3_rootsThen_8 : decode cX3_rootsThen 8 = .ok (.ireturn, 1) := by decide +kernel
theorem dX3_letter_0 : decode cX3_letter 0 = .ok (.iload_n 1, 1) := by decide +kernel
theorem dX3_letter_1 : decode cX3_letter 1 = .ok (.invokestatic 92, 3) := by decide +kernel
theorem dX3_letter_4 : decode cX3_letter 4 = .ok (.ifCond .eq 71, 3) := by decide +kernel
theorem dX3_letter_7 : decode cX3_letter 7 = .ok (.iload_n 2, 1) := by decide +kernel
theorem dX3_letter_8 : decode cX3_letter 8 = .ok (.iconst (-1), 1) := by decide +kernel
theorem dX3_letter_9 : decode cX3_letter 9 = .ok (.bipush 29, 2) := by decide +kernel
theorem dX3_letter_11 : decode cX3_letter 11 = .ok (.invokestatic 57, 3) := by decide +kernel
theorem dX3_letter_14 : decode cX3_letter 14 = .ok (.ifCond .eq 61, 3) := by decide +kernel
theorem dX3_letter_17 : decode cX3_letter 17 = .ok (.iload_n 3, 1) := by decide +kernel
theorem dX3_letter_18 : decode cX3_letter 18 = .ok (.iconst (-1), 1) := by decide +kernel
theorem dX3_letter_19 : decode cX3_letter 19 = .ok (.bipush 29, 2) := by decide +kernel
theorem dX3_letter_21 : decode cX3_letter 21 = .ok (.invokestatic 57, 3) := by decide +kernel
theorem dX3_letter_24 : decode cX3_letter 24 = .ok (.ifCond .eq 51, 3) := by decide +kernel
theorem dX3_letter_27 : decode cX3_letter 27 = .ok (.iload 4, 2) := by decide +kernel
theorem dX3_letter_29 : decode cX3_letter 29 = .ok (.iconst 0, 1) := by decide +kernel
theorem dX3_letter_30 : decode cX3_letter 30 = .ok (.bipush 19, 2) := by decide +kernel
theorem dX3_letter_32 : decode cX3_letter 32 = .ok (.invokestatic 57, 3) := by decide +kernel
theorem dX3_letter_35 : decode cX3_letter 35 = .ok (.ifCond .eq 40, 3) := by decide +kernel
theorem dX3_letter_38 : decode cX3_letter 38 = .ok (.iload 5, 2) := by decide +kernel
theorem dX3_letter_40 : decode cX3_letter 40 = .ok (.iconst 0, 1) := by decide +kernel
theorem dX3_letter_41 : decode cX3_letter 41 = .ok (.sipush 999, 3) := by decide +kernel
theorem dX3_letter_44 : decode cX3_letter 44 = .ok (.invokestatic 57, 3) := by decide +kernel
theorem dX3_letter_47 : decode cX3_letter 47 = .ok (.ifCond .eq 28, 3) := by decide +kernel
theorem dX3_letter_50 : decode cX3_letter 50 = .ok (.iload 6, 2) := by decide +kernel
theorem dX3_letter_52 : decode cX3_letter 52 = .ok (.iconst 0, 1) := by decide +kernel
theorem dX3_letter_53 : decode cX3_letter 53 = .ok (.bipush 9, 2) := by decide +kernel
theorem dX3_letter_55 : decode cX3_letter 55 = .ok (.invokestatic 57, 3) := by decide +kernel
theorem dX3_letter_58 : decode cX3_letter 58 = .ok (.ifCond .eq 17, 3) := by decide +kernel
theorem dX3_letter_61 : decode cX3_letter 61 = .ok (.iload_n 3, 1) := by decide +kernel
theorem dX3_letter_62 : decode cX3_letter 62 = .ok (.iconst (-1), 1) := by decide +kernel
theorem dX3_letter_63 : decode cX3_letter 63 = .ok (.if_icmp .ne 8, 3) := by decide +kernel
theorem dX3_letter_66 : decode cX3_letter 66 = .ok (.iload_n 2, 1) := by decide +kernel
theorem dX3_letter_67 : decode cX3_letter 67 = .ok (.iconst (-1), 1) := by decide +kernel
theorem dX3_letter_68 : decode cX3_letter 68 = .ok (.if_icmp .ne 7, 3) := by decide +kernel
theorem dX3_letter_71 : decode cX3_letter 71 = .ok (.iconst 1, 1) := by decide +kernel
theorem dX3_letter_72 : decode cX3_letter 72 = .ok (.goto 4, 3) := by decide +kernel
theorem dX3_letter_75 : decode cX3_letter 75 = .ok (.iconst 0, 1) := by decide +kernel
theorem dX3_letter_76 : decode cX3_letter 76 = .ok (.istore 7, 2) := by decide +kernel
theorem dX3_letter_78 : decode cX3_letter 78 = .ok (.aload_n 0, 1) := by decide +kernel
theorem dX3_letter_79 : decode cX3_letter 79 = .ok (.iload 7, 2) := by decide +kernel
theorem dX3_letter_81 : decode cX3_letter 81 = .ok (.iload 7, 2) := by decide +kernel
theorem dX3_letter_83 : decode cX3_letter 83 = .ok (.ifCond .eq 16, 3) := by decide +kernel
theorem dX3_letter_86 : decode cX3_letter 86 = .ok (.aload_n 0, 1) := by decide +kernel
theorem dX3_letter_87 : decode cX3_letter 87 = .ok (.getfield 7, 3) := by decide +kernel
theorem dX3_letter_90 : decode cX3_letter 90 = .ok (.iload_n 1, 1) := by decide +kernel
theorem dX3_letter_91 : decode cX3_letter 91 = .ok (.baload, 1) := by decide +kernel
theorem dX3_letter_92 : decode cX3_letter 92 = .ok (.ifCond .ne 7, 3) := by decide +kernel
theorem dX3_letter_95 : decode cX3_letter 95 = .ok (.iconst 1, 1) := by decide +kernel
theorem dX3_letter_96 : decode cX3_letter 96 = .ok (.goto 4, 3) := by decide +kernel
theorem dX3_letter_99 : decode cX3_letter 99 = .ok (.iconst 0, 1) := by decide +kernel
theorem dX3_letter_100 : decode cX3_letter 100 = .ok (.invokevirtual 95, 3) := by decide +kernel
theorem dX3_letter_103 : decode cX3_letter 103 = .ok (.ifCond .ne 5, 3) := by decide +kernel
theorem dX3_letter_106 : decode cX3_letter 106 = .ok (.iconst 0, 1) := by decide +kernel
theorem dX3_letter_107 : decode cX3_letter 107 = .ok (.ireturn, 1) := by decide +kernel
theorem dX3_letter_108 : decode cX3_letter 108 = .ok (.aload_n 0, 1) := by decide +kernel
theorem dX3_letter_109 : decode cX3_letter 109 = .ok (.getfield 7, 3) := by decide +kernel
theorem dX3_letter_112 : decode cX3_letter 112 = .ok (.iload_n 1, 1) := by decide +kernel
theorem dX3_letter_113 : decode cX3_letter 113 = .ok (.iconst 1, 1) := by decide +kernel
theorem dX3_letter_114 : decode cX3_letter 114 = .ok (.bastore, 1) := by decide +kernel
theorem dX3_letter_115 : decode cX3_letter 115 = .ok (.aload_n 0, 1) := by decide +kernel
theorem dX3_letter_116 : decode cX3_letter 116 = .ok (.getfield 13, 3) := by decide +kernel
theorem dX3_letter_119 : decode cX3_letter 119 = .ok (.iload_n 1, 1) := by decide +kernel
theorem dX3_letter_120 : decode cX3_letter 120 = .ok (.iload_n 3, 1) := by decide +kernel
theorem dX3_letter_121 : decode cX3_letter 121 = .ok (.iastore, 1) := by decide +kernel
theorem dX3_letter_122 : decode cX3_letter 122 = .ok (.aload_n 0, 1) := by decide +kernel
theorem dX3_letter_123 : decode cX3_letter 123 = .ok (.getfield 17, 3) := by decide +kernel
theorem dX3_letter_126 : decode cX3_letter 126 = .ok (.iload_n 1, 1) := by decide +kernel
theorem dX3_letter_127 : decode cX3_letter 127 = .ok (.iload_n 2, 1) := by decide +kernel
theorem dX3_letter_128 : decode cX3_letter 128 = .ok (.iastore, 1) := by decide +kernel
theorem dX3_letter_129 : decode cX3_letter 129 = .ok (.aload_n 0, 1) := by decide +kernel
theorem dX3_letter_130 : decode cX3_letter 130 = .ok (.getfield 20, 3) := by decide +kernel
theorem dX3_letter_133 : decode cX3_letter 133 = .ok (.iload_n 1, 1) := by decide +kernel
theorem dX3_letter_134 : decode cX3_letter 134 = .ok (.iload 4, 2) := by decide +kernel
theorem dX3_letter_136 : decode cX3_letter 136 = .ok (.iastore, 1) := by decide +kernel
theorem dX3_letter_137 : decode cX3_letter 137 = .ok (.aload_n 0, 1) := by decide +kernel
theorem dX3_letter_138 : decode cX3_letter 138 = .ok (.getfield 23, 3) := by decide +kernel
theorem dX3_letter_141 : decode cX3_letter 141 = .ok (.iload_n 1, 1) := by decide +kernel
theorem dX3_letter_142 : decode cX3_letter 142 = .ok (.iload 5, 2) := by decide +kernel
theorem dX3_letter_144 : decode cX3_letter 144 = .ok (.iastore, 1) := by decide +kernel
theorem dX3_letter_145 : decode cX3_letter 145 = .ok (.aload_n 0, 1) := by decide +kernel
theorem dX3_letter_146 : decode cX3_letter 146 = .ok (.getfield 26, 3) := by decide +kernel
theorem dX3_letter_149 : decode cX3_letter 149 = .ok (.iload_n 1, 1) := by decide +kernel
theorem dX3_letter_150 : decode cX3_letter 150 = .ok (.iload 6, 2) := by decide +kernel
theorem dX3_letter_152 : decode cX3_letter 152 = .ok (.iastore, 1) := by decide +kernel
theorem dX3_letter_153 : decode cX3_letter 153 = .ok (.aload_n 0, 1) := by decide +kernel
theorem dX3_letter_154 : decode cX3_letter 154 = .ok (.getfield 29, 3) := by decide +kernel
theorem dX3_letter_157 : decode cX3_letter 157 = .ok (.iload_n 1, 1) := by decide +kernel
theorem dX3_letter_158 : decode cX3_letter 158 = .ok (.iconst 1, 1) := by decide +kernel
theorem dX3_letter_159 : decode cX3_letter 159 = .ok (.bastore, 1) := by decide +kernel
theorem dX3_letter_160 : decode cX3_letter 160 = .ok (.aload_n 0, 1) := by decide +kernel
theorem dX3_letter_161 : decode cX3_letter 161 = .ok (.getfield 32, 3) := by decide +kernel
theorem dX3_letter_164 : decode cX3_letter 164 = .ok (.iload_n 1, 1) := by decide +kernel
theorem dX3_letter_165 : decode cX3_letter 165 = .ok (.iconst (-1), 1) := by decide +kernel
theorem dX3_letter_166 : decode cX3_letter 166 = .ok (.iastore, 1) := by decide +kernel
theorem dX3_letter_167 : decode cX3_letter 167 = .ok (.aload_n 0, 1) := by decide +kernel
theorem dX3_letter_168 : decode cX3_letter 168 = .ok (.invokevirtual 99, 3) := by decide +kernel
theorem dX3_letter_171 : decode cX3_letter 171 = .ok (.ireturn, 1) := by decide +kernel
theorem dX3_isLetter_0 : decode cX3_isLetter 0 = .ok (.iload_n 1, 1) := by decide +kernel
theorem dX3_isLetter_1 : decode cX3_isLetter 1 = .ok (.invokestatic 92, 3) := by decide +kernel
theorem dX3_isLetter_4 : decode cX3_isLetter 4 = .ok (.istore_n 2, 1) := by decide +kernel
theorem dX3_isLetter_5 : decode cX3_isLetter 5 = .ok (.aload_n 0, 1) := by decide +kernel
theorem dX3_isLetter_6 : decode cX3_isLetter 6 = .ok (.iload_n 2, 1) := by decide +kernel
theorem dX3_isLetter_7 : decode cX3_isLetter 7 = .ok (.iload_n 2, 1) := by decide +kernel
theorem dX3_isLetter_8 : decode cX3_isLetter 8 = .ok (.ifCond .eq 16, 3) := by decide +kernel
theorem dX3_isLetter_11 : decode cX3_isLetter 11 = .ok (.aload_n 0, 1) := by decide +kernel
theorem dX3_isLetter_12 : decode cX3_isLetter 12 = .ok (.getfield 7, 3) := by decide +kernel
theorem dX3_isLetter_15 : decode cX3_isLetter 15 = .ok (.iload_n 1, 1) := by decide +kernel
theorem dX3_isLetter_16 : decode cX3_isLetter 16 = .ok (.baload, 1) := by decide +kernel
theorem dX3_isLetter_17 : decode cX3_isLetter 17 = .ok (.ifCond .eq 7, 3) := by decide +kernel
theorem dX3_isLetter_20 : decode cX3_isLetter 20 = .ok (.iconst 1, 1) := by decide +kernel
theorem dX3_isLetter_21 : decode cX3_isLetter 21 = .ok (.goto 4, 3) := by decide +kernel
theorem dX3_isLetter_24 : decode cX3_isLetter 24 = .ok (.iconst 0, 1) := by decide +kernel
theorem dX3_isLetter_25 : decode cX3_isLetter 25 = .ok (.invokevirtual 95, 3) := by decide +kernel
theorem dX3_isLetter_28 : decode cX3_isLetter 28 = .ok (.ireturn, 1) := by decide +kernel
theorem dX3_delete_0 : decode cX3_delete 0 = .ok (.aload_n 0, 1) := by decide +kernel
theorem dX3_delete_1 : decode cX3_delete 1 = .ok (.iload_n 1, 1) := by decide +kernel
theorem dX3_delete_2 : decode cX3_delete 2 = .ok (.invokevirtual 102, 3) := by decide +kernel
theorem dX3_delete_5 : decode cX3_delete 5 = .ok (.ifCond .ne 5, 3) := by decide +kernel
theorem dX3_delete_8 : decode cX3_delete 8 = .ok (.iconst 0, 1) := by decide +kernel
theorem dX3_delete_9 : decode cX3_delete 9 = .ok (.ireturn, 1) := by decide +kernel
theorem dX3_delete_10 : decode cX3_delete 10 = .ok (.aload_n 0, 1) := by decide +kernel
theorem dX3_delete_11 : decode cX3_delete 11 = .ok (.getfield 7, 3) := by decide +kernel
theorem dX3_delete_14 : decode cX3_delete 14 = .ok (.iload_n 1, 1) := by decide +kernel
theorem dX3_delete_15 : decode cX3_delete 15 = .ok (.iconst 0, 1) := by decide +kernel
theorem dX3_delete_16 : decode cX3_delete 16 = .ok (.bastore, 1) := by decide +kernel
theorem dX3_delete_17 : decode cX3_delete 17 = .ok (.aload_n 0, 1) := by decide +kernel
theorem dX3_delete_18 : decode cX3_delete 18 = .ok (.getfield 32, 3) := by decide +kernel
theorem dX3_delete_21 : decode cX3_delete 21 = .ok (.iload_n 1, 1) := by decide +kernel
theorem dX3_delete_22 : decode cX3_delete 22 = .ok (.iconst (-1), 1) := by decide +kernel
theorem dX3_delete_23 : decode cX3_delete 23 = .ok (.iastore, 1) := by decide +kernel
theorem dX3_delete_24 : decode cX3_delete 24 = .ok (.aload_n 0, 1) := by decide +kernel
theorem dX3_delete_25 : decode cX3_delete 25 = .ok (.invokevirtual 99, 3) := by decide +kernel
theorem dX3_delete_28 : decode cX3_delete 28 = .ok (.ireturn, 1) := by decide +kernel
theorem dX3_split_0 : decode cX3_split 0 = .ok (.aload_n 0, 1) := by decide +kernel
theorem dX3_split_1 : decode cX3_split 1 = .ok (.iload_n 1, 1) := by decide +kernel
theorem dX3_split_2 : decode cX3_split 2 = .ok (.invokevirtual 102, 3) := by decide +kernel
theorem dX3_split_5 : decode cX3_split 5 = .ok (.ifCond .ne 5, 3) := by decide +kernel
theorem dX3_split_8 : decode cX3_split 8 = .ok (.iconst 0, 1) := by decide +kernel
theorem dX3_split_9 : decode cX3_split 9 = .ok (.ireturn, 1) := by decide +kernel
theorem dX3_split_10 : decode cX3_split 10 = .ok (.aload_n 0, 1) := by decide +kernel
theorem dX3_split_11 : decode cX3_split 11 = .ok (.invokevirtual 85, 3) := by decide +kernel
theorem dX3_split_14 : decode cX3_split 14 = .ok (.aload_n 0, 1) := by decide +kernel
theorem dX3_split_15 : decode cX3_split 15 = .ok (.getfield 32, 3) := by decide +kernel
theorem dX3_split_18 : decode cX3_split 18 = .ok (.iload_n 1, 1) := by decide +kernel
theorem dX3_split_19 : decode cX3_split 19 = .ok (.bipush (-2), 2) := by decide +kernel
theorem dX3_split_21 : decode cX3_split 21 = .ok (.iastore, 1) := by decide +kernel
theorem dX3_split_22 : decode cX3_split 22 = .ok (.aload_n 0, 1) := by decide +kernel
theorem dX3_split_23 : decode cX3_split 23 = .ok (.getfield 41, 3) := by decide +kernel
theorem dX3_split_26 : decode cX3_split 26 = .ok (.iload_n 1, 1) := by decide +kernel
theorem dX3_split_27 : decode cX3_split 27 = .ok (.iaload, 1) := by decide +kernel
theorem dX3_split_28 : decode cX3_split 28 = .ok (.ireturn, 1) := by decide +kernel
theorem dX3_join_0 : decode cX3_join 0 = .ok (.iload_n 1, 1) := by decide +kernel
theorem dX3_join_1 : decode cX3_join 1 = .ok (.invokestatic 92, 3) := by decide +kernel
theorem dX3_join_4 : decode cX3_join 4 = .ok (.ifCond .eq 19, 3) := by decide +kernel
theorem dX3_join_7 : decode cX3_join 7 = .ok (.iload_n 2, 1) := by decide +kernel
theorem dX3_join_8 : decode cX3_join 8 = .ok (.invokestatic 92, 3) := by decide +kernel
theorem dX3_join_11 : decode cX3_join 11 = .ok (.ifCond .eq 12, 3) := by decide +kernel
theorem dX3_join_14 : decode cX3_join 14 = .ok (.iload_n 1, 1) := by decide +kernel
theorem dX3_join_15 : decode cX3_join 15 = .ok (.iload_n 2, 1) := by decide +kernel
theorem dX3_join_16 : decode cX3_join 16 = .ok (.if_icmp .eq 7, 3) := by decide +kernel
theorem dX3_join_19 : decode cX3_join 19 = .ok (.iconst 1, 1) := by decide +kernel
theorem dX3_join_20 : decode cX3_join 20 = .ok (.goto 4, 3) := by decide +kernel
theorem dX3_join_23 : decode cX3_join 23 = .ok (.iconst 0, 1) := by decide +kernel
theorem dX3_join_24 : decode cX3_join 24 = .ok (.istore_n 3, 1) := by decide +kernel
theorem dX3_join_25 : decode cX3_join 25 = .ok (.iload_n 3, 1) := by decide +kernel
theorem dX3_join_26 : decode cX3_join 26 = .ok (.ifCond .eq 25, 3) := by decide +kernel
theorem dX3_join_29 : decode cX3_join 29 = .ok (.aload_n 0, 1) := by decide +kernel
theorem dX3_join_30 : decode cX3_join 30 = .ok (.getfield 7, 3) := by decide +kernel
theorem dX3_join_33 : decode cX3_join 33 = .ok (.iload_n 1, 1) := by decide +kernel
theorem dX3_join_34 : decode cX3_join 34 = .ok (.baload, 1) := by decide +kernel
theorem dX3_join_35 : decode cX3_join 35 = .ok (.ifCond .eq 16, 3) := by decide +kernel
theorem dX3_join_38 : decode cX3_join 38 = .ok (.aload_n 0, 1) := by decide +kernel
theorem dX3_join_39 : decode cX3_join 39 = .ok (.getfield 7, 3) := by decide +kernel
theorem dX3_join_42 : decode cX3_join 42 = .ok (.iload_n 2, 1) := by decide +kernel
theorem dX3_join_43 : decode cX3_join 43 = .ok (.baload, 1) := by decide +kernel
theorem dX3_join_44 : decode cX3_join 44 = .ok (.ifCond .eq 7, 3) := by decide +kernel
theorem dX3_join_47 : decode cX3_join 47 = .ok (.iconst 1, 1) := by decide +kernel
theorem dX3_join_48 : decode cX3_join 48 = .ok (.goto 4, 3) := by decide +kernel
theorem dX3_join_51 : decode cX3_join 51 = .ok (.iconst 0, 1) := by decide +kernel
theorem dX3_join_52 : decode cX3_join 52 = .ok (.istore 4, 2) := by decide +kernel
theorem dX3_join_54 : decode cX3_join 54 = .ok (.iload 4, 2) := by decide +kernel
theorem dX3_join_56 : decode cX3_join 56 = .ok (.ifCond .eq 53, 3) := by decide +kernel
theorem dX3_join_59 : decode cX3_join 59 = .ok (.aload_n 0, 1) := by decide +kernel
theorem dX3_join_60 : decode cX3_join 60 = .ok (.invokevirtual 85, 3) := by decide +kernel
theorem dX3_join_63 : decode cX3_join 63 = .ok (.aload_n 0, 1) := by decide +kernel
theorem dX3_join_64 : decode cX3_join 64 = .ok (.iload_n 1, 1) := by decide +kernel
theorem dX3_join_65 : decode cX3_join 65 = .ok (.invokevirtual 105, 3) := by decide +kernel
theorem dX3_join_68 : decode cX3_join 68 = .ok (.iconst 0, 1) := by decide +kernel
theorem dX3_join_69 : decode cX3_join 69 = .ok (.istore 5, 2) := by decide +kernel
theorem dX3_join_71 : decode cX3_join 71 = .ok (.iload 5, 2) := by decide +kernel
theorem dX3_join_73 : decode cX3_join 73 = .ok (.aload_n 0, 1) := by decide +kernel
theorem dX3_join_74 : decode cX3_join 74 = .ok (.getfield 79, 3) := by decide +kernel
theorem dX3_join_77 : decode cX3_join 77 = .ok (.if_icmp .ge 32, 3) := by decide +kernel
theorem dX3_join_80 : decode cX3_join 80 = .ok (.iload 4, 2) := by decide +kernel
theorem dX3_join_82 : decode cX3_join 82 = .ok (.ifCond .eq 18, 3) := by decide +kernel
theorem dX3_join_85 : decode cX3_join 85 = .ok (.aload_n 0, 1) := by decide +kernel
theorem dX3_join_86 : decode cX3_join 86 = .ok (.getfield 47, 3) := by decide +kernel
theorem dX3_join_89 : decode cX3_join 89 = .ok (.iload 5, 2) := by decide +kernel
theorem dX3_join_91 : decode cX3_join 91 = .ok (.iaload, 1) := by decide +kernel
theorem dX3_join_92 : decode cX3_join 92 = .ok (.iload_n 2, 1) := by decide +kernel
theorem dX3_join_93 : decode cX3_join 93 = .ok (.if_icmp .eq 7, 3) := by decide +kernel
theorem dX3_join_96 : decode cX3_join 96 = .ok (.iconst 1, 1) := by decide +kernel
theorem dX3_join_97 : decode cX3_join 97 = .ok (.goto 4, 3) := by decide +kernel
theorem dX3_join_100 : decode cX3_join 100 = .ok (.iconst 0, 1) := by decide +kernel
theorem dX3_join_101 : decode cX3_join 101 = .ok (.istore 4, 2) := by decide +kernel
theorem dX3_join_103 : decode cX3_join 103 = .ok (.iinc 5 1, 3) := by decide +kernel
theorem dX3_join_106 : decode cX3_join 106 = .ok (.goto (-35), 3) := by decide +kernel
theorem dX3_join_109 : decode cX3_join 109 = .ok (.aload_n 0, 1) := by decide +kernel
theorem dX3_join_110 : decode cX3_join 110 = .ok (.iload_n 3, 1) := by decide +kernel
theorem dX3_join_111 : decode cX3_join 111 = .ok (.iload 4, 2) := by decide +kernel
theorem dX3_join_113 : decode cX3_join 113 = .ok (.invokevirtual 95, 3) := by decide +kernel
theorem dX3_join_116 : decode cX3_join 116 = .ok (.ifCond .ne 5, 3) := by decide +kernel
theorem dX3_join_119 : decode cX3_join 119 = .ok (.iconst 0, 1) := by decide +kernel
theorem dX3_join_120 : decode cX3_join 120 = .ok (.ireturn, 1) := by decide +kernel
theorem dX3_join_121 : decode cX3_join 121 = .ok (.aload_n 0, 1) := by decide +kernel
theorem dX3_join_122 : decode cX3_join 122 = .ok (.getfield 32, 3) := by decide +kernel
theorem dX3_join_125 : decode cX3_join 125 = .ok (.iload_n 1, 1) := by decide +kernel
theorem dX3_join_126 : decode cX3_join 126 = .ok (.iload_n 2, 1) := by decide +kernel
theorem dX3_join_127 : decode cX3_join 127 = .ok (.iastore, 1) := by decide +kernel
theorem dX3_join_128 : decode cX3_join 128 = .ok (.aload_n 0, 1) := by decide +kernel
theorem dX3_join_129 : decode cX3_join 129 = .ok (.invokevirtual 85, 3) := by decide +kernel
theorem dX3_join_132 : decode cX3_join 132 = .ok (.aload_n 0, 1) := by decide +kernel
theorem dX3_join_133 : decode cX3_join 133 = .ok (.getfield 41, 3) := by decide +kernel
theorem dX3_join_136 : decode cX3_join 136 = .ok (.iload_n 1, 1) := by decide +kernel
theorem dX3_join_137 : decode cX3_join 137 = .ok (.iaload, 1) := by decide +kernel
theorem dX3_join_138 : decode cX3_join 138 = .ok (.ireturn, 1) := by decide +kernel
theorem dX3_release_0 : decode cX3_release 0 = .ok (.aload_n 0, 1) := by decide +kernel
theorem dX3_release_1 : decode cX3_release 1 = .ok (.iload_n 1, 1) := by decide +kernel
theorem dX3_release_2 : decode cX3_release 2 = .ok (.invokevirtual 102, 3) := by decide +kernel
theorem dX3_release_5 : decode cX3_release 5 = .ok (.ifCond .ne 5, 3) := by decide +kernel
theorem dX3_release_8 : decode cX3_release 8 = .ok (.iconst 0, 1) := by decide +kernel
theorem dX3_release_9 : decode cX3_release 9 = .ok (.ireturn, 1) := by decide +kernel
theorem dX3_release_10 : decode cX3_release 10 = .ok (.aload_n 0, 1) := by decide +kernel
theorem dX3_release_11 : decode cX3_release 11 = .ok (.getfield 32, 3) := by decide +kernel
theorem dX3_release_14 : decode cX3_release 14 = .ok (.iload_n 1, 1) := by decide +kernel
theorem dX3_release_15 : decode cX3_release 15 = .ok (.iaload, 1) := by decide +kernel
theorem dX3_release_16 : decode cX3_release 16 = .ok (.iconst (-1), 1) := by decide +kernel
theorem dX3_release_17 : decode cX3_release 17 = .ok (.if_icmp .eq 7, 3) := by decide +kernel
theorem dX3_release_20 : decode cX3_release 20 = .ok (.iconst 1, 1) := by decide +kernel
theorem dX3_release_21 : decode cX3_release 21 = .ok (.goto 4, 3) := by decide +kernel
theorem dX3_release_24 : decode cX3_release 24 = .ok (.iconst 0, 1) := by decide +kernel
theorem dX3_release_25 : decode cX3_release 25 = .ok (.istore_n 2, 1) := by decide +kernel
theorem dX3_release_26 : decode cX3_release 26 = .ok (.aload_n 0, 1) := by decide +kernel
theorem dX3_release_27 : decode cX3_release 27 = .ok (.getfield 32, 3) := by decide +kernel
theorem dX3_release_30 : decode cX3_release 30 = .ok (.iload_n 1, 1) := by decide +kernel
theorem dX3_release_31 : decode cX3_release 31 = .ok (.iconst (-1), 1) := by decide +kernel
theorem dX3_release_32 : decode cX3_release 32 = .ok (.iastore, 1) := by decide +kernel
theorem dX3_release_33 : decode cX3_release 33 = .ok (.iload_n 2, 1) := by decide +kernel
theorem dX3_release_34 : decode cX3_release 34 = .ok (.ireturn, 1) := by decide +kernel
theorem dX3_looks_0 : decode cX3_looks 0 = .ok (.iload_n 1, 1) := by decide +kernel
theorem dX3_looks_1 : decode cX3_looks 1 = .ok (.invokestatic 92, 3) := by decide +kernel
theorem dX3_looks_4 : decode cX3_looks 4 = .ok (.istore_n 2, 1) := by decide +kernel
theorem dX3_looks_5 : decode cX3_looks 5 = .ok (.aload_n 0, 1) := by decide +kernel
theorem dX3_looks_6 : decode cX3_looks 6 = .ok (.invokevirtual 85, 3) := by decide +kernel
theorem dX3_looks_9 : decode cX3_looks 9 = .ok (.aload_n 0, 1) := by decide +kernel
theorem dX3_looks_10 : decode cX3_looks 10 = .ok (.iload_n 2, 1) := by decide +kernel
theorem dX3_looks_11 : decode cX3_looks 11 = .ok (.iload_n 2, 1) := by decide +kernel
theorem dX3_looks_12 : decode cX3_looks 12 = .ok (.ifCond .eq 16, 3) := by decide +kernel
theorem dX3_looks_15 : decode cX3_looks 15 = .ok (.aload_n 0, 1) := by decide +kernel
theorem dX3_looks_16 : decode cX3_looks 16 = .ok (.getfield 44, 3) := by decide +kernel
theorem dX3_looks_19 : decode cX3_looks 19 = .ok (.iload_n 1, 1) := by decide +kernel
theorem dX3_looks_20 : decode cX3_looks 20 = .ok (.baload, 1) := by decide +kernel
theorem dX3_looks_21 : decode cX3_looks 21 = .ok (.ifCond .eq 7, 3) := by decide +kernel
theorem dX3_looks_24 : decode cX3_looks 24 = .ok (.iconst 1, 1) := by decide +kernel
theorem dX3_looks_25 : decode cX3_looks 25 = .ok (.goto 4, 3) := by decide +kernel
theorem dX3_looks_28 : decode cX3_looks 28 = .ok (.iconst 0, 1) := by decide +kernel
theorem dX3_looks_29 : decode cX3_looks 29 = .ok (.invokevirtual 95, 3) := by decide +kernel
theorem dX3_looks_32 : decode cX3_looks 32 = .ok (.istore_n 3, 1) := by decide +kernel
theorem dX3_looks_33 : decode cX3_looks 33 = .ok (.iload_n 3, 1) := by decide +kernel
theorem dX3_looks_34 : decode cX3_looks 34 = .ok (.ifCond .eq 8, 3) := by decide +kernel
theorem dX3_looks_37 : decode cX3_looks 37 = .ok (.aload_n 0, 1) := by decide +kernel
theorem dX3_looks_38 : decode cX3_looks 38 = .ok (.iload_n 1, 1) := by decide +kernel
theorem dX3_looks_39 : decode cX3_looks 39 = .ok (.invokevirtual 105, 3) := by decide +kernel
theorem dX3_looks_42 : decode cX3_looks 42 = .ok (.iload_n 3, 1) := by decide +kernel
theorem dX3_looks_43 : decode cX3_looks 43 = .ok (.ireturn, 1) := by decide +kernel
theorem dX3_read_0 : decode cX3_read 0 = .ok (.iconst 0, 1) := by decide +kernel
theorem dX3_read_1 : decode cX3_read 1 = .ok (.istore_n 2, 1) := by decide +kernel
theorem dX3_read_2 : decode cX3_read 2 = .ok (.aload_n 0, 1) := by decide +kernel
theorem dX3_read_3 : decode cX3_read 3 = .ok (.iload_n 1, 1) := by decide +kernel
theorem dX3_read_4 : decode cX3_read 4 = .ok (.invokevirtual 109, 3) := by decide +kernel
theorem dX3_read_7 : decode cX3_read 7 = .ok (.istore_n 3, 1) := by decide +kernel
theorem dX3_read_8 : decode cX3_read 8 = .ok (.iconst 0, 1) := by decide +kernel
theorem dX3_read_9 : decode cX3_read 9 = .ok (.istore 4, 2) := by decide +kernel
theorem dX3_read_11 : decode cX3_read 11 = .ok (.iload_n 3, 1) := by decide +kernel
theorem dX3_read_12 : decode cX3_read 12 = .ok (.ifCond .eq 69, 3) := by decide +kernel
theorem dX3_read_15 : decode cX3_read 15 = .ok (.iload 4, 2) := by decide +kernel
theorem dX3_read_17 : decode cX3_read 17 = .ok (.aload_n 0, 1) := by decide +kernel
theorem dX3_read_18 : decode cX3_read 18 = .ok (.getfield 79, 3) := by decide +kernel
theorem dX3_read_21 : decode cX3_read 21 = .ok (.if_icmp .ge 60, 3) := by decide +kernel
theorem dX3_read_24 : decode cX3_read 24 = .ok (.iload_n 2, 1) := by decide +kernel
theorem dX3_read_25 : decode cX3_read 25 = .ok (.aload_n 0, 1) := by decide +kernel
theorem dX3_read_26 : decode cX3_read 26 = .ok (.getfield 7, 3) := by decide +kernel
theorem dX3_read_29 : decode cX3_read 29 = .ok (.aload_n 0, 1) := by decide +kernel
theorem dX3_read_30 : decode cX3_read 30 = .ok (.getfield 47, 3) := by decide +kernel
theorem dX3_read_33 : decode cX3_read 33 = .ok (.iload 4, 2) := by decide +kernel
theorem dX3_read_35 : decode cX3_read 35 = .ok (.iaload, 1) := by decide +kernel
theorem dX3_read_36 : decode cX3_read 36 = .ok (.baload, 1) := by decide +kernel
theorem dX3_read_37 : decode cX3_read 37 = .ok (.ifCond .eq 22, 3) := by decide +kernel
theorem dX3_read_40 : decode cX3_read 40 = .ok (.aload_n 0, 1) := by decide +kernel
theorem dX3_read_41 : decode cX3_read 41 = .ok (.getfield 29, 3) := by decide +kernel
theorem dX3_read_44 : decode cX3_read 44 = .ok (.aload_n 0, 1) := by decide +kernel
theorem dX3_read_45 : decode cX3_read 45 = .ok (.getfield 47, 3) := by decide +kernel
theorem dX3_read_48 : decode cX3_read 48 = .ok (.iload 4, 2) := by decide +kernel
theorem dX3_read_50 : decode cX3_read 50 = .ok (.iaload, 1) := by decide +kernel
theorem dX3_read_51 : decode cX3_read 51 = .ok (.baload, 1) := by decide +kernel
theorem dX3_read_52 : decode cX3_read 52 = .ok (.ifCond .eq 7, 3) := by decide +kernel
theorem dX3_read_55 : decode cX3_read 55 = .ok (.iconst 1, 1) := by decide +kernel
theorem dX3_read_56 : decode cX3_read 56 = .ok (.goto 4, 3) := by decide +kernel
theorem dX3_read_59 : decode cX3_read 59 = .ok (.iconst 0, 1) := by decide +kernel
theorem dX3_read_60 : decode cX3_read 60 = .ok (.iadd, 1) := by decide +kernel
theorem dX3_read_61 : decode cX3_read 61 = .ok (.istore_n 2, 1) := by decide +kernel
theorem dX3_read_62 : decode cX3_read 62 = .ok (.aload_n 0, 1) := by decide +kernel
theorem dX3_read_63 : decode cX3_read 63 = .ok (.getfield 29, 3) := by decide +kernel
theorem dX3_read_66 : decode cX3_read 66 = .ok (.aload_n 0, 1) := by decide +kernel
theorem dX3_read_67 : decode cX3_read 67 = .ok (.getfield 47, 3) := by decide +kernel
theorem dX3_read_70 : decode cX3_read 70 = .ok (.iload 4, 2) := by decide +kernel
theorem dX3_read_72 : decode cX3_read 72 = .ok (.iaload, 1) := by decide +kernel
theorem dX3_read_73 : decode cX3_read 73 = .ok (.iconst 0, 1) := by decide +kernel
theorem dX3_read_74 : decode cX3_read 74 = .ok (.bastore, 1) := by decide +kernel
theorem dX3_read_75 : decode cX3_read 75 = .ok (.iinc 4 1, 3) := by decide +kernel
theorem dX3_read_78 : decode cX3_read 78 = .ok (.goto (-67), 3) := by decide +kernel
theorem dX3_read_81 : decode cX3_read 81 = .ok (.iload_n 2, 1) := by decide +kernel
theorem dX3_read_82 : decode cX3_read 82 = .ok (.ireturn, 1) := by decide +kernel
theorem dX3_state_0 : decode cX3_state 0 = .ok (.aload_n 0, 1) := by decide +kernel
theorem dX3_state_1 : decode cX3_state 1 = .ok (.iload_n 1, 1) := by decide +kernel
theorem dX3_state_2 : decode cX3_state 2 = .ok (.invokestatic 92, 3) := by decide +kernel
theorem dX3_state_5 : decode cX3_state 5 = .ok (.invokevirtual 112, 3) := by decide +kernel
theorem dX3_state_8 : decode cX3_state 8 = .ok (.ifCond .ne 5, 3) := by decide +kernel
theorem dX3_state_11 : decode cX3_state 11 = .ok (.iconst 0, 1) := by decide +kernel
theorem dX3_state_12 : decode cX3_state 12 = .ok (.ireturn, 1) := by decide +kernel
theorem dX3_state_13 : decode cX3_state 13 = .ok (.aload_n 0, 1) := by decide +kernel
theorem dX3_state_14 : decode cX3_state 14 = .ok (.invokevirtual 85, 3) := by decide +kernel
theorem dX3_state_17 : decode cX3_state 17 = .ok (.aload_n 0, 1) := by decide +kernel
theorem dX3_state_18 : decode cX3_state 18 = .ok (.getfield 35, 3) := by decide +kernel
theorem dX3_state_21 : decode cX3_state 21 = .ok (.iload_n 1, 1) := by decide +kernel
theorem dX3_state_22 : decode cX3_state 22 = .ok (.baload, 1) := by decide +kernel
theorem dX3_state_23 : decode cX3_state 23 = .ok (.ifCond .ne 7, 3) := by decide +kernel
theorem dX3_state_26 : decode cX3_state 26 = .ok (.iconst 0, 1) := by decide +kernel
theorem dX3_state_27 : decode cX3_state 27 = .ok (.goto 30, 3) := by decide +kernel
theorem dX3_state_30 : decode cX3_state 30 = .ok (.aload_n 0, 1) := by decide +kernel
theorem dX3_state_31 : decode cX3_state 31 = .ok (.getfield 7, 3) := by decide +kernel
theorem dX3_state_34 : decode cX3_state 34 = .ok (.iload_n 1, 1) := by decide +kernel
theorem dX3_state_35 : decode cX3_state 35 = .ok (.baload, 1) := by decide +kernel
theorem dX3_state_36 : decode cX3_state 36 = .ok (.ifCond .eq 7, 3) := by decide +kernel
theorem dX3_state_39 : decode cX3_state 39 = .ok (.iconst 3, 1) := by decide +kernel
theorem dX3_state_40 : decode cX3_state 40 = .ok (.goto 17, 3) := by decide +kernel
theorem dX3_state_43 : decode cX3_state 43 = .ok (.aload_n 0, 1) := by decide +kernel
theorem dX3_state_44 : decode cX3_state 44 = .ok (.getfield 44, 3) := by decide +kernel
theorem dX3_state_47 : decode cX3_state 47 = .ok (.iload_n 1, 1) := by decide +kernel
theorem dX3_state_48 : decode cX3_state 48 = .ok (.baload, 1) := by decide +kernel
theorem dX3_state_49 : decode cX3_state 49 = .ok (.ifCond .eq 7, 3) := by decide +kernel
theorem dX3_state_52 : decode cX3_state 52 = .ok (.iconst 2, 1) := by decide +kernel
theorem dX3_state_53 : decode cX3_state 53 = .ok (.goto 4, 3) := by decide +kernel
theorem dX3_state_56 : decode cX3_state 56 = .ok (.iconst 1, 1) := by decide +kernel
theorem dX3_state_57 : decode cX3_state 57 = .ok (.ireturn, 1) := by decide +kernel
theorem dX3_parent_0 : decode cX3_parent 0 = .ok (.aload_n 0, 1) := by decide +kernel
theorem dX3_parent_1 : decode cX3_parent 1 = .ok (.iload_n 1, 1) := by decide +kernel
theorem dX3_parent_2 : decode cX3_parent 2 = .ok (.invokevirtual 109, 3) := by decide +kernel
theorem dX3_parent_5 : decode cX3_parent 5 = .ok (.ifCond .eq 12, 3) := by decide +kernel
theorem dX3_parent_8 : decode cX3_parent 8 = .ok (.aload_n 0, 1) := by decide +kernel
theorem dX3_parent_9 : decode cX3_parent 9 = .ok (.getfield 41, 3) := by decide +kernel
theorem dX3_parent_12 : decode cX3_parent 12 = .ok (.iload_n 1, 1) := by decide +kernel
theorem dX3_parent_13 : decode cX3_parent 13 = .ok (.iaload, 1) := by decide +kernel
theorem dX3_parent_14 : decode cX3_parent 14 = .ok (.goto 4, 3) := by decide +kernel
theorem dX3_parent_17 : decode cX3_parent 17 = .ok (.iconst 0, 1) := by decide +kernel
theorem dX3_parent_18 : decode cX3_parent 18 = .ok (.ireturn, 1) := by decide +kernel
theorem dX3_children_0 : decode cX3_children 0 = .ok (.iconst 0, 1) := by decide +kernel
theorem dX3_children_1 : decode cX3_children 1 = .ok (.istore_n 2, 1) := by decide +kernel
theorem dX3_children_2 : decode cX3_children 2 = .ok (.aload_n 0, 1) := by decide +kernel
theorem dX3_children_3 : decode cX3_children 3 = .ok (.iload_n 1, 1) := by decide +kernel
theorem dX3_children_4 : decode cX3_children 4 = .ok (.invokevirtual 109, 3) := by decide +kernel
theorem dX3_children_7 : decode cX3_children 7 = .ok (.istore_n 3, 1) := by decide +kernel
theorem dX3_children_8 : decode cX3_children 8 = .ok (.iconst 0, 1) := by decide +kernel
theorem dX3_children_9 : decode cX3_children 9 = .ok (.istore 4, 2) := by decide +kernel
theorem dX3_children_11 : decode cX3_children 11 = .ok (.iload 4, 2) := by decide +kernel
theorem dX3_children_13 : decode cX3_children 13 = .ok (.bipush 30, 2) := by decide +kernel
theorem dX3_children_15 : decode cX3_children 15 = .ok (.if_icmp .ge 32, 3) := by decide +kernel
theorem dX3_children_18 : decode cX3_children 18 = .ok (.iload_n 2, 1) := by decide +kernel
theorem dX3_children_19 : decode cX3_children 19 = .ok (.iload_n 3, 1) := by decide +kernel
theorem dX3_children_20 : decode cX3_children 20 = .ok (.ifCond .eq 18, 3) := by decide +kernel
theorem dX3_children_23 : decode cX3_children 23 = .ok (.aload_n 0, 1) := by decide +kernel
theorem dX3_children_24 : decode cX3_children 24 = .ok (.getfield 41, 3) := by decide +kernel
theorem dX3_children_27 : decode cX3_children 27 = .ok (.iload 4, 2) := by decide +kernel
theorem dX3_children_29 : decode cX3_children 29 = .ok (.iaload, 1) := by decide +kernel
theorem dX3_children_30 : decode cX3_children 30 = .ok (.iload_n 1, 1) := by decide +kernel
theorem dX3_children_31 : decode cX3_children 31 = .ok (.if_icmp .ne 7, 3) := by decide +kernel
theorem dX3_children_34 : decode cX3_children 34 = .ok (.iconst 1, 1) := by decide +kernel
theorem dX3_children_35 : decode cX3_children 35 = .ok (.goto 4, 3) := by decide +kernel
theorem dX3_children_38 : decode cX3_children 38 = .ok (.iconst 0, 1) := by decide +kernel
theorem dX3_children_39 : decode cX3_children 39 = .ok (.iadd, 1) := by decide +kernel
theorem dX3_children_40 : decode cX3_children 40 = .ok (.istore_n 2, 1) := by decide +kernel
theorem dX3_children_41 : decode cX3_children 41 = .ok (.iinc 4 1, 3) := by decide +kernel
theorem dX3_children_44 : decode cX3_children 44 = .ok (.goto (-33), 3) := by decide +kernel
theorem dX3_children_47 : decode cX3_children 47 = .ok (.iload_n 2, 1) := by decide +kernel
theorem dX3_children_48 : decode cX3_children 48 = .ok (.ireturn, 1) := by decide +kernel
theorem dX3_roots_0 : decode cX3_roots 0 = .ok (.aload_n 0, 1) := by decide +kernel
theorem dX3_roots_1 : decode cX3_roots 1 = .ok (.iconst 0, 1) := by decide +kernel
theorem dX3_roots_2 : decode cX3_roots 2 = .ok (.putfield 53, 3) := by decide +kernel
theorem dX3_roots_5 : decode cX3_roots 5 = .ok (.aload_n 0, 1) := by decide +kernel
theorem dX3_roots_6 : decode cX3_roots 6 = .ok (.invokevirtual 99, 3) := by decide +kernel
theorem dX3_roots_9 : decode cX3_roots 9 = .ok (.ireturn, 1) := by decide +kernel
theorem dX3_earliest_0 : decode cX3_earliest 0 = .ok (.aload_n 0, 1) := by decide +kernel
theorem dX3_earliest_1 : decode cX3_earliest 1 = .ok (.iload_n 1, 1) := by decide +kernel
theorem dX3_earliest_2 : decode cX3_earliest 2 = .ok (.invokevirtual 105, 3) := by decide +kernel
theorem dX3_earliest_5 : decode cX3_earliest 5 = .ok (.sipush 1000, 3) := by decide +kernel
theorem dX3_earliest_8 : decode cX3_earliest 8 = .ok (.istore_n 2, 1) := by decide +kernel
theorem dX3_earliest_9 : decode cX3_earliest 9 = .ok (.iconst 0, 1) := by decide +kernel
theorem dX3_earliest_10 : decode cX3_earliest 10 = .ok (.istore_n 3, 1) := by decide +kernel
theorem dX3_earliest_11 : decode cX3_earliest 11 = .ok (.iload_n 3, 1) := by decide +kernel
theorem dX3_earliest_12 : decode cX3_earliest 12 = .ok (.aload_n 0, 1) := by decide +kernel
theorem dX3_earliest_13 : decode cX3_earliest 13 = .ok (.getfield 79, 3) := by decide +kernel
theorem dX3_earliest_16 : decode cX3_earliest 16 = .ok (.if_icmp .ge 54, 3) := by decide +kernel
theorem dX3_earliest_19 : decode cX3_earliest 19 = .ok (.aload_n 0, 1) := by decide +kernel
theorem dX3_earliest_20 : decode cX3_earliest 20 = .ok (.getfield 7, 3) := by decide +kernel
theorem dX3_earliest_23 : decode cX3_earliest 23 = .ok (.aload_n 0, 1) := by decide +kernel
theorem dX3_earliest_24 : decode cX3_earliest 24 = .ok (.getfield 47, 3) := by decide +kernel
theorem dX3_earliest_27 : decode cX3_earliest 27 = .ok (.iload_n 3, 1) := by decide +kernel
theorem dX3_earliest_28 : decode cX3_earliest 28 = .ok (.iaload, 1) := by decide +kernel
theorem dX3_earliest_29 : decode cX3_earliest 29 = .ok (.baload, 1) := by decide +kernel
theorem dX3_earliest_30 : decode cX3_earliest 30 = .ok (.ifCond .eq 32, 3) := by decide +kernel
theorem dX3_earliest_33 : decode cX3_earliest 33 = .ok (.aload_n 0, 1) := by decide +kernel
theorem dX3_earliest_34 : decode cX3_earliest 34 = .ok (.getfield 23, 3) := by decide +kernel
theorem dX3_earliest_37 : decode cX3_earliest 37 = .ok (.aload_n 0, 1) := by decide +kernel
theorem dX3_earliest_38 : decode cX3_earliest 38 = .ok (.getfield 47, 3) := by decide +kernel
theorem dX3_earliest_41 : decode cX3_earliest 41 = .ok (.iload_n 3, 1) := by decide +kernel
theorem dX3_earliest_42 : decode cX3_earliest 42 = .ok (.iaload, 1) := by decide +kernel
theorem dX3_earliest_43 : decode cX3_earliest 43 = .ok (.iaload, 1) := by decide +kernel
theorem dX3_earliest_44 : decode cX3_earliest 44 = .ok (.iload_n 2, 1) := by decide +kernel
theorem dX3_earliest_45 : decode cX3_earliest 45 = .ok (.if_icmp .ge 17, 3) := by decide +kernel
theorem dX3_earliest_48 : decode cX3_earliest 48 = .ok (.aload_n 0, 1) := by decide +kernel
theorem dX3_earliest_49 : decode cX3_earliest 49 = .ok (.getfield 23, 3) := by decide +kernel
theorem dX3_earliest_52 : decode cX3_earliest 52 = .ok (.aload_n 0, 1) := by decide +kernel
theorem dX3_earliest_53 : decode cX3_earliest 53 = .ok (.getfield 47, 3) := by decide +kernel
theorem dX3_earliest_56 : decode cX3_earliest 56 = .ok (.iload_n 3, 1) := by decide +kernel
theorem dX3_earliest_57 : decode cX3_earliest 57 = .ok (.iaload, 1) := by decide +kernel
theorem dX3_earliest_58 : decode cX3_earliest 58 = .ok (.iaload, 1) := by decide +kernel
theorem dX3_earliest_59 : decode cX3_earliest 59 = .ok (.goto 4, 3) := by decide +kernel
theorem dX3_earliest_62 : decode cX3_earliest 62 = .ok (.iload_n 2, 1) := by decide +kernel
theorem dX3_earliest_63 : decode cX3_earliest 63 = .ok (.istore_n 2, 1) := by decide +kernel
theorem dX3_earliest_64 : decode cX3_earliest 64 = .ok (.iinc 3 1, 3) := by decide +kernel
theorem dX3_earliest_67 : decode cX3_earliest 67 = .ok (.goto (-56), 3) := by decide +kernel
theorem dX3_earliest_70 : decode cX3_earliest 70 = .ok (.iload_n 2, 1) := by decide +kernel
theorem dX3_earliest_71 : decode cX3_earliest 71 = .ok (.ireturn, 1) := by decide +kernel
theorem dX3_root_0 : decode cX3_root 0 = .ok (.aload_n 0, 1) := by decide +kernel
theorem dX3_root_1 : decode cX3_root 1 = .ok (.invokevirtual 85, 3) := by decide +kernel
theorem dX3_root_4 : decode cX3_root 4 = .ok (.aload_n 0, 1) := by decide +kernel
theorem dX3_root_5 : decode cX3_root 5 = .ok (.iload_n 1, 1) := by decide +kernel
theorem dX3_root_6 : decode cX3_root 6 = .ok (.iconst 0, 1) := by decide +kernel
theorem dX3_root_7 : decode cX3_root 7 = .ok (.aload_n 0, 1) := by decide +kernel
theorem dX3_root_8 : decode cX3_root 8 = .ok (.invokevirtual 88, 3) := by decide +kernel
theorem dX3_root_11 : decode cX3_root 11 = .ok (.iconst 1, 1) := by decide +kernel
theorem dX3_root_12 : decode cX3_root 12 = .ok (.isub, 1) := by decide +kernel
theorem dX3_root_13 : decode cX3_root 13 = .ok (.invokestatic 57, 3) := by decide +kernel
theorem dX3_root_16 : decode cX3_root 16 = .ok (.invokevirtual 112, 3) := by decide +kernel
theorem dX3_root_19 : decode cX3_root 19 = .ok (.ifCond .ne 5, 3) := by decide +kernel
theorem dX3_root_22 : decode cX3_root 22 = .ok (.iconst 0, 1) := by decide +kernel
theorem dX3_root_23 : decode cX3_root 23 = .ok (.ireturn, 1) := by decide +kernel
theorem dX3_root_24 : decode cX3_root 24 = .ok (.iconst (-1), 1) := by decide +kernel
theorem dX3_root_25 : decode cX3_root 25 = .ok (.istore_n 2, 1) := by decide +kernel
theorem dX3_root_26 : decode cX3_root 26 = .ok (.iconst 0, 1) := by decide +kernel
theorem dX3_root_27 : decode cX3_root 27 = .ok (.istore_n 3, 1) := by decide +kernel
theorem dX3_root_28 : decode cX3_root 28 = .ok (.iload_n 3, 1) := by decide +kernel
theorem dX3_root_29 : decode cX3_root 29 = .ok (.bipush 30, 2) := by decide +kernel
theorem dX3_root_31 : decode cX3_root 31 = .ok (.if_icmp .ge 145, 3) := by decide +kernel
theorem dX3_root_34 : decode cX3_root 34 = .ok (.iconst 0, 1) := by decide +kernel
theorem dX3_root_35 : decode cX3_root 35 = .ok (.istore 4, 2) := by decide +kernel
theorem dX3_root_37 : decode cX3_root 37 = .ok (.iconst 0, 1) := by decide +kernel
theorem dX3_root_38 : decode cX3_root 38 = .ok (.istore 5, 2) := by decide +kernel
theorem dX3_root_40 : decode cX3_root 40 = .ok (.aload_n 0, 1) := by decide +kernel
theorem dX3_root_41 : decode cX3_root 41 = .ok (.getfield 44, 3) := by decide +kernel
theorem dX3_root_44 : decode cX3_root 44 = .ok (.iload_n 3, 1) := by decide +kernel
theorem dX3_root_45 : decode cX3_root 45 = .ok (.baload, 1) := by decide +kernel
theorem dX3_root_46 : decode cX3_root 46 = .ok (.ifCond .eq 93, 3) := by decide +kernel
theorem dX3_root_49 : decode cX3_root 49 = .ok (.aload_n 0, 1) := by decide +kernel
theorem dX3_root_50 : decode cX3_root 50 = .ok (.getfield 41, 3) := by decide +kernel
theorem dX3_root_53 : decode cX3_root 53 = .ok (.iload_n 3, 1) := by decide +kernel
theorem dX3_root_54 : decode cX3_root 54 = .ok (.iaload, 1) := by decide +kernel
theorem dX3_root_55 : decode cX3_root 55 = .ok (.iconst (-1), 1) := by decide +kernel
theorem dX3_root_56 : decode cX3_root 56 = .ok (.if_icmp .ne 83, 3) := by decide +kernel
theorem dX3_root_59 : decode cX3_root 59 = .ok (.iload 5, 2) := by decide +kernel
theorem dX3_root_61 : decode cX3_root 61 = .ok (.bipush 30, 2) := by decide +kernel
theorem dX3_root_63 : decode cX3_root 63 = .ok (.if_icmp .ge 76, 3) := by decide +kernel
theorem dX3_root_66 : decode cX3_root 66 = .ok (.iload 5, 2) := by decide +kernel
theorem dX3_root_68 : decode cX3_root 68 = .ok (.iload_n 3, 1) := by decide +kernel
theorem dX3_root_69 : decode cX3_root 69 = .ok (.if_icmp .eq 64, 3) := by decide +kernel
theorem dX3_root_72 : decode cX3_root 72 = .ok (.aload_n 0, 1) := by decide +kernel
theorem dX3_root_73 : decode cX3_root 73 = .ok (.getfield 44, 3) := by decide +kernel
theorem dX3_root_76 : decode cX3_root 76 = .ok (.iload 5, 2) := by decide +kernel
theorem dX3_root_78 : decode cX3_root 78 = .ok (.baload, 1) := by decide +kernel
theorem dX3_root_79 : decode cX3_root 79 = .ok (.ifCond .eq 54, 3) := by decide +kernel
theorem dX3_root_82 : decode cX3_root 82 = .ok (.aload_n 0, 1) := by decide +kernel
theorem dX3_root_83 : decode cX3_root 83 = .ok (.getfield 41, 3) := by decide +kernel
theorem dX3_root_86 : decode cX3_root 86 = .ok (.iload 5, 2) := by decide +kernel
theorem dX3_root_88 : decode cX3_root 88 = .ok (.iaload, 1) := by decide +kernel
theorem dX3_root_89 : decode cX3_root 89 = .ok (.iconst (-1), 1) := by decide +kernel
theorem dX3_root_90 : decode cX3_root 90 = .ok (.if_icmp .ne 43, 3) := by decide +kernel
theorem dX3_root_93 : decode cX3_root 93 = .ok (.aload_n 0, 1) := by decide +kernel
theorem dX3_root_94 : decode cX3_root 94 = .ok (.iload_n 3, 1) := by decide +kernel
theorem dX3_root_95 : decode cX3_root 95 = .ok (.invokevirtual 115, 3) := by decide +kernel
theorem dX3_root_98 : decode cX3_root 98 = .ok (.aload_n 0, 1) := by decide +kernel
theorem dX3_root_99 : decode cX3_root 99 = .ok (.iload 5, 2) := by decide +kernel
theorem dX3_root_101 : decode cX3_root 101 = .ok (.invokevirtual 115, 3) := by decide +kernel
theorem dX3_root_104 : decode cX3_root 104 = .ok (.isub, 1) := by decide +kernel
theorem dX3_root_105 : decode cX3_root 105 = .ok (.istore 6, 2) := by decide +kernel
theorem dX3_root_107 : decode cX3_root 107 = .ok (.iload 4, 2) := by decide +kernel
theorem dX3_root_109 : decode cX3_root 109 = .ok (.iload 6, 2) := by decide +kernel
theorem dX3_root_111 : decode cX3_root 111 = .ok (.ifCond .gt 14, 3) := by decide +kernel
theorem dX3_root_114 : decode cX3_root 114 = .ok (.iload 6, 2) := by decide +kernel
theorem dX3_root_116 : decode cX3_root 116 = .ok (.ifCond .ne 13, 3) := by decide +kernel
theorem dX3_root_119 : decode cX3_root 119 = .ok (.iload 5, 2) := by decide +kernel
theorem dX3_root_121 : decode cX3_root 121 = .ok (.iload_n 3, 1) := by decide +kernel
theorem dX3_root_122 : decode cX3_root 122 = .ok (.if_icmp .ge 7, 3) := by decide +kernel
theorem dX3_root_125 : decode cX3_root 125 = .ok (.iconst 1, 1) := by decide +kernel
theorem dX3_root_126 : decode cX3_root 126 = .ok (.goto 4, 3) := by decide +kernel
theorem dX3_root_129 : decode cX3_root 129 = .ok (.iconst 0, 1) := by decide +kernel
theorem dX3_root_130 : decode cX3_root 130 = .ok (.iadd, 1) := by decide +kernel
theorem dX3_root_131 : decode cX3_root 131 = .ok (.istore 4, 2) := by decide +kernel
theorem dX3_root_133 : decode cX3_root 133 = .ok (.iinc 5 1, 3) := by decide +kernel
theorem dX3_root_136 : decode cX3_root 136 = .ok (.goto (-96), 3) := by decide +kernel
theorem dX3_root_139 : decode cX3_root 139 = .ok (.aload_n 0, 1) := by decide +kernel
theorem dX3_root_140 : decode cX3_root 140 = .ok (.getfield 44, 3) := by decide +kernel
theorem dX3_root_143 : decode cX3_root 143 = .ok (.iload_n 3, 1) := by decide +kernel
theorem dX3_root_144 : decode cX3_root 144 = .ok (.baload, 1) := by decide +kernel
theorem dX3_root_145 : decode cX3_root 145 = .ok (.ifCond .eq 23, 3) := by decide +kernel
theorem dX3_root_148 : decode cX3_root 148 = .ok (.aload_n 0, 1) := by decide +kernel
theorem dX3_root_149 : decode cX3_root 149 = .ok (.getfield 41, 3) := by decide +kernel
theorem dX3_root_152 : decode cX3_root 152 = .ok (.iload_n 3, 1) := by decide +kernel
theorem dX3_root_153 : decode cX3_root 153 = .ok (.iaload, 1) := by decide +kernel
theorem dX3_root_154 : decode cX3_root 154 = .ok (.iconst (-1), 1) := by decide +kernel
theorem dX3_root_155 : decode cX3_root 155 = .ok (.if_icmp .ne 13, 3) := by decide +kernel
theorem dX3_root_158 : decode cX3_root 158 = .ok (.iload 4, 2) := by decide +kernel
theorem dX3_root_160 : decode cX3_root 160 = .ok (.iload_n 1, 1) := by decide +kernel
theorem dX3_root_161 : decode cX3_root 161 = .ok (.if_icmp .ne 7, 3) := by decide +kernel
theorem dX3_root_164 : decode cX3_root 164 = .ok (.iload_n 3, 1) := by decide +kernel
theorem dX3_root_165 : decode cX3_root 165 = .ok (.goto 4, 3) := by decide +kernel
theorem dX3_root_168 : decode cX3_root 168 = .ok (.iload_n 2, 1) := by decide +kernel
theorem dX3_root_169 : decode cX3_root 169 = .ok (.istore_n 2, 1) := by decide +kernel
theorem dX3_root_170 : decode cX3_root 170 = .ok (.iinc 3 1, 3) := by decide +kernel
theorem dX3_root_173 : decode cX3_root 173 = .ok (.goto (-145), 3) := by decide +kernel
theorem dX3_root_176 : decode cX3_root 176 = .ok (.iload_n 2, 1) := by decide +kernel
theorem dX3_root_177 : decode cX3_root 177 = .ok (.ireturn, 1) := by decide +kernel
theorem dX3_inTree_0 : decode cX3_inTree 0 = .ok (.aload_n 0, 1) := by decide +kernel
theorem dX3_inTree_1 : decode cX3_inTree 1 = .ok (.iload_n 1, 1) := by decide +kernel
theorem dX3_inTree_2 : decode cX3_inTree 2 = .ok (.invokevirtual 109, 3) := by decide +kernel
theorem dX3_inTree_5 : decode cX3_inTree 5 = .ok (.ifCond .ne 5, 3) := by decide +kernel
theorem dX3_inTree_8 : decode cX3_inTree 8 = .ok (.iconst 0, 1) := by decide +kernel
theorem dX3_inTree_9 : decode cX3_inTree 9 = .ok (.ireturn, 1) := by decide +kernel
theorem dX3_inTree_10 : decode cX3_inTree 10 = .ok (.aload_n 0, 1) := by decide +kernel
theorem dX3_inTree_11 : decode cX3_inTree 11 = .ok (.iconst 1, 1) := by decide +kernel
theorem dX3_inTree_12 : decode cX3_inTree 12 = .ok (.iload_n 2, 1) := by decide +kernel
theorem dX3_inTree_13 : decode cX3_inTree 13 = .ok (.iconst 0, 1) := by decide +kernel
theorem dX3_inTree_14 : decode cX3_inTree 14 = .ok (.aload_n 0, 1) := by decide +kernel
theorem dX3_inTree_15 : decode cX3_inTree 15 = .ok (.getfield 79, 3) := by decide +kernel
theorem dX3_inTree_18 : decode cX3_inTree 18 = .ok (.iconst 1, 1) := by decide +kernel
theorem dX3_inTree_19 : decode cX3_inTree 19 = .ok (.isub, 1) := by decide +kernel
theorem dX3_inTree_20 : decode cX3_inTree 20 = .ok (.invokestatic 57, 3) := by decide +kernel
theorem dX3_inTree_23 : decode cX3_inTree 23 = .ok (.invokevirtual 95, 3) := by decide +kernel
theorem dX3_inTree_26 : decode cX3_inTree 26 = .ok (.ifCond .eq 12, 3) := by decide +kernel
theorem dX3_inTree_29 : decode cX3_inTree 29 = .ok (.aload_n 0, 1) := by decide +kernel
theorem dX3_inTree_30 : decode cX3_inTree 30 = .ok (.getfield 47, 3) := by decide +kernel
theorem dX3_inTree_33 : decode cX3_inTree 33 = .ok (.iload_n 2, 1) := by decide +kernel
theorem dX3_inTree_34 : decode cX3_inTree 34 = .ok (.iaload, 1) := by decide +kernel
theorem dX3_inTree_35 : decode cX3_inTree 35 = .ok (.goto 4, 3) := by decide +kernel
theorem dX3_inTree_38 : decode cX3_inTree 38 = .ok (.iconst 0, 1) := by decide +kernel
theorem dX3_inTree_39 : decode cX3_inTree 39 = .ok (.ireturn, 1) := by decide +kernel
theorem dX3_depth_0 : decode cX3_depth 0 = .ok (.iconst 0, 1) := by decide +kernel
theorem dX3_depth_1 : decode cX3_depth 1 = .ok (.istore_n 2, 1) := by decide +kernel
theorem dX3_depth_2 : decode cX3_depth 2 = .ok (.aload_n 0, 1) := by decide +kernel
theorem dX3_depth_3 : decode cX3_depth 3 = .ok (.iload_n 1, 1) := by decide +kernel
theorem dX3_depth_4 : decode cX3_depth 4 = .ok (.invokevirtual 109, 3) := by decide +kernel
theorem dX3_depth_7 : decode cX3_depth 7 = .ok (.istore_n 3, 1) := by decide +kernel
theorem dX3_depth_8 : decode cX3_depth 8 = .ok (.iload_n 3, 1) := by decide +kernel
theorem dX3_depth_9 : decode cX3_depth 9 = .ok (.ifCond .eq 12, 3) := by decide +kernel
theorem dX3_depth_12 : decode cX3_depth 12 = .ok (.aload_n 0, 1) := by decide +kernel
theorem dX3_depth_13 : decode cX3_depth 13 = .ok (.getfield 41, 3) := by decide +kernel
theorem dX3_depth_16 : decode cX3_depth 16 = .ok (.iload_n 1, 1) := by decide +kernel
theorem dX3_depth_17 : decode cX3_depth 17 = .ok (.iaload, 1) := by decide +kernel
theorem dX3_depth_18 : decode cX3_depth 18 = .ok (.goto 4, 3) := by decide +kernel
theorem dX3_depth_21 : decode cX3_depth 21 = .ok (.iconst (-1), 1) := by decide +kernel
theorem dX3_depth_22 : decode cX3_depth 22 = .ok (.istore 4, 2) := by decide +kernel
theorem dX3_depth_24 : decode cX3_depth 24 = .ok (.iload 4, 2) := by decide +kernel
theorem dX3_depth_26 : decode cX3_depth 26 = .ok (.iconst (-1), 1) := by decide +kernel
theorem dX3_depth_27 : decode cX3_depth 27 = .ok (.if_icmp .eq 18, 3) := by decide +kernel
theorem dX3_depth_30 : decode cX3_depth 30 = .ok (.iinc 2 1, 3) := by decide +kernel
theorem dX3_depth_33 : decode cX3_depth 33 = .ok (.aload_n 0, 1) := by decide +kernel
theorem dX3_depth_34 : decode cX3_depth 34 = .ok (.getfield 41, 3) := by decide +kernel
theorem dX3_depth_37 : decode cX3_depth 37 = .ok (.iload 4, 2) := by decide +kernel
theorem dX3_depth_39 : decode cX3_depth 39 = .ok (.iaload, 1) := by decide +kernel
theorem dX3_depth_40 : decode cX3_depth 40 = .ok (.istore 4, 2) := by decide +kernel
theorem dX3_depth_42 : decode cX3_depth 42 = .ok (.goto (-18), 3) := by decide +kernel
theorem dX3_depth_45 : decode cX3_depth 45 = .ok (.iload_n 2, 1) := by decide +kernel
theorem dX3_depth_46 : decode cX3_depth 46 = .ok (.ireturn, 1) := by decide +kernel
theorem dX3_letters_0 : decode cX3_letters 0 = .ok (.iconst 0, 1) := by decide +kernel
theorem dX3_letters_1 : decode cX3_letters 1 = .ok (.istore_n 2, 1) := by decide +kernel
theorem dX3_letters_2 : decode cX3_letters 2 = .ok (.aload_n 0, 1) := by decide +kernel
theorem dX3_letters_3 : decode cX3_letters 3 = .ok (.iload_n 1, 1) := by decide +kernel
theorem dX3_letters_4 : decode cX3_letters 4 = .ok (.invokevirtual 109, 3) := by decide +kernel
theorem dX3_letters_7 : decode cX3_letters 7 = .ok (.istore_n 3, 1) := by decide +kernel
theorem dX3_letters_8 : decode cX3_letters 8 = .ok (.iconst 0, 1) := by decide +kernel
theorem dX3_letters_9 : decode cX3_letters 9 = .ok (.istore 4, 2) := by decide +kernel
theorem dX3_letters_11 : decode cX3_letters 11 = .ok (.iload_n 3, 1) := by decide +kernel
theorem dX3_letters_12 : decode cX3_letters 12 = .ok (.ifCond .eq 41, 3) := by decide +kernel
theorem dX3_letters_15 : decode cX3_letters 15 = .ok (.iload 4, 2) := by decide +kernel
theorem dX3_letters_17 : decode cX3_letters 17 = .ok (.aload_n 0, 1) := by decide +kernel
theorem dX3_letters_18 : decode cX3_letters 18 = .ok (.getfield 79, 3) := by decide +kernel
theorem dX3_letters_21 : decode cX3_letters 21 = .ok (.if_icmp .ge 32, 3) := by decide +kernel
theorem dX3_letters_24 : decode cX3_letters 24 = .ok (.iload_n 2, 1) := by decide +kernel
theorem dX3_letters_25 : decode cX3_letters 25 = .ok (.aload_n 0, 1) := by decide +kernel
theorem dX3_letters_26 : decode cX3_letters 26 = .ok (.getfield 7, 3) := by decide +kernel
theorem dX3_letters_29 : decode cX3_letters 29 = .ok (.aload_n 0, 1) := by decide +kernel
theorem dX3_letters_30 : decode cX3_letters 30 = .ok (.getfield 47, 3) := by decide +kernel
theorem dX3_letters_33 : decode cX3_letters 33 = .ok (.iload 4, 2) := by decide +kernel
theorem dX3_letters_35 : decode cX3_letters 35 = .ok (.iaload, 1) := by decide +kernel
theorem dX3_letters_36 : decode cX3_letters 36 = .ok (.baload, 1) := by decide +kernel
theorem dX3_letters_37 : decode cX3_letters 37 = .ok (.ifCond .eq 7, 3) := by decide +kernel
theorem dX3_letters_40 : decode cX3_letters 40 = .ok (.iconst 1, 1) := by decide +kernel
theorem dX3_letters_41 : decode cX3_letters 41 = .ok (.goto 4, 3) := by decide +kernel
theorem dX3_letters_44 : decode cX3_letters 44 = .ok (.iconst 0, 1) := by decide +kernel
theorem dX3_letters_45 : decode cX3_letters 45 = .ok (.iadd, 1) := by decide +kernel
theorem dX3_letters_46 : decode cX3_letters 46 = .ok (.istore_n 2, 1) := by decide +kernel
theorem dX3_letters_47 : decode cX3_letters 47 = .ok (.iinc 4 1, 3) := by decide +kernel
theorem dX3_letters_50 : decode cX3_letters 50 = .ok (.goto (-39), 3) := by decide +kernel
theorem dX3_letters_53 : decode cX3_letters 53 = .ok (.iload_n 2, 1) := by decide +kernel
theorem dX3_letters_54 : decode cX3_letters 54 = .ok (.ireturn, 1) := by decide +kernel
theorem dX3_unread_0 : decode cX3_unread 0 = .ok (.iconst 0, 1) := by decide +kernel
theorem dX3_unread_1 : decode cX3_unread 1 = .ok (.istore_n 2, 1) := by decide +kernel
theorem dX3_unread_2 : decode cX3_unread 2 = .ok (.aload_n 0, 1) := by decide +kernel
theorem dX3_unread_3 : decode cX3_unread 3 = .ok (.iload_n 1, 1) := by decide +kernel
theorem dX3_unread_4 : decode cX3_unread 4 = .ok (.invokevirtual 109, 3) := by decide +kernel
theorem dX3_unread_7 : decode cX3_unread 7 = .ok (.istore_n 3, 1) := by decide +kernel
theorem dX3_unread_8 : decode cX3_unread 8 = .ok (.iconst 0, 1) := by decide +kernel
theorem dX3_unread_9 : decode cX3_unread 9 = .ok (.istore 4, 2) := by decide +kernel
theorem dX3_unread_11 : decode cX3_unread 11 = .ok (.iload_n 3, 1) := by decide +kernel
theorem dX3_unread_12 : decode cX3_unread 12 = .ok (.ifCond .eq 56, 3) := by decide +kernel
theorem dX3_unread_15 : decode cX3_unread 15 = .ok (.iload 4, 2) := by decide +kernel
theorem dX3_unread_17 : decode cX3_unread 17 = .ok (.aload_n 0, 1) := by decide +kernel
theorem dX3_unread_18 : decode cX3_unread 18 = .ok (.getfield 79, 3) := by decide +kernel
theorem dX3_unread_21 : decode cX3_unread 21 = .ok (.if_icmp .ge 47, 3) := by decide +kernel
theorem dX3_unread_24 : decode cX3_unread 24 = .ok (.iload_n 2, 1) := by decide +kernel
theorem dX3_unread_25 : decode cX3_unread 25 = .ok (.aload_n 0, 1) := by decide +kernel
theorem dX3_unread_26 : decode cX3_unread 26 = .ok (.getfield 7, 3) := by decide +kernel
theorem dX3_unread_29 : decode cX3_unread 29 = .ok (.aload_n 0, 1) := by decide +kernel
theorem dX3_unread_30 : decode cX3_unread 30 = .ok (.getfield 47, 3) := by decide +kernel
theorem dX3_unread_33 : decode cX3_unread 33 = .ok (.iload 4, 2) := by decide +kernel
theorem dX3_unread_35 : decode cX3_unread 35 = .ok (.iaload, 1) := by decide +kernel
theorem dX3_unread_36 : decode cX3_unread 36 = .ok (.baload, 1) := by decide +kernel
theorem dX3_unread_37 : decode cX3_unread 37 = .ok (.ifCond .eq 22, 3) := by decide +kernel
theorem dX3_unread_40 : decode cX3_unread 40 = .ok (.aload_n 0, 1) := by decide +kernel
theorem dX3_unread_41 : decode cX3_unread 41 = .ok (.getfield 29, 3) := by decide +kernel
theorem dX3_unread_44 : decode cX3_unread 44 = .ok (.aload_n 0, 1) := by decide +kernel
theorem dX3_unread_45 : decode cX3_unread 45 = .ok (.getfield 47, 3) := by decide +kernel
theorem dX3_unread_48 : decode cX3_unread 48 = .ok (.iload 4, 2) := by decide +kernel
theorem dX3_unread_50 : decode cX3_unread 50 = .ok (.iaload, 1) := by decide +kernel
theorem dX3_unread_51 : decode cX3_unread 51 = .ok (.baload, 1) := by decide +kernel
theorem dX3_unread_52 : decode cX3_unread 52 = .ok (.ifCond .eq 7, 3) := by decide +kernel
theorem dX3_unread_55 : decode cX3_unread 55 = .ok (.iconst 1, 1) := by decide +kernel
theorem dX3_unread_56 : decode cX3_unread 56 = .ok (.goto 4, 3) := by decide +kernel
theorem dX3_unread_59 : decode cX3_unread 59 = .ok (.iconst 0, 1) := by decide +kernel
theorem dX3_unread_60 : decode cX3_unread 60 = .ok (.iadd, 1) := by decide +kernel
theorem dX3_unread_61 : decode cX3_unread 61 = .ok (.istore_n 2, 1) := by decide +kernel
theorem dX3_unread_62 : decode cX3_unread 62 = .ok (.iinc 4 1, 3) := by decide +kernel
theorem dX3_unread_65 : decode cX3_unread 65 = .ok (.goto (-54), 3) := by decide +kernel
theorem dX3_unread_68 : decode cX3_unread 68 = .ok (.iload_n 2, 1) := by decide +kernel
theorem dX3_unread_69 : decode cX3_unread 69 = .ok (.ireturn, 1) := by decide +kernel
theorem dX3_people_0 : decode cX3_people 0 = .ok (.iconst 0, 1) := by decide +kernel
theorem dX3_people_1 : decode cX3_people 1 = .ok (.istore_n 2, 1) := by decide +kernel
theorem dX3_people_2 : decode cX3_people 2 = .ok (.aload_n 0, 1) := by decide +kernel
theorem dX3_people_3 : decode cX3_people 3 = .ok (.iload_n 1, 1) := by decide +kernel
theorem dX3_people_4 : decode cX3_people 4 = .ok (.invokevirtual 109, 3) := by decide +kernel
theorem dX3_people_7 : decode cX3_people 7 = .ok (.istore_n 3, 1) := by decide +kernel
theorem dX3_people_8 : decode cX3_people 8 = .ok (.iconst 0, 1) := by decide +kernel
theorem dX3_people_9 : decode cX3_people 9 = .ok (.istore 4, 2) := by decide +kernel
theorem dX3_people_11 : decode cX3_people 11 = .ok (.iload_n 3, 1) := by decide +kernel
theorem dX3_people_12 : decode cX3_people 12 = .ok (.ifCond .eq 54, 3) := by decide +kernel
theorem dX3_people_15 : decode cX3_people 15 = .ok (.iload 4, 2) := by decide +kernel
theorem dX3_people_17 : decode cX3_people 17 = .ok (.aload_n 0, 1) := by decide +kernel
theorem dX3_people_18 : decode cX3_people 18 = .ok (.getfield 79, 3) := by decide +kernel
theorem dX3_people_21 : decode cX3_people 21 = .ok (.if_icmp .ge 45, 3) := by decide +kernel
theorem dX3_people_24 : decode cX3_people 24 = .ok (.iload_n 2, 1) := by decide +kernel
theorem dX3_people_25 : decode cX3_people 25 = .ok (.aload_n 0, 1) := by decide +kernel
theorem dX3_people_26 : decode cX3_people 26 = .ok (.getfield 7, 3) := by decide +kernel
theorem dX3_people_29 : decode cX3_people 29 = .ok (.aload_n 0, 1) := by decide +kernel
theorem dX3_people_30 : decode cX3_people 30 = .ok (.getfield 47, 3) := by decide +kernel
theorem dX3_people_33 : decode cX3_people 33 = .ok (.iload 4, 2) := by decide +kernel
theorem dX3_people_35 : decode cX3_people 35 = .ok (.iaload, 1) := by decide +kernel
theorem dX3_people_36 : decode cX3_people 36 = .ok (.baload, 1) := by decide +kernel
theorem dX3_people_37 : decode cX3_people 37 = .ok (.ifCond .eq 20, 3) := by decide +kernel
theorem dX3_people_40 : decode cX3_people 40 = .ok (.iconst 1, 1) := by decide +kernel
theorem dX3_people_41 : decode cX3_people 41 = .ok (.aload_n 0, 1) := by decide +kernel
theorem dX3_people_42 : decode cX3_people 42 = .ok (.getfield 26, 3) := by decide +kernel
theorem dX3_people_45 : decode cX3_people 45 = .ok (.aload_n 0, 1) := by decide +kernel
theorem dX3_people_46 : decode cX3_people 46 = .ok (.getfield 47, 3) := by decide +kernel
theorem dX3_people_49 : decode cX3_people 49 = .ok (.iload 4, 2) := by decide +kernel
theorem dX3_people_51 : decode cX3_people 51 = .ok (.iaload, 1) := by decide +kernel
theorem dX3_people_52 : decode cX3_people 52 = .ok (.iaload, 1) := by decide +kernel
theorem dX3_people_53 : decode cX3_people 53 = .ok (.ishl, 1) := by decide +kernel
theorem dX3_people_54 : decode cX3_people 54 = .ok (.goto 4, 3) := by decide +kernel
theorem dX3_people_57 : decode cX3_people 57 = .ok (.iconst 0, 1) := by decide +kernel
theorem dX3_people_58 : decode cX3_people 58 = .ok (.ior, 1) := by decide +kernel
theorem dX3_people_59 : decode cX3_people 59 = .ok (.istore_n 2, 1) := by decide +kernel
theorem dX3_people_60 : decode cX3_people 60 = .ok (.iinc 4 1, 3) := by decide +kernel
theorem dX3_people_63 : decode cX3_people 63 = .ok (.goto (-52), 3) := by decide +kernel
theorem dX3_people_66 : decode cX3_people 66 = .ok (.iload_n 2, 1) := by decide +kernel
theorem dX3_people_67 : decode cX3_people 67 = .ok (.ireturn, 1) := by decide +kernel
theorem dX3_latest_0 : decode cX3_latest 0 = .ok (.iconst 0, 1) := by decide +kernel
theorem dX3_latest_1 : decode cX3_latest 1 = .ok (.istore_n 2, 1) := by decide +kernel
theorem dX3_latest_2 : decode cX3_latest 2 = .ok (.aload_n 0, 1) := by decide +kernel
theorem dX3_latest_3 : decode cX3_latest 3 = .ok (.iload_n 1, 1) := by decide +kernel
theorem dX3_latest_4 : decode cX3_latest 4 = .ok (.invokevirtual 109, 3) := by decide +kernel
theorem dX3_latest_7 : decode cX3_latest 7 = .ok (.istore_n 3, 1) := by decide +kernel
theorem dX3_latest_8 : decode cX3_latest 8 = .ok (.iconst 0, 1) := by decide +kernel
theorem dX3_latest_9 : decode cX3_latest 9 = .ok (.istore 4, 2) := by decide +kernel
theorem dX3_latest_11 : decode cX3_latest 11 = .ok (.iload_n 3, 1) := by decide +kernel
theorem dX3_latest_12 : decode cX3_latest 12 = .ok (.ifCond .eq 66, 3) := by decide +kernel
theorem dX3_latest_15 : decode cX3_latest 15 = .ok (.iload 4, 2) := by decide +kernel
theorem dX3_latest_17 : decode cX3_latest 17 = .ok (.aload_n 0, 1) := by decide +kernel
theorem dX3_latest_18 : decode cX3_latest 18 = .ok (.getfield 79, 3) := by decide +kernel
theorem dX3_latest_21 : decode cX3_latest 21 = .ok (.if_icmp .ge 57, 3) := by decide +kernel
theorem dX3_latest_24 : decode cX3_latest 24 = .ok (.aload_n 0, 1) := by decide +kernel
theorem dX3_latest_25 : decode cX3_latest 25 = .ok (.getfield 7, 3) := by decide +kernel
theorem dX3_latest_28 : decode cX3_latest 28 = .ok (.aload_n 0, 1) := by decide +kernel
theorem dX3_latest_29 : decode cX3_latest 29 = .ok (.getfield 47, 3) := by decide +kernel
theorem dX3_latest_32 : decode cX3_latest 32 = .ok (.iload 4, 2) := by decide +kernel
theorem dX3_latest_34 : decode cX3_latest 34 = .ok (.iaload, 1) := by decide +kernel
theorem dX3_latest_35 : decode cX3_latest 35 = .ok (.baload, 1) := by decide +kernel
theorem dX3_latest_36 : decode cX3_latest 36 = .ok (.ifCond .eq 34, 3) := by decide +kernel
theorem dX3_latest_39 : decode cX3_latest 39 = .ok (.aload_n 0, 1) := by decide +kernel
theorem dX3_latest_40 : decode cX3_latest 40 = .ok (.getfield 23, 3) := by decide +kernel
theorem dX3_latest_43 : decode cX3_latest 43 = .ok (.aload_n 0, 1) := by decide +kernel
theorem dX3_latest_44 : decode cX3_latest 44 = .ok (.getfield 47, 3) := by decide +kernel
theorem dX3_latest_47 : decode cX3_latest 47 = .ok (.iload 4, 2) := by decide +kernel
theorem dX3_latest_49 : decode cX3_latest 49 = .ok (.iaload, 1) := by decide +kernel
theorem dX3_latest_50 : decode cX3_latest 50 = .ok (.iaload, 1) := by decide +kernel
theorem dX3_latest_51 : decode cX3_latest 51 = .ok (.iload_n 2, 1) := by decide +kernel
theorem dX3_latest_52 : decode cX3_latest 52 = .ok (.if_icmp .le 18, 3) := by decide +kernel
theorem dX3_latest_55 : decode cX3_latest 55 = .ok (.aload_n 0, 1) := by decide +kernel
theorem dX3_latest_56 : decode cX3_latest 56 = .ok (.getfield 23, 3) := by decide +kernel
theorem dX3_latest_59 : decode cX3_latest 59 = .ok (.aload_n 0, 1) := by decide +kernel
theorem dX3_latest_60 : decode cX3_latest 60 = .ok (.getfield 47, 3) := by decide +kernel
theorem dX3_latest_63 : decode cX3_latest 63 = .ok (.iload 4, 2) := by decide +kernel
theorem dX3_latest_65 : decode cX3_latest 65 = .ok (.iaload, 1) := by decide +kernel
theorem dX3_latest_66 : decode cX3_latest 66 = .ok (.iaload, 1) := by decide +kernel
theorem dX3_latest_67 : decode cX3_latest 67 = .ok (.goto 4, 3) := by decide +kernel
theorem dX3_latest_70 : decode cX3_latest 70 = .ok (.iload_n 2, 1) := by decide +kernel
theorem dX3_latest_71 : decode cX3_latest 71 = .ok (.istore_n 2, 1) := by decide +kernel
theorem dX3_latest_72 : decode cX3_latest 72 = .ok (.iinc 4 1, 3) := by decide +kernel
theorem dX3_latest_75 : decode cX3_latest 75 = .ok (.goto (-64), 3) := by decide +kernel
theorem dX3_latest_78 : decode cX3_latest 78 = .ok (.iload_n 2, 1) := by decide +kernel
theorem dX3_latest_79 : decode cX3_latest 79 = .ok (.ireturn, 1) := by decide +kernel
