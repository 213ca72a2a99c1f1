theorem dX0_init_0 : decode cX0_init 0 = .ok (.aload_n 0, 1) := by decide +kernel
theorem dX0_init_1 : decode cX0_init 1 = .ok (.invokespecial 3, 3) := by decide +kernel
theorem dX0_init_4 : decode cX0_init 4 = .ok (.aload_n 0, 1) := by decide +kernel
theorem dX0_init_5 : decode cX0_init 5 = .ok (.bipush 30, 2) := by decide +kernel
theorem dX0_init_7 : decode cX0_init 7 = .ok (.newarray .boolean, 2) := by decide +kernel
theorem dX0_init_9 : decode cX0_init 9 = .ok (.putfield 9, 3) := by decide +kernel
theorem dX0_init_12 : decode cX0_init 12 = .ok (.aload_n 0, 1) := by decide +kernel
theorem dX0_init_13 : decode cX0_init 13 = .ok (.bipush 30, 2) := by decide +kernel
theorem dX0_init_15 : decode cX0_init 15 = .ok (.newarray .int, 2) := by decide +kernel
theorem dX0_init_17 : decode cX0_init 17 = .ok (.putfield 15, 3) := by decide +kernel
theorem dX0_init_20 : decode cX0_init 20 = .ok (.aload_n 0, 1) := by decide +kernel
theorem dX0_init_21 : decode cX0_init 21 = .ok (.bipush 30, 2) := by decide +kernel
theorem dX0_init_23 : decode cX0_init 23 = .ok (.newarray .int, 2) := by decide +kernel
theorem dX0_init_25 : decode cX0_init 25 = .ok (.putfield 19, 3) := by decide +kernel
theorem dX0_init_28 : decode cX0_init 28 = .ok (.aload_n 0, 1) := by decide +kernel
theorem dX0_init_29 : decode cX0_init 29 = .ok (.bipush 30, 2) := by decide +kernel
theorem dX0_init_31 : decode cX0_init 31 = .ok (.newarray .boolean, 2) := by decide +kernel
theorem dX0_init_33 : decode cX0_init 33 = .ok (.putfield 22, 3) := by decide +kernel
theorem dX0_init_36 : decode cX0_init 36 = .ok (.aload_n 0, 1) := by decide +kernel
theorem dX0_init_37 : decode cX0_init 37 = .ok (.bipush 30, 2) := by decide +kernel
theorem dX0_init_39 : decode cX0_init 39 = .ok (.newarray .int, 2) := by decide +kernel
theorem dX0_init_41 : decode cX0_init 41 = .ok (.putfield 25, 3) := by decide +kernel
theorem dX0_init_44 : decode cX0_init 44 = .ok (.aload_n 0, 1) := by decide +kernel
theorem dX0_init_45 : decode cX0_init 45 = .ok (.bipush 30, 2) := by decide +kernel
theorem dX0_init_47 : decode cX0_init 47 = .ok (.newarray .int, 2) := by decide +kernel
theorem dX0_init_49 : decode cX0_init 49 = .ok (.putfield 28, 3) := by decide +kernel
theorem dX0_init_52 : decode cX0_init 52 = .ok (.aload_n 0, 1) := by decide +kernel
theorem dX0_init_53 : decode cX0_init 53 = .ok (.bipush 30, 2) := by decide +kernel
theorem dX0_init_55 : decode cX0_init 55 = .ok (.newarray .int, 2) := by decide +kernel
theorem dX0_init_57 : decode cX0_init 57 = .ok (.putfield 31, 3) := by decide +kernel
theorem dX0_init_60 : decode cX0_init 60 = .ok (.aload_n 0, 1) := by decide +kernel
theorem dX0_init_61 : decode cX0_init 61 = .ok (.bipush 30, 2) := by decide +kernel
theorem dX0_init_63 : decode cX0_init 63 = .ok (.newarray .int, 2) := by decide +kernel
theorem dX0_init_65 : decode cX0_init 65 = .ok (.putfield 34, 3) := by decide +kernel
theorem dX0_init_68 : decode cX0_init 68 = .ok (.aload_n 0, 1) := by decide +kernel
theorem dX0_init_69 : decode cX0_init 69 = .ok (.bipush 30, 2) := by decide +kernel
theorem dX0_init_71 : decode cX0_init 71 = .ok (.newarray .int, 2) := by decide +kernel
theorem dX0_init_73 : decode cX0_init 73 = .ok (.putfield 37, 3) := by decide +kernel
theorem dX0_init_76 : decode cX0_init 76 = .ok (.aload_n 0, 1) := by decide +kernel
theorem dX0_init_77 : decode cX0_init 77 = .ok (.bipush 30, 2) := by decide +kernel
theorem dX0_init_79 : decode cX0_init 79 = .ok (.newarray .int, 2) := by decide +kernel
theorem dX0_init_81 : decode cX0_init 81 = .ok (.putfield 40, 3) := by decide +kernel
theorem dX0_init_84 : decode cX0_init 84 = .ok (.aload_n 0, 1) := by decide +kernel
theorem dX0_init_85 : decode cX0_init 85 = .ok (.bipush 30, 2) := by decide +kernel
theorem dX0_init_87 : decode cX0_init 87 = .ok (.newarray .int, 2) := by decide +kernel
theorem dX0_init_89 : decode cX0_init 89 = .ok (.putfield 43, 3) := by decide +kernel
theorem dX0_init_92 : decode cX0_init 92 = .ok (.aload_n 0, 1) := by decide +kernel
theorem dX0_init_93 : decode cX0_init 93 = .ok (.aload_n 1, 1) := by decide +kernel
theorem dX0_init_94 : decode cX0_init 94 = .ok (.putfield 46, 3) := by decide +kernel
theorem dX0_init_97 : decode cX0_init 97 = .ok (.return_, 1) := by decide +kernel
theorem dX0_knows_0 : decode cX0_knows 0 = .ok (.iload_n 1, 1) := by decide +kernel
theorem dX0_knows_1 : decode cX0_knows 1 = .ok (.invokestatic 50, 3) := by decide +kernel
theorem dX0_knows_4 : decode cX0_knows 4 = .ok (.ifCond .eq 16, 3) := by decide +kernel
theorem dX0_knows_7 : decode cX0_knows 7 = .ok (.aload_n 0, 1) := by decide +kernel
theorem dX0_knows_8 : decode cX0_knows 8 = .ok (.getfield 9, 3) := by decide +kernel
theorem dX0_knows_11 : decode cX0_knows 11 = .ok (.iload_n 1, 1) := by decide +kernel
theorem dX0_knows_12 : decode cX0_knows 12 = .ok (.baload, 1) := by decide +kernel
theorem dX0_knows_13 : decode cX0_knows 13 = .ok (.ifCond .eq 7, 3) := by decide +kernel
theorem dX0_knows_16 : decode cX0_knows 16 = .ok (.iconst 1, 1) := by decide +kernel
theorem dX0_knows_17 : decode cX0_knows 17 = .ok (.goto 4, 3) := by decide +kernel
theorem dX0_knows_20 : decode cX0_knows 20 = .ok (.iconst 0, 1) := by decide +kernel
theorem dX0_knows_21 : decode cX0_knows 21 = .ok (.ireturn, 1) := by decide +kernel
theorem dX0_contains_0 : decode cX0_contains 0 = .ok (.iload_n 1, 1) := by decide +kernel
theorem dX0_contains_1 : decode cX0_contains 1 = .ok (.invokestatic 50, 3) := by decide +kernel
theorem dX0_contains_4 : decode cX0_contains 4 = .ok (.ifCond .eq 16, 3) := by decide +kernel
theorem dX0_contains_7 : decode cX0_contains 7 = .ok (.aload_n 0, 1) := by decide +kernel
theorem dX0_contains_8 : decode cX0_contains 8 = .ok (.getfield 22, 3) := by decide +kernel
theorem dX0_contains_11 : decode cX0_contains 11 = .ok (.iload_n 1, 1) := by decide +kernel
theorem dX0_contains_12 : decode cX0_contains 12 = .ok (.baload, 1) := by decide +kernel
theorem dX0_contains_13 : decode cX0_contains 13 = .ok (.ifCond .eq 7, 3) := by decide +kernel
theorem dX0_contains_16 : decode cX0_contains 16 = .ok (.iconst 1, 1) := by decide +kernel
theorem dX0_contains_17 : decode cX0_contains 17 = .ok (.goto 4, 3) := by decide +kernel
theorem dX0_contains_20 : decode cX0_contains 20 = .ok (.iconst 0, 1) := by decide +kernel
theorem dX0_contains_21 : decode cX0_contains 21 = .ok (.ireturn, 1) := by decide +kernel
theorem dX0_parentIn_0 : decode cX0_parentIn 0 = .ok (.aload_n 0, 1) := by decide +kernel
theorem dX0_parentIn_1 : decode cX0_parentIn 1 = .ok (.iload_n 1, 1) := by decide +kernel
theorem dX0_parentIn_2 : decode cX0_parentIn 2 = .ok (.invokevirtual 54, 3) := by decide +kernel
theorem dX0_parentIn_5 : decode cX0_parentIn 5 = .ok (.ifCond .eq 12, 3) := by decide +kernel
theorem dX0_parentIn_8 : decode cX0_parentIn 8 = .ok (.aload_n 0, 1) := by decide +kernel
theorem dX0_parentIn_9 : decode cX0_parentIn 9 = .ok (.getfield 19, 3) := by decide +kernel
theorem dX0_parentIn_12 : decode cX0_parentIn 12 = .ok (.iload_n 1, 1) := by decide +kernel
theorem dX0_parentIn_13 : decode cX0_parentIn 13 = .ok (.iaload, 1) := by decide +kernel
theorem dX0_parentIn_14 : decode cX0_parentIn 14 = .ok (.goto 4, 3) := by decide +kernel
theorem dX0_parentIn_17 : decode cX0_parentIn 17 = .ok (.iconst (-1), 1) := by decide +kernel
theorem dX0_parentIn_18 : decode cX0_parentIn 18 = .ok (.ireturn, 1) := by decide +kernel
theorem dX0_countRoots_0 : decode cX0_countRoots 0 = .ok (.aload_n 0, 1) := by decide +kernel
theorem dX0_countRoots_1 : decode cX0_countRoots 1 = .ok (.getfield 57, 3) := by decide +kernel
theorem dX0_countRoots_4 : decode cX0_countRoots 4 = .ok (.ireturn, 1) := by decide +kernel
theorem dX0_rootIdAt_0 : decode cX0_rootIdAt 0 = .ok (.iload_n 1, 1) := by decide +kernel
theorem dX0_rootIdAt_1 : decode cX0_rootIdAt 1 = .ok (.invokestatic 50, 3) := by decide +kernel
theorem dX0_rootIdAt_4 : decode cX0_rootIdAt 4 = .ok (.ifCond .eq 20, 3) := by decide +kernel
theorem dX0_rootIdAt_7 : decode cX0_rootIdAt 7 = .ok (.iload_n 1, 1) := by decide +kernel
theorem dX0_rootIdAt_8 : decode cX0_rootIdAt 8 = .ok (.aload_n 0, 1) := by decide +kernel
theorem dX0_rootIdAt_9 : decode cX0_rootIdAt 9 = .ok (.getfield 57, 3) := by decide +kernel
theorem dX0_rootIdAt_12 : decode cX0_rootIdAt 12 = .ok (.if_icmp .ge 12, 3) := by decide +kernel
theorem dX0_rootIdAt_15 : decode cX0_rootIdAt 15 = .ok (.aload_n 0, 1) := by decide +kernel
theorem dX0_rootIdAt_16 : decode cX0_rootIdAt 16 = .ok (.getfield 43, 3) := by decide +kernel
theorem dX0_rootIdAt_19 : decode cX0_rootIdAt 19 = .ok (.iload_n 1, 1) := by decide +kernel
theorem dX0_rootIdAt_20 : decode cX0_rootIdAt 20 = .ok (.iaload, 1) := by decide +kernel
theorem dX0_rootIdAt_21 : decode cX0_rootIdAt 21 = .ok (.goto 4, 3) := by decide +kernel
theorem dX0_rootIdAt_24 : decode cX0_rootIdAt 24 = .ok (.iconst (-1), 1) := by decide +kernel
theorem dX0_rootIdAt_25 : decode cX0_rootIdAt 25 = .ok (.ireturn, 1) := by decide +kernel
theorem dX0_countChildren_0 : decode cX0_countChildren 0 = .ok (.iconst 0, 1) := by decide +kernel
theorem dX0_countChildren_1 : decode cX0_countChildren 1 = .ok (.istore_n 2, 1) := by decide +kernel
theorem dX0_countChildren_2 : decode cX0_countChildren 2 = .ok (.iconst 0, 1) := by decide +kernel
theorem dX0_countChildren_3 : decode cX0_countChildren 3 = .ok (.istore_n 3, 1) := by decide +kernel
theorem dX0_countChildren_4 : decode cX0_countChildren 4 = .ok (.iload_n 3, 1) := by decide +kernel
theorem dX0_countChildren_5 : decode cX0_countChildren 5 = .ok (.bipush 30, 2) := by decide +kernel
theorem dX0_countChildren_7 : decode cX0_countChildren 7 = .ok (.if_icmp .ge 22, 3) := by decide +kernel
theorem dX0_countChildren_10 : decode cX0_countChildren 10 = .ok (.aload_n 0, 1) := by decide +kernel
theorem dX0_countChildren_11 : decode cX0_countChildren 11 = .ok (.getfield 19, 3) := by decide +kernel
theorem dX0_countChildren_14 : decode cX0_countChildren 14 = .ok (.iload_n 3, 1) := by decide +kernel
theorem dX0_countChildren_15 : decode cX0_countChildren 15 = .ok (.iaload, 1) := by decide +kernel
theorem dX0_countChildren_16 : decode cX0_countChildren 16 = .ok (.iload_n 1, 1) := by decide +kernel
theorem dX0_countChildren_17 : decode cX0_countChildren 17 = .ok (.if_icmp .ne 6, 3) := by decide +kernel
theorem dX0_countChildren_20 : decode cX0_countChildren 20 = .ok (.iinc 2 1, 3) := by decide +kernel
theorem dX0_countChildren_23 : decode cX0_countChildren 23 = .ok (.iinc 3 1, 3) := by decide +kernel
theorem dX0_countChildren_26 : decode cX0_countChildren 26 = .ok (.goto (-22), 3) := by decide +kernel
theorem dX0_countChildren_29 : decode cX0_countChildren 29 = .ok (.iload_n 2, 1) := by decide +kernel
theorem dX0_countChildren_30 : decode cX0_countChildren 30 = .ok (.ireturn, 1) := by decide +kernel
theorem dX0_idAt_0 : decode cX0_idAt 0 = .ok (.aload_n 0, 1) := by decide +kernel
theorem dX0_idAt_1 : decode cX0_idAt 1 = .ok (.iload_n 1, 1) := by decide +kernel
theorem dX0_idAt_2 : decode cX0_idAt 2 = .ok (.invokevirtual 54, 3) := by decide +kernel
theorem dX0_idAt_5 : decode cX0_idAt 5 = .ok (.ifCond .eq 17, 3) := by decide +kernel
theorem dX0_idAt_8 : decode cX0_idAt 8 = .ok (.iload_n 2, 1) := by decide +kernel
theorem dX0_idAt_9 : decode cX0_idAt 9 = .ok (.ifCond .lt 13, 3) := by decide +kernel
theorem dX0_idAt_12 : decode cX0_idAt 12 = .ok (.iload_n 2, 1) := by decide +kernel
theorem dX0_idAt_13 : decode cX0_idAt 13 = .ok (.aload_n 0, 1) := by decide +kernel
theorem dX0_idAt_14 : decode cX0_idAt 14 = .ok (.getfield 31, 3) := by decide +kernel
theorem dX0_idAt_17 : decode cX0_idAt 17 = .ok (.iload_n 1, 1) := by decide +kernel
theorem dX0_idAt_18 : decode cX0_idAt 18 = .ok (.iaload, 1) := by decide +kernel
theorem dX0_idAt_19 : decode cX0_idAt 19 = .ok (.if_icmp .lt 5, 3) := by decide +kernel
theorem dX0_idAt_22 : decode cX0_idAt 22 = .ok (.iconst (-1), 1) := by decide +kernel
theorem dX0_idAt_23 : decode cX0_idAt 23 = .ok (.ireturn, 1) := by decide +kernel
theorem dX0_idAt_24 : decode cX0_idAt 24 = .ok (.aload_n 0, 1) := by decide +kernel
theorem dX0_idAt_25 : decode cX0_idAt 25 = .ok (.getfield 37, 3) := by decide +kernel
theorem dX0_idAt_28 : decode cX0_idAt 28 = .ok (.iload_n 1, 1) := by decide +kernel
theorem dX0_idAt_29 : decode cX0_idAt 29 = .ok (.iaload, 1) := by decide +kernel
theorem dX0_idAt_30 : decode cX0_idAt 30 = .ok (.iload_n 2, 1) := by decide +kernel
theorem dX0_idAt_31 : decode cX0_idAt 31 = .ok (.iadd, 1) := by decide +kernel
theorem dX0_idAt_32 : decode cX0_idAt 32 = .ok (.istore_n 3, 1) := by decide +kernel
theorem dX0_idAt_33 : decode cX0_idAt 33 = .ok (.iload_n 3, 1) := by decide +kernel
theorem dX0_idAt_34 : decode cX0_idAt 34 = .ok (.invokestatic 50, 3) := by decide +kernel
theorem dX0_idAt_37 : decode cX0_idAt 37 = .ok (.ifCond .eq 12, 3) := by decide +kernel
theorem dX0_idAt_40 : decode cX0_idAt 40 = .ok (.aload_n 0, 1) := by decide +kernel
theorem dX0_idAt_41 : decode cX0_idAt 41 = .ok (.getfield 40, 3) := by decide +kernel
theorem dX0_idAt_44 : decode cX0_idAt 44 = .ok (.iload_n 3, 1) := by decide +kernel
theorem dX0_idAt_45 : decode cX0_idAt 45 = .ok (.iaload, 1) := by decide +kernel
theorem dX0_idAt_46 : decode cX0_idAt 46 = .ok (.goto 4, 3) := by decide +kernel
theorem dX0_idAt_49 : decode cX0_idAt 49 = .ok (.iconst (-1), 1) := by decide +kernel
theorem dX0_idAt_50 : decode cX0_idAt 50 = .ok (.ireturn, 1) := by decide +kernel
theorem dX0_isInTree_0 : decode cX0_isInTree 0 = .ok (.iload_n 1, 1) := by decide +kernel
theorem dX0_isInTree_1 : decode cX0_isInTree 1 = .ok (.istore_n 3, 1) := by decide +kernel
theorem dX0_isInTree_2 : decode cX0_isInTree 2 = .ok (.iconst 0, 1) := by decide +kernel
theorem dX0_isInTree_3 : decode cX0_isInTree 3 = .ok (.istore 4, 2) := by decide +kernel
theorem dX0_isInTree_5 : decode cX0_isInTree 5 = .ok (.iload_n 3, 1) := by decide +kernel
theorem dX0_isInTree_6 : decode cX0_isInTree 6 = .ok (.invokestatic 50, 3) := by decide +kernel
theorem dX0_isInTree_9 : decode cX0_isInTree 9 = .ok (.ifCond .eq 29, 3) := by decide +kernel
theorem dX0_isInTree_12 : decode cX0_isInTree 12 = .ok (.iload 4, 2) := by decide +kernel
theorem dX0_isInTree_14 : decode cX0_isInTree 14 = .ok (.bipush 30, 2) := by decide +kernel
theorem dX0_isInTree_16 : decode cX0_isInTree 16 = .ok (.if_icmp .ge 22, 3) := by decide +kernel
theorem dX0_isInTree_19 : decode cX0_isInTree 19 = .ok (.iload_n 3, 1) := by decide +kernel
theorem dX0_isInTree_20 : decode cX0_isInTree 20 = .ok (.iload_n 2, 1) := by decide +kernel
theorem dX0_isInTree_21 : decode cX0_isInTree 21 = .ok (.if_icmp .ne 5, 3) := by decide +kernel
theorem dX0_isInTree_24 : decode cX0_isInTree 24 = .ok (.iconst 1, 1) := by decide +kernel
theorem dX0_isInTree_25 : decode cX0_isInTree 25 = .ok (.ireturn, 1) := by decide +kernel
theorem dX0_isInTree_26 : decode cX0_isInTree 26 = .ok (.aload_n 0, 1) := by decide +kernel
theorem dX0_isInTree_27 : decode cX0_isInTree 27 = .ok (.iload_n 3, 1) := by decide +kernel
theorem dX0_isInTree_28 : decode cX0_isInTree 28 = .ok (.invokevirtual 61, 3) := by decide +kernel
theorem dX0_isInTree_31 : decode cX0_isInTree 31 = .ok (.istore_n 3, 1) := by decide +kernel
theorem dX0_isInTree_32 : decode cX0_isInTree 32 = .ok (.iinc 4 1, 3) := by decide +kernel
theorem dX0_isInTree_35 : decode cX0_isInTree 35 = .ok (.goto (-30), 3) := by decide +kernel
theorem dX0_isInTree_38 : decode cX0_isInTree 38 = .ok (.iconst 0, 1) := by decide +kernel
theorem dX0_isInTree_39 : decode cX0_isInTree 39 = .ok (.ireturn, 1) := by decide +kernel
theorem dX0_grow_0 : decode cX0_grow 0 = .ok (.aload_n 0, 1) := by decide +kernel
theorem dX0_grow_1 : decode cX0_grow 1 = .ok (.invokevirtual 65, 3) := by decide +kernel
theorem dX0_grow_4 : decode cX0_grow 4 = .ok (.aload_n 0, 1) := by decide +kernel
theorem dX0_grow_5 : decode cX0_grow 5 = .ok (.invokevirtual 68, 3) := by decide +kernel
theorem dX0_grow_8 : decode cX0_grow 8 = .ok (.aload_n 0, 1) := by decide +kernel
theorem dX0_grow_9 : decode cX0_grow 9 = .ok (.invokevirtual 71, 3) := by decide +kernel
theorem dX0_grow_12 : decode cX0_grow 12 = .ok (.aload_n 0, 1) := by decide +kernel
theorem dX0_grow_13 : decode cX0_grow 13 = .ok (.invokevirtual 74, 3) := by decide +kernel
theorem dX0_grow_16 : decode cX0_grow 16 = .ok (.aload_n 0, 1) := by decide +kernel
theorem dX0_grow_17 : decode cX0_grow 17 = .ok (.invokevirtual 77, 3) := by decide +kernel
theorem dX0_grow_20 : decode cX0_grow 20 = .ok (.aload_n 0, 1) := by decide +kernel
theorem dX0_grow_21 : decode cX0_grow 21 = .ok (.invokevirtual 80, 3) := by decide +kernel
theorem dX0_grow_24 : decode cX0_grow 24 = .ok (.aload_n 0, 1) := by decide +kernel
theorem dX0_grow_25 : decode cX0_grow 25 = .ok (.invokevirtual 83, 3) := by decide +kernel
theorem dX0_grow_28 : decode cX0_grow 28 = .ok (.aload_n 0, 1) := by decide +kernel
theorem dX0_grow_29 : decode cX0_grow 29 = .ok (.invokevirtual 86, 3) := by decide +kernel
theorem dX0_grow_32 : decode cX0_grow 32 = .ok (.return_, 1) := by decide +kernel
theorem dX0_findKnown_0 : decode cX0_findKnown 0 = .ok (.iconst 0, 1) := by decide +kernel
theorem dX0_findKnown_1 : decode cX0_findKnown 1 = .ok (.istore_n 1, 1) := by decide +kernel
theorem dX0_findKnown_2 : decode cX0_findKnown 2 = .ok (.iload_n 1, 1) := by decide +kernel
theorem dX0_findKnown_3 : decode cX0_findKnown 3 = .ok (.bipush 30, 2) := by decide +kernel
theorem dX0_findKnown_5 : decode cX0_findKnown 5 = .ok (.if_icmp .ge 23, 3) := by decide +kernel
theorem dX0_findKnown_8 : decode cX0_findKnown 8 = .ok (.aload_n 0, 1) := by decide +kernel
theorem dX0_findKnown_9 : decode cX0_findKnown 9 = .ok (.getfield 9, 3) := by decide +kernel
theorem dX0_findKnown_12 : decode cX0_findKnown 12 = .ok (.iload_n 1, 1) := by decide +kernel
theorem dX0_findKnown_13 : decode cX0_findKnown 13 = .ok (.aload_n 0, 1) := by decide +kernel
theorem dX0_findKnown_14 : decode cX0_findKnown 14 = .ok (.getfield 46, 3) := by decide +kernel
theorem dX0_findKnown_17 : decode cX0_findKnown 17 = .ok (.iload_n 1, 1) := by decide +kernel
theorem dX0_findKnown_18 : decode cX0_findKnown 18 = .ok (.invokevirtual 89, 3) := by decide +kernel
theorem dX0_findKnown_21 : decode cX0_findKnown 21 = .ok (.bastore, 1) := by decide +kernel
theorem dX0_findKnown_22 : decode cX0_findKnown 22 = .ok (.iinc 1 1, 3) := by decide +kernel
theorem dX0_findKnown_25 : decode cX0_findKnown 25 = .ok (.goto (-23), 3) := by decide +kernel
theorem dX0_findKnown_28 : decode cX0_findKnown 28 = .ok (.iconst 0, 1) := by decide +kernel
theorem dX0_findKnown_29 : decode cX0_findKnown 29 = .ok (.istore_n 1, 1) := by decide +kernel
theorem dX0_findKnown_30 : decode cX0_findKnown 30 = .ok (.iload_n 1, 1) := by decide +kernel
theorem dX0_findKnown_31 : decode cX0_findKnown 31 = .ok (.bipush 30, 2) := by decide +kernel
theorem dX0_findKnown_33 : decode cX0_findKnown 33 = .ok (.if_icmp .ge 45, 3) := by decide +kernel
theorem dX0_findKnown_36 : decode cX0_findKnown 36 = .ok (.aload_n 0, 1) := by decide +kernel
theorem dX0_findKnown_37 : decode cX0_findKnown 37 = .ok (.aload_n 0, 1) := by decide +kernel
theorem dX0_findKnown_38 : decode cX0_findKnown 38 = .ok (.getfield 46, 3) := by decide +kernel
theorem dX0_findKnown_41 : decode cX0_findKnown 41 = .ok (.iload_n 1, 1) := by decide +kernel
theorem dX0_findKnown_42 : decode cX0_findKnown 42 = .ok (.invokevirtual 94, 3) := by decide +kernel
theorem dX0_findKnown_45 : decode cX0_findKnown 45 = .ok (.invokevirtual 97, 3) := by decide +kernel
theorem dX0_findKnown_48 : decode cX0_findKnown 48 = .ok (.aload_n 0, 1) := by decide +kernel
theorem dX0_findKnown_49 : decode cX0_findKnown 49 = .ok (.aload_n 0, 1) := by decide +kernel
theorem dX0_findKnown_50 : decode cX0_findKnown 50 = .ok (.getfield 46, 3) := by decide +kernel
theorem dX0_findKnown_53 : decode cX0_findKnown 53 = .ok (.iload_n 1, 1) := by decide +kernel
theorem dX0_findKnown_54 : decode cX0_findKnown 54 = .ok (.invokevirtual 101, 3) := by decide +kernel
theorem dX0_findKnown_57 : decode cX0_findKnown 57 = .ok (.invokevirtual 97, 3) := by decide +kernel
theorem dX0_findKnown_60 : decode cX0_findKnown 60 = .ok (.aload_n 0, 1) := by decide +kernel
theorem dX0_findKnown_61 : decode cX0_findKnown 61 = .ok (.aload_n 0, 1) := by decide +kernel
theorem dX0_findKnown_62 : decode cX0_findKnown 62 = .ok (.getfield 46, 3) := by decide +kernel
theorem dX0_findKnown_65 : decode cX0_findKnown 65 = .ok (.iload_n 1, 1) := by decide +kernel
theorem dX0_findKnown_66 : decode cX0_findKnown 66 = .ok (.invokevirtual 104, 3) := by decide +kernel
theorem dX0_findKnown_69 : decode cX0_findKnown 69 = .ok (.invokevirtual 97, 3) := by decide +kernel
theorem dX0_findKnown_72 : decode cX0_findKnown 72 = .ok (.iinc 1 1, 3) := by decide +kernel
theorem dX0_findKnown_75 : decode cX0_findKnown 75 = .ok (.goto (-45), 3) := by decide +kernel
theorem dX0_findKnown_78 : decode cX0_findKnown 78 = .ok (.return_, 1) := by decide +kernel
theorem dX0_learn_0 : decode cX0_learn 0 = .ok (.iload_n 1, 1) := by decide +kernel
theorem dX0_learn_1 : decode cX0_learn 1 = .ok (.invokestatic 50, 3) := by decide +kernel
theorem dX0_learn_4 : decode cX0_learn 4 = .ok (.ifCond .eq 10, 3) := by decide +kernel
theorem dX0_learn_7 : decode cX0_learn 7 = .ok (.aload_n 0, 1) := by decide +kernel
theorem dX0_learn_8 : decode cX0_learn 8 = .ok (.getfield 9, 3) := by decide +kernel
theorem dX0_learn_11 : decode cX0_learn 11 = .ok (.iload_n 1, 1) := by decide +kernel
theorem dX0_learn_12 : decode cX0_learn 12 = .ok (.iconst 1, 1) := by decide +kernel
theorem dX0_learn_13 : decode cX0_learn 13 = .ok (.bastore, 1) := by decide +kernel
theorem dX0_learn_14 : decode cX0_learn 14 = .ok (.return_, 1) := by decide +kernel
theorem dX0_linkKnown_0 : decode cX0_linkKnown 0 = .ok (.iconst 0, 1) := by decide +kernel
theorem dX0_linkKnown_1 : decode cX0_linkKnown 1 = .ok (.istore_n 1, 1) := by decide +kernel
theorem dX0_linkKnown_2 : decode cX0_linkKnown 2 = .ok (.iload_n 1, 1) := by decide +kernel
theorem dX0_linkKnown_3 : decode cX0_linkKnown 3 = .ok (.bipush 30, 2) := by decide +kernel
theorem dX0_linkKnown_5 : decode cX0_linkKnown 5 = .ok (.if_icmp .ge 16, 3) := by decide +kernel
theorem dX0_linkKnown_8 : decode cX0_linkKnown 8 = .ok (.aload_n 0, 1) := by decide +kernel
theorem dX0_linkKnown_9 : decode cX0_linkKnown 9 = .ok (.getfield 15, 3) := by decide +kernel
theorem dX0_linkKnown_12 : decode cX0_linkKnown 12 = .ok (.iload_n 1, 1) := by decide +kernel
theorem dX0_linkKnown_13 : decode cX0_linkKnown 13 = .ok (.iconst (-1), 1) := by decide +kernel
theorem dX0_linkKnown_14 : decode cX0_linkKnown 14 = .ok (.iastore, 1) := by decide +kernel
theorem dX0_linkKnown_15 : decode cX0_linkKnown 15 = .ok (.iinc 1 1, 3) := by decide +kernel
theorem dX0_linkKnown_18 : decode cX0_linkKnown 18 = .ok (.goto (-16), 3) := by decide +kernel
theorem dX0_linkKnown_21 : decode cX0_linkKnown 21 = .ok (.iconst 0, 1) := by decide +kernel
theorem dX0_linkKnown_22 : decode cX0_linkKnown 22 = .ok (.istore_n 1, 1) := by decide +kernel
theorem dX0_linkKnown_23 : decode cX0_linkKnown 23 = .ok (.iload_n 1, 1) := by decide +kernel
theorem dX0_linkKnown_24 : decode cX0_linkKnown 24 = .ok (.bipush 30, 2) := by decide +kernel
theorem dX0_linkKnown_26 : decode cX0_linkKnown 26 = .ok (.if_icmp .ge 47, 3) := by decide +kernel
theorem dX0_linkKnown_29 : decode cX0_linkKnown 29 = .ok (.aload_n 0, 1) := by decide +kernel
theorem dX0_linkKnown_30 : decode cX0_linkKnown 30 = .ok (.getfield 9, 3) := by decide +kernel
theorem dX0_linkKnown_33 : decode cX0_linkKnown 33 = .ok (.iload_n 1, 1) := by decide +kernel
theorem dX0_linkKnown_34 : decode cX0_linkKnown 34 = .ok (.baload, 1) := by decide +kernel
theorem dX0_linkKnown_35 : decode cX0_linkKnown 35 = .ok (.ifCond .eq 32, 3) := by decide +kernel
theorem dX0_linkKnown_38 : decode cX0_linkKnown 38 = .ok (.aload_n 0, 1) := by decide +kernel
theorem dX0_linkKnown_39 : decode cX0_linkKnown 39 = .ok (.getfield 46, 3) := by decide +kernel
theorem dX0_linkKnown_42 : decode cX0_linkKnown 42 = .ok (.iload_n 1, 1) := by decide +kernel
theorem dX0_linkKnown_43 : decode cX0_linkKnown 43 = .ok (.invokevirtual 107, 3) := by decide +kernel
theorem dX0_linkKnown_46 : decode cX0_linkKnown 46 = .ok (.istore_n 2, 1) := by decide +kernel
theorem dX0_linkKnown_47 : decode cX0_linkKnown 47 = .ok (.aload_n 0, 1) := by decide +kernel
theorem dX0_linkKnown_48 : decode cX0_linkKnown 48 = .ok (.getfield 15, 3) := by decide +kernel
theorem dX0_linkKnown_51 : decode cX0_linkKnown 51 = .ok (.iload_n 1, 1) := by decide +kernel
theorem dX0_linkKnown_52 : decode cX0_linkKnown 52 = .ok (.aload_n 0, 1) := by decide +kernel
theorem dX0_linkKnown_53 : decode cX0_linkKnown 53 = .ok (.iload_n 2, 1) := by decide +kernel
theorem dX0_linkKnown_54 : decode cX0_linkKnown 54 = .ok (.iload_n 1, 1) := by decide +kernel
theorem dX0_linkKnown_55 : decode cX0_linkKnown 55 = .ok (.invokevirtual 110, 3) := by decide +kernel
theorem dX0_linkKnown_58 : decode cX0_linkKnown 58 = .ok (.ifCond .eq 7, 3) := by decide +kernel
theorem dX0_linkKnown_61 : decode cX0_linkKnown 61 = .ok (.iconst (-1), 1) := by decide +kernel
theorem dX0_linkKnown_62 : decode cX0_linkKnown 62 = .ok (.goto 4, 3) := by decide +kernel
theorem dX0_linkKnown_65 : decode cX0_linkKnown 65 = .ok (.iload_n 2, 1) := by decide +kernel
theorem dX0_linkKnown_66 : decode cX0_linkKnown 66 = .ok (.iastore, 1) := by decide +kernel
theorem dX0_linkKnown_67 : decode cX0_linkKnown 67 = .ok (.iinc 1 1, 3) := by decide +kernel
theorem dX0_linkKnown_70 : decode cX0_linkKnown 70 = .ok (.goto (-47), 3) := by decide +kernel
theorem dX0_linkKnown_73 : decode cX0_linkKnown 73 = .ok (.return_, 1) := by decide +kernel
theorem dX0_linksLead_0 : decode cX0_linksLead 0 = .ok (.iload_n 1, 1) := by decide +kernel
theorem dX0_linksLead_1 : decode cX0_linksLead 1 = .ok (.istore_n 3, 1) := by decide +kernel
theorem dX0_linksLead_2 : decode cX0_linksLead 2 = .ok (.iconst 0, 1) := by decide +kernel
theorem dX0_linksLead_3 : decode cX0_linksLead 3 = .ok (.istore 4, 2) := by decide +kernel
theorem dX0_linksLead_5 : decode cX0_linksLead 5 = .ok (.iload_n 3, 1) := by decide +kernel
theorem dX0_linksLead_6 : decode cX0_linksLead 6 = .ok (.invokestatic 50, 3) := by decide +kernel
theorem dX0_linksLead_9 : decode cX0_linksLead 9 = .ok (.ifCond .eq 30, 3) := by decide +kernel
theorem dX0_linksLead_12 : decode cX0_linksLead 12 = .ok (.iload 4, 2) := by decide +kernel
theorem dX0_linksLead_14 : decode cX0_linksLead 14 = .ok (.bipush 30, 2) := by decide +kernel
theorem dX0_linksLead_16 : decode cX0_linksLead 16 = .ok (.if_icmp .ge 23, 3) := by decide +kernel
theorem dX0_linksLead_19 : decode cX0_linksLead 19 = .ok (.iload_n 3, 1) := by decide +kernel
theorem dX0_linksLead_20 : decode cX0_linksLead 20 = .ok (.iload_n 2, 1) := by decide +kernel
theorem dX0_linksLead_21 : decode cX0_linksLead 21 = .ok (.if_icmp .ne 5, 3) := by decide +kernel
theorem dX0_linksLead_24 : decode cX0_linksLead 24 = .ok (.iconst 1, 1) := by decide +kernel
theorem dX0_linksLead_25 : decode cX0_linksLead 25 = .ok (.ireturn, 1) := by decide +kernel
theorem dX0_linksLead_26 : decode cX0_linksLead 26 = .ok (.aload_n 0, 1) := by decide +kernel
theorem dX0_linksLead_27 : decode cX0_linksLead 27 = .ok (.getfield 15, 3) := by decide +kernel
theorem dX0_linksLead_30 : decode cX0_linksLead 30 = .ok (.iload_n 3, 1) := by decide +kernel
theorem dX0_linksLead_31 : decode cX0_linksLead 31 = .ok (.iaload, 1) := by decide +kernel
theorem dX0_linksLead_32 : decode cX0_linksLead 32 = .ok (.istore_n 3, 1) := by decide +kernel
theorem dX0_linksLead_33 : decode cX0_linksLead 33 = .ok (.iinc 4 1, 3) := by decide +kernel
theorem dX0_linksLead_36 : decode cX0_linksLead 36 = .ok (.goto (-31), 3) := by decide +kernel
theorem dX0_linksLead_39 : decode cX0_linksLead 39 = .ok (.iconst 0, 1) := by decide +kernel
theorem dX0_linksLead_40 : decode cX0_linksLead 40 = .ok (.ireturn, 1) := by decide +kernel
theorem dX0_hangByLinks_0 : decode cX0_hangByLinks 0 = .ok (.iconst 0, 1) := by decide +kernel
theorem dX0_hangByLinks_1 : decode cX0_hangByLinks 1 = .ok (.istore_n 1, 1) := by decide +kernel
theorem dX0_hangByLinks_2 : decode cX0_hangByLinks 2 = .ok (.iload_n 1, 1) := by decide +kernel
theorem dX0_hangByLinks_3 : decode cX0_hangByLinks 3 = .ok (.bipush 30, 2) := by decide +kernel
theorem dX0_hangByLinks_5 : decode cX0_hangByLinks 5 = .ok (.if_icmp .ge 40, 3) := by decide +kernel
theorem dX0_hangByLinks_8 : decode cX0_hangByLinks 8 = .ok (.aload_n 0, 1) := by decide +kernel
theorem dX0_hangByLinks_9 : decode cX0_hangByLinks 9 = .ok (.getfield 19, 3) := by decide +kernel
theorem dX0_hangByLinks_12 : decode cX0_hangByLinks 12 = .ok (.iload_n 1, 1) := by decide +kernel
theorem dX0_hangByLinks_13 : decode cX0_hangByLinks 13 = .ok (.aload_n 0, 1) := by decide +kernel
theorem dX0_hangByLinks_14 : decode cX0_hangByLinks 14 = .ok (.getfield 46, 3) := by decide +kernel
theorem dX0_hangByLinks_17 : decode cX0_hangByLinks 17 = .ok (.iload_n 1, 1) := by decide +kernel
theorem dX0_hangByLinks_18 : decode cX0_hangByLinks 18 = .ok (.invokevirtual 89, 3) := by decide +kernel
theorem dX0_hangByLinks_21 : decode cX0_hangByLinks 21 = .ok (.ifCond .eq 16, 3) := by decide +kernel
theorem dX0_hangByLinks_24 : decode cX0_hangByLinks 24 = .ok (.aload_n 0, 1) := by decide +kernel
theorem dX0_hangByLinks_25 : decode cX0_hangByLinks 25 = .ok (.aload_n 0, 1) := by decide +kernel
theorem dX0_hangByLinks_26 : decode cX0_hangByLinks 26 = .ok (.getfield 15, 3) := by decide +kernel
theorem dX0_hangByLinks_29 : decode cX0_hangByLinks 29 = .ok (.iload_n 1, 1) := by decide +kernel
theorem dX0_hangByLinks_30 : decode cX0_hangByLinks 30 = .ok (.iaload, 1) := by decide +kernel
theorem dX0_hangByLinks_31 : decode cX0_hangByLinks 31 = .ok (.invokevirtual 114, 3) := by decide +kernel
theorem dX0_hangByLinks_34 : decode cX0_hangByLinks 34 = .ok (.goto 4, 3) := by decide +kernel
theorem dX0_hangByLinks_37 : decode cX0_hangByLinks 37 = .ok (.iconst (-1), 1) := by decide +kernel
theorem dX0_hangByLinks_38 : decode cX0_hangByLinks 38 = .ok (.iastore, 1) := by decide +kernel
theorem dX0_hangByLinks_39 : decode cX0_hangByLinks 39 = .ok (.iinc 1 1, 3) := by decide +kernel
theorem dX0_hangByLinks_42 : decode cX0_hangByLinks 42 = .ok (.goto (-40), 3) := by decide +kernel
theorem dX0_hangByLinks_45 : decode cX0_hangByLinks 45 = .ok (.return_, 1) := by decide +kernel
theorem dX0_parentByLinks_0 : decode cX0_parentByLinks 0 = .ok (.iload_n 1, 1) := by decide +kernel
theorem dX0_parentByLinks_1 : decode cX0_parentByLinks 1 = .ok (.istore_n 2, 1) := by decide +kernel
theorem dX0_parentByLinks_2 : decode cX0_parentByLinks 2 = .ok (.iconst 0, 1) := by decide +kernel
theorem dX0_parentByLinks_3 : decode cX0_parentByLinks 3 = .ok (.istore_n 3, 1) := by decide +kernel
theorem dX0_parentByLinks_4 : decode cX0_parentByLinks 4 = .ok (.iload_n 2, 1) := by decide +kernel
theorem dX0_parentByLinks_5 : decode cX0_parentByLinks 5 = .ok (.invokestatic 50, 3) := by decide +kernel
theorem dX0_parentByLinks_8 : decode cX0_parentByLinks 8 = .ok (.ifCond .eq 45, 3) := by decide +kernel
theorem dX0_parentByLinks_11 : decode cX0_parentByLinks 11 = .ok (.iload_n 3, 1) := by decide +kernel
theorem dX0_parentByLinks_12 : decode cX0_parentByLinks 12 = .ok (.bipush 30, 2) := by decide +kernel
theorem dX0_parentByLinks_14 : decode cX0_parentByLinks 14 = .ok (.if_icmp .ge 39, 3) := by decide +kernel
theorem dX0_parentByLinks_17 : decode cX0_parentByLinks 17 = .ok (.aload_n 0, 1) := by decide +kernel
theorem dX0_parentByLinks_18 : decode cX0_parentByLinks 18 = .ok (.getfield 46, 3) := by decide +kernel
theorem dX0_parentByLinks_21 : decode cX0_parentByLinks 21 = .ok (.iload_n 2, 1) := by decide +kernel
theorem dX0_parentByLinks_22 : decode cX0_parentByLinks 22 = .ok (.invokevirtual 89, 3) := by decide +kernel
theorem dX0_parentByLinks_25 : decode cX0_parentByLinks 25 = .ok (.ifCond .ne 13, 3) := by decide +kernel
theorem dX0_parentByLinks_28 : decode cX0_parentByLinks 28 = .ok (.aload_n 0, 1) := by decide +kernel
theorem dX0_parentByLinks_29 : decode cX0_parentByLinks 29 = .ok (.getfield 15, 3) := by decide +kernel
theorem dX0_parentByLinks_32 : decode cX0_parentByLinks 32 = .ok (.iload_n 2, 1) := by decide +kernel
theorem dX0_parentByLinks_33 : decode cX0_parentByLinks 33 = .ok (.iaload, 1) := by decide +kernel
theorem dX0_parentByLinks_34 : decode cX0_parentByLinks 34 = .ok (.iconst (-1), 1) := by decide +kernel
theorem dX0_parentByLinks_35 : decode cX0_parentByLinks 35 = .ok (.if_icmp .ne 5, 3) := by decide +kernel
theorem dX0_parentByLinks_38 : decode cX0_parentByLinks 38 = .ok (.iload_n 2, 1) := by decide +kernel
theorem dX0_parentByLinks_39 : decode cX0_parentByLinks 39 = .ok (.ireturn, 1) := by decide +kernel
theorem dX0_parentByLinks_40 : decode cX0_parentByLinks 40 = .ok (.aload_n 0, 1) := by decide +kernel
theorem dX0_parentByLinks_41 : decode cX0_parentByLinks 41 = .ok (.getfield 15, 3) := by decide +kernel
theorem dX0_parentByLinks_44 : decode cX0_parentByLinks 44 = .ok (.iload_n 2, 1) := by decide +kernel
theorem dX0_parentByLinks_45 : decode cX0_parentByLinks 45 = .ok (.iaload, 1) := by decide +kernel
theorem dX0_parentByLinks_46 : decode cX0_parentByLinks 46 = .ok (.istore_n 2, 1) := by decide +kernel
theorem dX0_parentByLinks_47 : decode cX0_parentByLinks 47 = .ok (.iinc 3 1, 3) := by decide +kernel
theorem dX0_parentByLinks_50 : decode cX0_parentByLinks 50 = .ok (.goto (-46), 3) := by decide +kernel
theorem dX0_parentByLinks_53 : decode cX0_parentByLinks 53 = .ok (.iconst (-1), 1) := by decide +kernel
theorem dX0_parentByLinks_54 : decode cX0_parentByLinks 54 = .ok (.ireturn, 1) := by decide +kernel
theorem dX0_keepMissing_0 : decode cX0_keepMissing 0 = .ok (.iconst 0, 1) := by decide +kernel
theorem dX0_keepMissing_1 : decode cX0_keepMissing 1 = .ok (.istore_n 1, 1) := by decide +kernel
theorem dX0_keepMissing_2 : decode cX0_keepMissing 2 = .ok (.iload_n 1, 1) := by decide +kernel
theorem dX0_keepMissing_3 : decode cX0_keepMissing 3 = .ok (.bipush 30, 2) := by decide +kernel
theorem dX0_keepMissing_5 : decode cX0_keepMissing 5 = .ok (.if_icmp .ge 54, 3) := by decide +kernel
theorem dX0_keepMissing_8 : decode cX0_keepMissing 8 = .ok (.aload_n 0, 1) := by decide +kernel
theorem dX0_keepMissing_9 : decode cX0_keepMissing 9 = .ok (.getfield 22, 3) := by decide +kernel
theorem dX0_keepMissing_12 : decode cX0_keepMissing 12 = .ok (.iload_n 1, 1) := by decide +kernel
theorem dX0_keepMissing_13 : decode cX0_keepMissing 13 = .ok (.aload_n 0, 1) := by decide +kernel
theorem dX0_keepMissing_14 : decode cX0_keepMissing 14 = .ok (.getfield 46, 3) := by decide +kernel
theorem dX0_keepMissing_17 : decode cX0_keepMissing 17 = .ok (.iload_n 1, 1) := by decide +kernel
theorem dX0_keepMissing_18 : decode cX0_keepMissing 18 = .ok (.invokevirtual 89, 3) := by decide +kernel
theorem dX0_keepMissing_21 : decode cX0_keepMissing 21 = .ok (.ifCond .ne 12, 3) := by decide +kernel
theorem dX0_keepMissing_24 : decode cX0_keepMissing 24 = .ok (.aload_n 0, 1) := by decide +kernel
theorem dX0_keepMissing_25 : decode cX0_keepMissing 25 = .ok (.iload_n 1, 1) := by decide +kernel
theorem dX0_keepMissing_26 : decode cX0_keepMissing 26 = .ok (.invokevirtual 117, 3) := by decide +kernel
theorem dX0_keepMissing_29 : decode cX0_keepMissing 29 = .ok (.iconst 2, 1) := by decide +kernel
theorem dX0_keepMissing_30 : decode cX0_keepMissing 30 = .ok (.if_icmp .lt 7, 3) := by decide +kernel
theorem dX0_keepMissing_33 : decode cX0_keepMissing 33 = .ok (.iconst 1, 1) := by decide +kernel
theorem dX0_keepMissing_34 : decode cX0_keepMissing 34 = .ok (.goto 4, 3) := by decide +kernel
theorem dX0_keepMissing_37 : decode cX0_keepMissing 37 = .ok (.iconst 0, 1) := by decide +kernel
theorem dX0_keepMissing_38 : decode cX0_keepMissing 38 = .ok (.bastore, 1) := by decide +kernel
theorem dX0_keepMissing_39 : decode cX0_keepMissing 39 = .ok (.aload_n 0, 1) := by decide +kernel
theorem dX0_keepMissing_40 : decode cX0_keepMissing 40 = .ok (.getfield 22, 3) := by decide +kernel
theorem dX0_keepMissing_43 : decode cX0_keepMissing 43 = .ok (.iload_n 1, 1) := by decide +kernel
theorem dX0_keepMissing_44 : decode cX0_keepMissing 44 = .ok (.baload, 1) := by decide +kernel
theorem dX0_keepMissing_45 : decode cX0_keepMissing 45 = .ok (.ifCond .ne 8, 3) := by decide +kernel
theorem dX0_keepMissing_48 : decode cX0_keepMissing 48 = .ok (.aload_n 0, 1) := by decide +kernel
theorem dX0_keepMissing_49 : decode cX0_keepMissing 49 = .ok (.iload_n 1, 1) := by decide +kernel
theorem dX0_keepMissing_50 : decode cX0_keepMissing 50 = .ok (.invokevirtual 120, 3) := by decide +kernel
theorem dX0_keepMissing_53 : decode cX0_keepMissing 53 = .ok (.iinc 1 1, 3) := by decide +kernel
theorem dX0_keepMissing_56 : decode cX0_keepMissing 56 = .ok (.goto (-54), 3) := by decide +kernel
theorem dX0_keepMissing_59 : decode cX0_keepMissing 59 = .ok (.return_, 1) := by decide +kernel
theorem dX0_freeChildren_0 : decode cX0_freeChildren 0 = .ok (.iconst 0, 1) := by decide +kernel
theorem dX0_freeChildren_1 : decode cX0_freeChildren 1 = .ok (.istore_n 2, 1) := by decide +kernel
theorem dX0_freeChildren_2 : decode cX0_freeChildren 2 = .ok (.iload_n 2, 1) := by decide +kernel
theorem dX0_freeChildren_3 : decode cX0_freeChildren 3 = .ok (.bipush 30, 2) := by decide +kernel
theorem dX0_freeChildren_5 : decode cX0_freeChildren 5 = .ok (.if_icmp .ge 26, 3) := by decide +kernel
theorem dX0_freeChildren_8 : decode cX0_freeChildren 8 = .ok (.aload_n 0, 1) := by decide +kernel
theorem dX0_freeChildren_9 : decode cX0_freeChildren 9 = .ok (.getfield 19, 3) := by decide +kernel
theorem dX0_freeChildren_12 : decode cX0_freeChildren 12 = .ok (.iload_n 2, 1) := by decide +kernel
theorem dX0_freeChildren_13 : decode cX0_freeChildren 13 = .ok (.iaload, 1) := by decide +kernel
theorem dX0_freeChildren_14 : decode cX0_freeChildren 14 = .ok (.iload_n 1, 1) := by decide +kernel
theorem dX0_freeChildren_15 : decode cX0_freeChildren 15 = .ok (.if_icmp .ne 10, 3) := by decide +kernel
theorem dX0_freeChildren_18 : decode cX0_freeChildren 18 = .ok (.aload_n 0, 1) := by decide +kernel
theorem dX0_freeChildren_19 : decode cX0_freeChildren 19 = .ok (.getfield 19, 3) := by decide +kernel
theorem dX0_freeChildren_22 : decode cX0_freeChildren 22 = .ok (.iload_n 2, 1) := by decide +kernel
theorem dX0_freeChildren_23 : decode cX0_freeChildren 23 = .ok (.iconst (-1), 1) := by decide +kernel
theorem dX0_freeChildren_24 : decode cX0_freeChildren 24 = .ok (.iastore, 1) := by decide +kernel
theorem dX0_freeChildren_25 : decode cX0_freeChildren 25 = .ok (.iinc 2 1, 3) := by decide +kernel
theorem dX0_freeChildren_28 : decode cX0_freeChildren 28 = .ok (.goto (-26), 3) := by decide +kernel
theorem dX0_freeChildren_31 : decode cX0_freeChildren 31 = .ok (.return_, 1) := by decide +kernel
theorem dX0_hangReplies_0 : decode cX0_hangReplies 0 = .ok (.iconst 0, 1) := by decide +kernel
theorem dX0_hangReplies_1 : decode cX0_hangReplies 1 = .ok (.istore_n 1, 1) := by decide +kernel
theorem dX0_hangReplies_2 : decode cX0_hangReplies 2 = .ok (.iload_n 1, 1) := by decide +kernel
theorem dX0_hangReplies_3 : decode cX0_hangReplies 3 = .ok (.bipush 30, 2) := by decide +kernel
theorem dX0_hangReplies_5 : decode cX0_hangReplies 5 = .ok (.if_icmp .ge 54, 3) := by decide +kernel
theorem dX0_hangReplies_8 : decode cX0_hangReplies 8 = .ok (.aload_n 0, 1) := by decide +kernel
theorem dX0_hangReplies_9 : decode cX0_hangReplies 9 = .ok (.getfield 46, 3) := by decide +kernel
theorem dX0_hangReplies_12 : decode cX0_hangReplies 12 = .ok (.iload_n 1, 1) := by decide +kernel
theorem dX0_hangReplies_13 : decode cX0_hangReplies 13 = .ok (.invokevirtual 123, 3) := by decide +kernel
theorem dX0_hangReplies_16 : decode cX0_hangReplies 16 = .ok (.ifCond .eq 37, 3) := by decide +kernel
theorem dX0_hangReplies_19 : decode cX0_hangReplies 19 = .ok (.aload_n 0, 1) := by decide +kernel
theorem dX0_hangReplies_20 : decode cX0_hangReplies 20 = .ok (.getfield 19, 3) := by decide +kernel
theorem dX0_hangReplies_23 : decode cX0_hangReplies 23 = .ok (.iload_n 1, 1) := by decide +kernel
theorem dX0_hangReplies_24 : decode cX0_hangReplies 24 = .ok (.iaload, 1) := by decide +kernel
theorem dX0_hangReplies_25 : decode cX0_hangReplies 25 = .ok (.iconst (-1), 1) := by decide +kernel
theorem dX0_hangReplies_26 : decode cX0_hangReplies 26 = .ok (.if_icmp .ne 27, 3) := by decide +kernel
theorem dX0_hangReplies_29 : decode cX0_hangReplies 29 = .ok (.aload_n 0, 1) := by decide +kernel
theorem dX0_hangReplies_30 : decode cX0_hangReplies 30 = .ok (.getfield 46, 3) := by decide +kernel
theorem dX0_hangReplies_33 : decode cX0_hangReplies 33 = .ok (.iload_n 1, 1) := by decide +kernel
theorem dX0_hangReplies_34 : decode cX0_hangReplies 34 = .ok (.invokevirtual 104, 3) := by decide +kernel
theorem dX0_hangReplies_37 : decode cX0_hangReplies 37 = .ok (.bipush (-2), 2) := by decide +kernel
theorem dX0_hangReplies_39 : decode cX0_hangReplies 39 = .ok (.if_icmp .eq 14, 3) := by decide +kernel
theorem dX0_hangReplies_42 : decode cX0_hangReplies 42 = .ok (.aload_n 0, 1) := by decide +kernel
theorem dX0_hangReplies_43 : decode cX0_hangReplies 43 = .ok (.getfield 19, 3) := by decide +kernel
theorem dX0_hangReplies_46 : decode cX0_hangReplies 46 = .ok (.iload_n 1, 1) := by decide +kernel
theorem dX0_hangReplies_47 : decode cX0_hangReplies 47 = .ok (.aload_n 0, 1) := by decide +kernel
theorem dX0_hangReplies_48 : decode cX0_hangReplies 48 = .ok (.iload_n 1, 1) := by decide +kernel
theorem dX0_hangReplies_49 : decode cX0_hangReplies 49 = .ok (.invokevirtual 126, 3) := by decide +kernel
theorem dX0_hangReplies_52 : decode cX0_hangReplies 52 = .ok (.iastore, 1) := by decide +kernel
theorem dX0_hangReplies_53 : decode cX0_hangReplies 53 = .ok (.iinc 1 1, 3) := by decide +kernel
theorem dX0_hangReplies_56 : decode cX0_hangReplies 56 = .ok (.goto (-54), 3) := by decide +kernel
theorem dX0_hangReplies_59 : decode cX0_hangReplies 59 = .ok (.return_, 1) := by decide +kernel
theorem dX0_letterAnsweredBy_0 : decode cX0_letterAnsweredBy 0 = .ok (.iconst (-1), 1) := by decide +kernel
theorem dX0_letterAnsweredBy_1 : decode cX0_letterAnsweredBy 1 = .ok (.istore_n 2, 1) := by decide +kernel
theorem dX0_letterAnsweredBy_2 : decode cX0_letterAnsweredBy 2 = .ok (.iconst 0, 1) := by decide +kernel
theorem dX0_letterAnsweredBy_3 : decode cX0_letterAnsweredBy 3 = .ok (.istore_n 3, 1) := by decide +kernel
theorem dX0_letterAnsweredBy_4 : decode cX0_letterAnsweredBy 4 = .ok (.iload_n 3, 1) := by decide +kernel
theorem dX0_letterAnsweredBy_5 : decode cX0_letterAnsweredBy 5 = .ok (.bipush 30, 2) := by decide +kernel
theorem dX0_letterAnsweredBy_7 : decode cX0_letterAnsweredBy 7 = .ok (.if_icmp .ge 69, 3) := by decide +kernel
theorem dX0_letterAnsweredBy_10 : decode cX0_letterAnsweredBy 10 = .ok (.aload_n 0, 1) := by decide +kernel
theorem dX0_letterAnsweredBy_11 : decode cX0_letterAnsweredBy 11 = .ok (.getfield 19, 3) := by decide +kernel
theorem dX0_letterAnsweredBy_14 : decode cX0_letterAnsweredBy 14 = .ok (.iload_n 3, 1) := by decide +kernel
theorem dX0_letterAnsweredBy_15 : decode cX0_letterAnsweredBy 15 = .ok (.iaload, 1) := by decide +kernel
theorem dX0_letterAnsweredBy_16 : decode cX0_letterAnsweredBy 16 = .ok (.iconst (-1), 1) := by decide +kernel
theorem dX0_letterAnsweredBy_17 : decode cX0_letterAnsweredBy 17 = .ok (.if_icmp .ne 19, 3) := by decide +kernel
theorem dX0_letterAnsweredBy_20 : decode cX0_letterAnsweredBy 20 = .ok (.aload_n 0, 1) := by decide +kernel
theorem dX0_letterAnsweredBy_21 : decode cX0_letterAnsweredBy 21 = .ok (.getfield 46, 3) := by decide +kernel
theorem dX0_letterAnsweredBy_24 : decode cX0_letterAnsweredBy 24 = .ok (.iload_n 3, 1) := by decide +kernel
theorem dX0_letterAnsweredBy_25 : decode cX0_letterAnsweredBy 25 = .ok (.iload_n 1, 1) := by decide +kernel
theorem dX0_letterAnsweredBy_26 : decode cX0_letterAnsweredBy 26 = .ok (.invokevirtual 129, 3) := by decide +kernel
theorem dX0_letterAnsweredBy_29 : decode cX0_letterAnsweredBy 29 = .ok (.ifCond .eq 7, 3) := by decide +kernel
theorem dX0_letterAnsweredBy_32 : decode cX0_letterAnsweredBy 32 = .ok (.iconst 1, 1) := by decide +kernel
theorem dX0_letterAnsweredBy_33 : decode cX0_letterAnsweredBy 33 = .ok (.goto 4, 3) := by decide +kernel
theorem dX0_letterAnsweredBy_36 : decode cX0_letterAnsweredBy 36 = .ok (.iconst 0, 1) := by decide +kernel
theorem dX0_letterAnsweredBy_37 : decode cX0_letterAnsweredBy 37 = .ok (.istore 4, 2) := by decide +kernel
theorem dX0_letterAnsweredBy_39 : decode cX0_letterAnsweredBy 39 = .ok (.iload 4, 2) := by decide +kernel
theorem dX0_letterAnsweredBy_41 : decode cX0_letterAnsweredBy 41 = .ok (.ifCond .eq 29, 3) := by decide +kernel
theorem dX0_letterAnsweredBy_44 : decode cX0_letterAnsweredBy 44 = .ok (.iload_n 2, 1) := by decide +kernel
theorem dX0_letterAnsweredBy_45 : decode cX0_letterAnsweredBy 45 = .ok (.iconst (-1), 1) := by decide +kernel
theorem dX0_letterAnsweredBy_46 : decode cX0_letterAnsweredBy 46 = .ok (.if_icmp .eq 22, 3) := by decide +kernel
theorem dX0_letterAnsweredBy_49 : decode cX0_letterAnsweredBy 49 = .ok (.aload_n 0, 1) := by decide +kernel
theorem dX0_letterAnsweredBy_50 : decode cX0_letterAnsweredBy 50 = .ok (.getfield 46, 3) := by decide +kernel
theorem dX0_letterAnsweredBy_53 : decode cX0_letterAnsweredBy 53 = .ok (.iload_n 3, 1) := by decide +kernel
theorem dX0_letterAnsweredBy_54 : decode cX0_letterAnsweredBy 54 = .ok (.invokevirtual 132, 3) := by decide +kernel
theorem dX0_letterAnsweredBy_57 : decode cX0_letterAnsweredBy 57 = .ok (.aload_n 0, 1) := by decide +kernel
theorem dX0_letterAnsweredBy_58 : decode cX0_letterAnsweredBy 58 = .ok (.getfield 46, 3) := by decide +kernel
theorem dX0_letterAnsweredBy_61 : decode cX0_letterAnsweredBy 61 = .ok (.iload_n 2, 1) := by decide +kernel
theorem dX0_letterAnsweredBy_62 : decode cX0_letterAnsweredBy 62 = .ok (.invokevirtual 132, 3) := by decide +kernel
theorem dX0_letterAnsweredBy_65 : decode cX0_letterAnsweredBy 65 = .ok (.if_icmp .le 5, 3) := by decide +kernel
theorem dX0_letterAnsweredBy_68 : decode cX0_letterAnsweredBy 68 = .ok (.iload_n 3, 1) := by decide +kernel
theorem dX0_letterAnsweredBy_69 : decode cX0_letterAnsweredBy 69 = .ok (.istore_n 2, 1) := by decide +kernel
theorem dX0_letterAnsweredBy_70 : decode cX0_letterAnsweredBy 70 = .ok (.iinc 3 1, 3) := by decide +kernel
theorem dX0_letterAnsweredBy_73 : decode cX0_letterAnsweredBy 73 = .ok (.goto (-69), 3) := by decide +kernel
theorem dX0_letterAnsweredBy_76 : decode cX0_letterAnsweredBy 76 = .ok (.iload_n 2, 1) := by decide +kernel
theorem dX0_letterAnsweredBy_77 : decode cX0_letterAnsweredBy 77 = .ok (.ireturn, 1) := by decide +kernel
theorem dX0_measureTrees_0 : decode cX0_measureTrees 0 = .ok (.iconst 0, 1) := by decide +kernel
theorem dX0_measureTrees_1 : decode cX0_measureTrees 1 = .ok (.istore_n 1, 1) := by decide +kernel
theorem dX0_measureTrees_2 : decode cX0_measureTrees 2 = .ok (.iload_n 1, 1) := by decide +kernel
theorem dX0_measureTrees_3 : decode cX0_measureTrees 3 = .ok (.bipush 30, 2) := by decide +kernel
theorem dX0_measureTrees_5 : decode cX0_measureTrees 5 = .ok (.if_icmp .ge 25, 3) := by decide +kernel
theorem dX0_measureTrees_8 : decode cX0_measureTrees 8 = .ok (.aload_n 0, 1) := by decide +kernel
theorem dX0_measureTrees_9 : decode cX0_measureTrees 9 = .ok (.getfield 31, 3) := by decide +kernel
theorem dX0_measureTrees_12 : decode cX0_measureTrees 12 = .ok (.iload_n 1, 1) := by decide +kernel
theorem dX0_measureTrees_13 : decode cX0_measureTrees 13 = .ok (.iconst 0, 1) := by decide +kernel
theorem dX0_measureTrees_14 : decode cX0_measureTrees 14 = .ok (.iastore, 1) := by decide +kernel
theorem dX0_measureTrees_15 : decode cX0_measureTrees 15 = .ok (.aload_n 0, 1) := by decide +kernel
theorem dX0_measureTrees_16 : decode cX0_measureTrees 16 = .ok (.getfield 25, 3) := by decide +kernel
theorem dX0_measureTrees_19 : decode cX0_measureTrees 19 = .ok (.iload_n 1, 1) := by decide +kernel
theorem dX0_measureTrees_20 : decode cX0_measureTrees 20 = .ok (.sipush 1000, 3) := by decide +kernel
theorem dX0_measureTrees_23 : decode cX0_measureTrees 23 = .ok (.iastore, 1) := by decide +kernel
theorem dX0_measureTrees_24 : decode cX0_measureTrees 24 = .ok (.iinc 1 1, 3) := by decide +kernel
theorem dX0_measureTrees_27 : decode cX0_measureTrees 27 = .ok (.goto (-25), 3) := by decide +kernel
theorem dX0_measureTrees_30 : decode cX0_measureTrees 30 = .ok (.iconst 0, 1) := by decide +kernel
theorem dX0_measureTrees_31 : decode cX0_measureTrees 31 = .ok (.istore_n 1, 1) := by decide +kernel
theorem dX0_measureTrees_32 : decode cX0_measureTrees 32 = .ok (.iload_n 1, 1) := by decide +kernel
theorem dX0_measureTrees_33 : decode cX0_measureTrees 33 = .ok (.bipush 30, 2) := by decide +kernel
theorem dX0_measureTrees_35 : decode cX0_measureTrees 35 = .ok (.if_icmp .ge 23, 3) := by decide +kernel
theorem dX0_measureTrees_38 : decode cX0_measureTrees 38 = .ok (.aload_n 0, 1) := by decide +kernel
theorem dX0_measureTrees_39 : decode cX0_measureTrees 39 = .ok (.getfield 22, 3) := by decide +kernel
theorem dX0_measureTrees_42 : decode cX0_measureTrees 42 = .ok (.iload_n 1, 1) := by decide +kernel
theorem dX0_measureTrees_43 : decode cX0_measureTrees 43 = .ok (.baload, 1) := by decide +kernel
theorem dX0_measureTrees_44 : decode cX0_measureTrees 44 = .ok (.ifCond .eq 8, 3) := by decide +kernel
theorem dX0_measureTrees_47 : decode cX0_measureTrees 47 = .ok (.aload_n 0, 1) := by decide +kernel
theorem dX0_measureTrees_48 : decode cX0_measureTrees 48 = .ok (.iload_n 1, 1) := by decide +kernel
theorem dX0_measureTrees_49 : decode cX0_measureTrees 49 = .ok (.invokevirtual 135, 3) := by decide +kernel
theorem dX0_measureTrees_52 : decode cX0_measureTrees 52 = .ok (.iinc 1 1, 3) := by decide +kernel
theorem dX0_measureTrees_55 : decode cX0_measureTrees 55 = .ok (.goto (-23), 3) := by decide +kernel
theorem dX0_measureTrees_58 : decode cX0_measureTrees 58 = .ok (.iconst 0, 1) := by decide +kernel
theorem dX0_measureTrees_59 : decode cX0_measureTrees 59 = .ok (.istore_n 1, 1) := by decide +kernel
theorem dX0_measureTrees_60 : decode cX0_measureTrees 60 = .ok (.iload_n 1, 1) := by decide +kernel
theorem dX0_measureTrees_61 : decode cX0_measureTrees 61 = .ok (.bipush 30, 2) := by decide +kernel
theorem dX0_measureTrees_63 : decode cX0_measureTrees 63 = .ok (.if_icmp .ge 42, 3) := by decide +kernel
theorem dX0_measureTrees_66 : decode cX0_measureTrees 66 = .ok (.aload_n 0, 1) := by decide +kernel
theorem dX0_measureTrees_67 : decode cX0_measureTrees 67 = .ok (.getfield 28, 3) := by decide +kernel
theorem dX0_measureTrees_70 : decode cX0_measureTrees 70 = .ok (.iload_n 1, 1) := by decide +kernel
theorem dX0_measureTrees_71 : decode cX0_measureTrees 71 = .ok (.aload_n 0, 1) := by decide +kernel
theorem dX0_measureTrees_72 : decode cX0_measureTrees 72 = .ok (.getfield 19, 3) := by decide +kernel
theorem dX0_measureTrees_75 : decode cX0_measureTrees 75 = .ok (.iload_n 1, 1) := by decide +kernel
theorem dX0_measureTrees_76 : decode cX0_measureTrees 76 = .ok (.iaload, 1) := by decide +kernel
theorem dX0_measureTrees_77 : decode cX0_measureTrees 77 = .ok (.iconst (-1), 1) := by decide +kernel
theorem dX0_measureTrees_78 : decode cX0_measureTrees 78 = .ok (.if_icmp .ne 12, 3) := by decide +kernel
theorem dX0_measureTrees_81 : decode cX0_measureTrees 81 = .ok (.aload_n 0, 1) := by decide +kernel
theorem dX0_measureTrees_82 : decode cX0_measureTrees 82 = .ok (.getfield 25, 3) := by decide +kernel
theorem dX0_measureTrees_85 : decode cX0_measureTrees 85 = .ok (.iload_n 1, 1) := by decide +kernel
theorem dX0_measureTrees_86 : decode cX0_measureTrees 86 = .ok (.iaload, 1) := by decide +kernel
theorem dX0_measureTrees_87 : decode cX0_measureTrees 87 = .ok (.goto 11, 3) := by decide +kernel
theorem dX0_measureTrees_90 : decode cX0_measureTrees 90 = .ok (.aload_n 0, 1) := by decide +kernel
theorem dX0_measureTrees_91 : decode cX0_measureTrees 91 = .ok (.getfield 46, 3) := by decide +kernel
theorem dX0_measureTrees_94 : decode cX0_measureTrees 94 = .ok (.iload_n 1, 1) := by decide +kernel
theorem dX0_measureTrees_95 : decode cX0_measureTrees 95 = .ok (.invokevirtual 132, 3) := by decide +kernel
theorem dX0_measureTrees_98 : decode cX0_measureTrees 98 = .ok (.iastore, 1) := by decide +kernel
theorem dX0_measureTrees_99 : decode cX0_measureTrees 99 = .ok (.iinc 1 1, 3) := by decide +kernel
theorem dX0_measureTrees_102 : decode cX0_measureTrees 102 = .ok (.goto (-42), 3) := by decide +kernel
theorem dX0_measureTrees_105 : decode cX0_measureTrees 105 = .ok (.return_, 1) := by decide +kernel
theorem dX0_countUpwards_0 : decode cX0_countUpwards 0 = .ok (.aload_n 0, 1) := by decide +kernel
theorem dX0_countUpwards_1 : decode cX0_countUpwards 1 = .ok (.getfield 46, 3) := by decide +kernel
theorem dX0_countUpwards_4 : decode cX0_countUpwards 4 = .ok (.iload_n 1, 1) := by decide +kernel
theorem dX0_countUpwards_5 : decode cX0_countUpwards 5 = .ok (.invokevirtual 132, 3) := by decide +kernel
theorem dX0_countUpwards_8 : decode cX0_countUpwards 8 = .ok (.istore_n 2, 1) := by decide +kernel
theorem dX0_countUpwards_9 : decode cX0_countUpwards 9 = .ok (.iload_n 1, 1) := by decide +kernel
theorem dX0_countUpwards_10 : decode cX0_countUpwards 10 = .ok (.istore_n 3, 1) := by decide +kernel
theorem dX0_countUpwards_11 : decode cX0_countUpwards 11 = .ok (.iconst 0, 1) := by decide +kernel
theorem dX0_countUpwards_12 : decode cX0_countUpwards 12 = .ok (.istore 4, 2) := by decide +kernel
theorem dX0_countUpwards_14 : decode cX0_countUpwards 14 = .ok (.iload_n 3, 1) := by decide +kernel
theorem dX0_countUpwards_15 : decode cX0_countUpwards 15 = .ok (.invokestatic 50, 3) := by decide +kernel
theorem dX0_countUpwards_18 : decode cX0_countUpwards 18 = .ok (.ifCond .eq 49, 3) := by decide +kernel
theorem dX0_countUpwards_21 : decode cX0_countUpwards 21 = .ok (.iload 4, 2) := by decide +kernel
theorem dX0_countUpwards_23 : decode cX0_countUpwards 23 = .ok (.bipush 30, 2) := by decide +kernel
theorem dX0_countUpwards_25 : decode cX0_countUpwards 25 = .ok (.if_icmp .ge 42, 3) := by decide +kernel
theorem dX0_countUpwards_28 : decode cX0_countUpwards 28 = .ok (.aload_n 0, 1) := by decide +kernel
theorem dX0_countUpwards_29 : decode cX0_countUpwards 29 = .ok (.getfield 31, 3) := by decide +kernel
theorem dX0_countUpwards_32 : decode cX0_countUpwards 32 = .ok (.iload_n 3, 1) := by decide +kernel
theorem dX0_countUpwards_33 : decode cX0_countUpwards 33 = .ok (.dup2, 1) := by decide +kernel
theorem dX0_countUpwards_34 : decode cX0_countUpwards 34 = .ok (.iaload, 1) := by decide +kernel
theorem dX0_countUpwards_35 : decode cX0_countUpwards 35 = .ok (.iconst 1, 1) := by decide +kernel
theorem dX0_countUpwards_36 : decode cX0_countUpwards 36 = .ok (.iadd, 1) := by decide +kernel
theorem dX0_countUpwards_37 : decode cX0_countUpwards 37 = .ok (.iastore, 1) := by decide +kernel
theorem dX0_countUpwards_38 : decode cX0_countUpwards 38 = .ok (.aload_n 0, 1) := by decide +kernel
theorem dX0_countUpwards_39 : decode cX0_countUpwards 39 = .ok (.getfield 25, 3) := by decide +kernel
theorem dX0_countUpwards_42 : decode cX0_countUpwards 42 = .ok (.iload_n 3, 1) := by decide +kernel
theorem dX0_countUpwards_43 : decode cX0_countUpwards 43 = .ok (.aload_n 0, 1) := by decide +kernel
theorem dX0_countUpwards_44 : decode cX0_countUpwards 44 = .ok (.getfield 25, 3) := by decide +kernel
theorem dX0_countUpwards_47 : decode cX0_countUpwards 47 = .ok (.iload_n 3, 1) := by decide +kernel
theorem dX0_countUpwards_48 : decode cX0_countUpwards 48 = .ok (.iaload, 1) := by decide +kernel
theorem dX0_countUpwards_49 : decode cX0_countUpwards 49 = .ok (.iload_n 2, 1) := by decide +kernel
theorem dX0_countUpwards_50 : decode cX0_countUpwards 50 = .ok (.invokestatic 138, 3) := by decide +kernel
theorem dX0_countUpwards_53 : decode cX0_countUpwards 53 = .ok (.iastore, 1) := by decide +kernel
theorem dX0_countUpwards_54 : decode cX0_countUpwards 54 = .ok (.aload_n 0, 1) := by decide +kernel
theorem dX0_countUpwards_55 : decode cX0_countUpwards 55 = .ok (.getfield 19, 3) := by decide +kernel
theorem dX0_countUpwards_58 : decode cX0_countUpwards 58 = .ok (.iload_n 3, 1) := by decide +kernel
theorem dX0_countUpwards_59 : decode cX0_countUpwards 59 = .ok (.iaload, 1) := by decide +kernel
theorem dX0_countUpwards_60 : decode cX0_countUpwards 60 = .ok (.istore_n 3, 1) := by decide +kernel
theorem dX0_countUpwards_61 : decode cX0_countUpwards 61 = .ok (.iinc 4 1, 3) := by decide +kernel
theorem dX0_countUpwards_64 : decode cX0_countUpwards 64 = .ok (.goto (-50), 3) := by decide +kernel
theorem dX0_countUpwards_67 : decode cX0_countUpwards 67 = .ok (.return_, 1) := by decide +kernel
theorem dX0_comesBefore_0 : decode cX0_comesBefore 0 = .ok (.aload_n 0, 1) := by decide +kernel
theorem dX0_comesBefore_1 : decode cX0_comesBefore 1 = .ok (.iload_n 1, 1) := by decide +kernel
theorem dX0_comesBefore_2 : decode cX0_comesBefore 2 = .ok (.invokevirtual 54, 3) := by decide +kernel
theorem dX0_comesBefore_5 : decode cX0_comesBefore 5 = .ok (.ifCond .eq 26, 3) := by decide +kernel
theorem dX0_comesBefore_8 : decode cX0_comesBefore 8 = .ok (.aload_n 0, 1) := by decide +kernel
theorem dX0_comesBefore_9 : decode cX0_comesBefore 9 = .ok (.iload_n 2, 1) := by decide +kernel
theorem dX0_comesBefore_10 : decode cX0_comesBefore 10 = .ok (.invokevirtual 54, 3) := by decide +kernel
theorem dX0_comesBefore_13 : decode cX0_comesBefore 13 = .ok (.ifCond .eq 18, 3) := by decide +kernel
theorem dX0_comesBefore_16 : decode cX0_comesBefore 16 = .ok (.aload_n 0, 1) := by decide +kernel
theorem dX0_comesBefore_17 : decode cX0_comesBefore 17 = .ok (.getfield 19, 3) := by decide +kernel
theorem dX0_comesBefore_20 : decode cX0_comesBefore 20 = .ok (.iload_n 1, 1) := by decide +kernel
theorem dX0_comesBefore_21 : decode cX0_comesBefore 21 = .ok (.iaload, 1) := by decide +kernel
theorem dX0_comesBefore_22 : decode cX0_comesBefore 22 = .ok (.aload_n 0, 1) := by decide +kernel
theorem dX0_comesBefore_23 : decode cX0_comesBefore 23 = .ok (.getfield 19, 3) := by decide +kernel
theorem dX0_comesBefore_26 : decode cX0_comesBefore 26 = .ok (.iload_n 2, 1) := by decide +kernel
theorem dX0_comesBefore_27 : decode cX0_comesBefore 27 = .ok (.iaload, 1) := by decide +kernel
theorem dX0_comesBefore_28 : decode cX0_comesBefore 28 = .ok (.if_icmp .eq 5, 3) := by decide +kernel
theorem dX0_comesBefore_31 : decode cX0_comesBefore 31 = .ok (.iconst 0, 1) := by decide +kernel
theorem dX0_comesBefore_32 : decode cX0_comesBefore 32 = .ok (.ireturn, 1) := by decide +kernel
theorem dX0_comesBefore_33 : decode cX0_comesBefore 33 = .ok (.aload_n 0, 1) := by decide +kernel
theorem dX0_comesBefore_34 : decode cX0_comesBefore 34 = .ok (.getfield 28, 3) := by decide +kernel
theorem dX0_comesBefore_37 : decode cX0_comesBefore 37 = .ok (.iload_n 1, 1) := by decide +kernel
theorem dX0_comesBefore_38 : decode cX0_comesBefore 38 = .ok (.iaload, 1) := by decide +kernel
theorem dX0_comesBefore_39 : decode cX0_comesBefore 39 = .ok (.aload_n 0, 1) := by decide +kernel
theorem dX0_comesBefore_40 : decode cX0_comesBefore 40 = .ok (.getfield 28, 3) := by decide +kernel
theorem dX0_comesBefore_43 : decode cX0_comesBefore 43 = .ok (.iload_n 2, 1) := by decide +kernel
theorem dX0_comesBefore_44 : decode cX0_comesBefore 44 = .ok (.iaload, 1) := by decide +kernel
theorem dX0_comesBefore_45 : decode cX0_comesBefore 45 = .ok (.if_icmp .lt 23, 3) := by decide +kernel
theorem dX0_comesBefore_48 : decode cX0_comesBefore 48 = .ok (.aload_n 0, 1) := by decide +kernel
theorem dX0_comesBefore_49 : decode cX0_comesBefore 49 = .ok (.getfield 28, 3) := by decide +kernel
theorem dX0_comesBefore_52 : decode cX0_comesBefore 52 = .ok (.iload_n 1, 1) := by decide +kernel
theorem dX0_comesBefore_53 : decode cX0_comesBefore 53 = .ok (.iaload, 1) := by decide +kernel
theorem dX0_comesBefore_54 : decode cX0_comesBefore 54 = .ok (.aload_n 0, 1) := by decide +kernel
theorem dX0_comesBefore_55 : decode cX0_comesBefore 55 = .ok (.getfield 28, 3) := by decide +kernel
theorem dX0_comesBefore_58 : decode cX0_comesBefore 58 = .ok (.iload_n 2, 1) := by decide +kernel
theorem dX0_comesBefore_59 : decode cX0_comesBefore 59 = .ok (.iaload, 1) := by decide +kernel
theorem dX0_comesBefore_60 : decode cX0_comesBefore 60 = .ok (.if_icmp .ne 12, 3) := by decide +kernel
theorem dX0_comesBefore_63 : decode cX0_comesBefore 63 = .ok (.iload_n 1, 1) := by decide +kernel
theorem dX0_comesBefore_64 : decode cX0_comesBefore 64 = .ok (.iload_n 2, 1) := by decide +kernel
theorem dX0_comesBefore_65 : decode cX0_comesBefore 65 = .ok (.if_icmp .ge 7, 3) := by decide +kernel
theorem dX0_comesBefore_68 : decode cX0_comesBefore 68 = .ok (.iconst 1, 1) := by decide +kernel
theorem dX0_comesBefore_69 : decode cX0_comesBefore 69 = .ok (.goto 4, 3) := by decide +kernel
theorem dX0_comesBefore_72 : decode cX0_comesBefore 72 = .ok (.iconst 0, 1) := by decide +kernel
theorem dX0_comesBefore_73 : decode cX0_comesBefore 73 = .ok (.ireturn, 1) := by decide +kernel
theorem dX0_placeRoots_0 : decode cX0_placeRoots 0 = .ok (.aload_n 0, 1) := by decide +kernel
theorem dX0_placeRoots_1 : decode cX0_placeRoots 1 = .ok (.iconst 0, 1) := by decide +kernel
theorem dX0_placeRoots_2 : decode cX0_placeRoots 2 = .ok (.putfield 57, 3) := by decide +kernel
theorem dX0_placeRoots_5 : decode cX0_placeRoots 5 = .ok (.iconst 0, 1) := by decide +kernel
theorem dX0_placeRoots_6 : decode cX0_placeRoots 6 = .ok (.istore_n 1, 1) := by decide +kernel
theorem dX0_placeRoots_7 : decode cX0_placeRoots 7 = .ok (.iload_n 1, 1) := by decide +kernel
theorem dX0_placeRoots_8 : decode cX0_placeRoots 8 = .ok (.bipush 30, 2) := by decide +kernel
theorem dX0_placeRoots_10 : decode cX0_placeRoots 10 = .ok (.if_icmp .ge 43, 3) := by decide +kernel
theorem dX0_placeRoots_13 : decode cX0_placeRoots 13 = .ok (.aload_n 0, 1) := by decide +kernel
theorem dX0_placeRoots_14 : decode cX0_placeRoots 14 = .ok (.getfield 22, 3) := by decide +kernel
theorem dX0_placeRoots_17 : decode cX0_placeRoots 17 = .ok (.iload_n 1, 1) := by decide +kernel
theorem dX0_placeRoots_18 : decode cX0_placeRoots 18 = .ok (.baload, 1) := by decide +kernel
theorem dX0_placeRoots_19 : decode cX0_placeRoots 19 = .ok (.ifCond .eq 28, 3) := by decide +kernel
theorem dX0_placeRoots_22 : decode cX0_placeRoots 22 = .ok (.aload_n 0, 1) := by decide +kernel
theorem dX0_placeRoots_23 : decode cX0_placeRoots 23 = .ok (.getfield 19, 3) := by decide +kernel
theorem dX0_placeRoots_26 : decode cX0_placeRoots 26 = .ok (.iload_n 1, 1) := by decide +kernel
theorem dX0_placeRoots_27 : decode cX0_placeRoots 27 = .ok (.iaload, 1) := by decide +kernel
theorem dX0_placeRoots_28 : decode cX0_placeRoots 28 = .ok (.iconst (-1), 1) := by decide +kernel
theorem dX0_placeRoots_29 : decode cX0_placeRoots 29 = .ok (.if_icmp .ne 18, 3) := by decide +kernel
theorem dX0_placeRoots_32 : decode cX0_placeRoots 32 = .ok (.aload_n 0, 1) := by decide +kernel
theorem dX0_placeRoots_33 : decode cX0_placeRoots 33 = .ok (.iload_n 1, 1) := by decide +kernel
theorem dX0_placeRoots_34 : decode cX0_placeRoots 34 = .ok (.invokevirtual 144, 3) := by decide +kernel
theorem dX0_placeRoots_37 : decode cX0_placeRoots 37 = .ok (.aload_n 0, 1) := by decide +kernel
theorem dX0_placeRoots_38 : decode cX0_placeRoots 38 = .ok (.dup, 1) := by decide +kernel
theorem dX0_placeRoots_39 : decode cX0_placeRoots 39 = .ok (.getfield 57, 3) := by decide +kernel
theorem dX0_placeRoots_42 : decode cX0_placeRoots 42 = .ok (.iconst 1, 1) := by decide +kernel
theorem dX0_placeRoots_43 : decode cX0_placeRoots 43 = .ok (.iadd, 1) := by decide +kernel
theorem dX0_placeRoots_44 : decode cX0_placeRoots 44 = .ok (.putfield 57, 3) := by decide +kernel
theorem dX0_placeRoots_47 : decode cX0_placeRoots 47 = .ok (.iinc 1 1, 3) := by decide +kernel
theorem dX0_placeRoots_50 : decode cX0_placeRoots 50 = .ok (.goto (-43), 3) := by decide +kernel
theorem dX0_placeRoots_53 : decode cX0_placeRoots 53 = .ok (.return_, 1) := by decide +kernel
theorem dX0_placeRoot_0 : decode cX0_placeRoot 0 = .ok (.iconst 0, 1) := by decide +kernel
theorem dX0_placeRoot_1 : decode cX0_placeRoot 1 = .ok (.istore_n 2, 1) := by decide +kernel
theorem dX0_placeRoot_2 : decode cX0_placeRoot 2 = .ok (.iconst 0, 1) := by decide +kernel
theorem dX0_placeRoot_3 : decode cX0_placeRoot 3 = .ok (.istore_n 3, 1) := by decide +kernel
theorem dX0_placeRoot_4 : decode cX0_placeRoot 4 = .ok (.iload_n 3, 1) := by decide +kernel
theorem dX0_placeRoot_5 : decode cX0_placeRoot 5 = .ok (.bipush 30, 2) := by decide +kernel
theorem dX0_placeRoot_7 : decode cX0_placeRoot 7 = .ok (.if_icmp .ge 21, 3) := by decide +kernel
theorem dX0_placeRoot_10 : decode cX0_placeRoot 10 = .ok (.aload_n 0, 1) := by decide +kernel
theorem dX0_placeRoot_11 : decode cX0_placeRoot 11 = .ok (.iload_n 3, 1) := by decide +kernel
theorem dX0_placeRoot_12 : decode cX0_placeRoot 12 = .ok (.iload_n 1, 1) := by decide +kernel
theorem dX0_placeRoot_13 : decode cX0_placeRoot 13 = .ok (.invokevirtual 147, 3) := by decide +kernel
theorem dX0_placeRoot_16 : decode cX0_placeRoot 16 = .ok (.ifCond .eq 6, 3) := by decide +kernel
theorem dX0_placeRoot_19 : decode cX0_placeRoot 19 = .ok (.iinc 2 1, 3) := by decide +kernel
theorem dX0_placeRoot_22 : decode cX0_placeRoot 22 = .ok (.iinc 3 1, 3) := by decide +kernel
theorem dX0_placeRoot_25 : decode cX0_placeRoot 25 = .ok (.goto (-21), 3) := by decide +kernel
theorem dX0_placeRoot_28 : decode cX0_placeRoot 28 = .ok (.iload_n 2, 1) := by decide +kernel
theorem dX0_placeRoot_29 : decode cX0_placeRoot 29 = .ok (.invokestatic 50, 3) := by decide +kernel
theorem dX0_placeRoot_32 : decode cX0_placeRoot 32 = .ok (.ifCond .eq 10, 3) := by decide +kernel
theorem dX0_placeRoot_35 : decode cX0_placeRoot 35 = .ok (.aload_n 0, 1) := by decide +kernel
theorem dX0_placeRoot_36 : decode cX0_placeRoot 36 = .ok (.getfield 43, 3) := by decide +kernel
theorem dX0_placeRoot_39 : decode cX0_placeRoot 39 = .ok (.iload_n 2, 1) := by decide +kernel
theorem dX0_placeRoot_40 : decode cX0_placeRoot 40 = .ok (.iload_n 1, 1) := by decide +kernel
theorem dX0_placeRoot_41 : decode cX0_placeRoot 41 = .ok (.iastore, 1) := by decide +kernel
theorem dX0_placeRoot_42 : decode cX0_placeRoot 42 = .ok (.return_, 1) := by decide +kernel
theorem dX0_placeTrees_0 : decode cX0_placeTrees 0 = .ok (.iconst 0, 1) := by decide +kernel
theorem dX0_placeTrees_1 : decode cX0_placeTrees 1 = .ok (.istore_n 1, 1) := by decide +kernel
theorem dX0_placeTrees_2 : decode cX0_placeTrees 2 = .ok (.iload_n 1, 1) := by decide +kernel
theorem dX0_placeTrees_3 : decode cX0_placeTrees 3 = .ok (.bipush 30, 2) := by decide +kernel
theorem dX0_placeTrees_5 : decode cX0_placeTrees 5 = .ok (.if_icmp .ge 20, 3) := by decide +kernel
theorem dX0_placeTrees_8 : decode cX0_placeTrees 8 = .ok (.aload_n 0, 1) := by decide +kernel
theorem dX0_placeTrees_9 : decode cX0_placeTrees 9 = .ok (.getfield 34, 3) := by decide +kernel
theorem dX0_placeTrees_12 : decode cX0_placeTrees 12 = .ok (.iload_n 1, 1) := by decide +kernel
theorem dX0_placeTrees_13 : decode cX0_placeTrees 13 = .ok (.aload_n 0, 1) := by decide +kernel
theorem dX0_placeTrees_14 : decode cX0_placeTrees 14 = .ok (.iload_n 1, 1) := by decide +kernel
theorem dX0_placeTrees_15 : decode cX0_placeTrees 15 = .ok (.invokevirtual 150, 3) := by decide +kernel
theorem dX0_placeTrees_18 : decode cX0_placeTrees 18 = .ok (.iastore, 1) := by decide +kernel
theorem dX0_placeTrees_19 : decode cX0_placeTrees 19 = .ok (.iinc 1 1, 3) := by decide +kernel
theorem dX0_placeTrees_22 : decode cX0_placeTrees 22 = .ok (.goto (-20), 3) := by decide +kernel
theorem dX0_placeTrees_25 : decode cX0_placeTrees 25 = .ok (.iconst 0, 1) := by decide +kernel
theorem dX0_placeTrees_26 : decode cX0_placeTrees 26 = .ok (.istore_n 1, 1) := by decide +kernel
theorem dX0_placeTrees_27 : decode cX0_placeTrees 27 = .ok (.iload_n 1, 1) := by decide +kernel
theorem dX0_placeTrees_28 : decode cX0_placeTrees 28 = .ok (.bipush 30, 2) := by decide +kernel
theorem dX0_placeTrees_30 : decode cX0_placeTrees 30 = .ok (.if_icmp .ge 53, 3) := by decide +kernel
theorem dX0_placeTrees_33 : decode cX0_placeTrees 33 = .ok (.aload_n 0, 1) := by decide +kernel
theorem dX0_placeTrees_34 : decode cX0_placeTrees 34 = .ok (.getfield 37, 3) := by decide +kernel
theorem dX0_placeTrees_37 : decode cX0_placeTrees 37 = .ok (.iload_n 1, 1) := by decide +kernel
theorem dX0_placeTrees_38 : decode cX0_placeTrees 38 = .ok (.aload_n 0, 1) := by decide +kernel
theorem dX0_placeTrees_39 : decode cX0_placeTrees 39 = .ok (.iload_n 1, 1) := by decide +kernel
theorem dX0_placeTrees_40 : decode cX0_placeTrees 40 = .ok (.invokevirtual 153, 3) := by decide +kernel
theorem dX0_placeTrees_43 : decode cX0_placeTrees 43 = .ok (.iastore, 1) := by decide +kernel
theorem dX0_placeTrees_44 : decode cX0_placeTrees 44 = .ok (.aload_n 0, 1) := by decide +kernel
theorem dX0_placeTrees_45 : decode cX0_placeTrees 45 = .ok (.getfield 22, 3) := by decide +kernel
theorem dX0_placeTrees_48 : decode cX0_placeTrees 48 = .ok (.iload_n 1, 1) := by decide +kernel
theorem dX0_placeTrees_49 : decode cX0_placeTrees 49 = .ok (.baload, 1) := by decide +kernel
theorem dX0_placeTrees_50 : decode cX0_placeTrees 50 = .ok (.ifCond .eq 27, 3) := by decide +kernel
theorem dX0_placeTrees_53 : decode cX0_placeTrees 53 = .ok (.aload_n 0, 1) := by decide +kernel
theorem dX0_placeTrees_54 : decode cX0_placeTrees 54 = .ok (.getfield 37, 3) := by decide +kernel
theorem dX0_placeTrees_57 : decode cX0_placeTrees 57 = .ok (.iload_n 1, 1) := by decide +kernel
theorem dX0_placeTrees_58 : decode cX0_placeTrees 58 = .ok (.iaload, 1) := by decide +kernel
theorem dX0_placeTrees_59 : decode cX0_placeTrees 59 = .ok (.invokestatic 50, 3) := by decide +kernel
theorem dX0_placeTrees_62 : decode cX0_placeTrees 62 = .ok (.ifCond .eq 15, 3) := by decide +kernel
theorem dX0_placeTrees_65 : decode cX0_placeTrees 65 = .ok (.aload_n 0, 1) := by decide +kernel
theorem dX0_placeTrees_66 : decode cX0_placeTrees 66 = .ok (.getfield 40, 3) := by decide +kernel
theorem dX0_placeTrees_69 : decode cX0_placeTrees 69 = .ok (.aload_n 0, 1) := by decide +kernel
theorem dX0_placeTrees_70 : decode cX0_placeTrees 70 = .ok (.getfield 37, 3) := by decide +kernel
theorem dX0_placeTrees_73 : decode cX0_placeTrees 73 = .ok (.iload_n 1, 1) := by decide +kernel
theorem dX0_placeTrees_74 : decode cX0_placeTrees 74 = .ok (.iaload, 1) := by decide +kernel
theorem dX0_placeTrees_75 : decode cX0_placeTrees 75 = .ok (.iload_n 1, 1) := by decide +kernel
theorem dX0_placeTrees_76 : decode cX0_placeTrees 76 = .ok (.iastore, 1) := by decide +kernel
theorem dX0_placeTrees_77 : decode cX0_placeTrees 77 = .ok (.iinc 1 1, 3) := by decide +kernel
theorem dX0_placeTrees_80 : decode cX0_placeTrees 80 = .ok (.goto (-53), 3) := by decide +kernel
theorem dX0_placeTrees_83 : decode cX0_placeTrees 83 = .ok (.return_, 1) := by decide +kernel
theorem dX0_offsetBehindParent_0 : decode cX0_offsetBehindParent 0 = .ok (.aload_n 0, 1) := by decide +kernel
theorem dX0_offsetBehindParent_1 : decode cX0_offsetBehindParent 1 = .ok (.iload_n 1, 1) := by decide +kernel
theorem dX0_offsetBehindParent_2 : decode cX0_offsetBehindParent 2 = .ok (.invokevirtual 61, 3) := by decide +kernel
theorem dX0_offsetBehindParent_5 : decode cX0_offsetBehindParent 5 = .ok (.iconst (-1), 1) := by decide +kernel
theorem dX0_offsetBehindParent_6 : decode cX0_offsetBehindParent 6 = .ok (.if_icmp .ne 7, 3) := by decide +kernel
theorem dX0_offsetBehindParent_9 : decode cX0_offsetBehindParent 9 = .ok (.iconst 0, 1) := by decide +kernel
theorem dX0_offsetBehindParent_10 : decode cX0_offsetBehindParent 10 = .ok (.goto 4, 3) := by decide +kernel
theorem dX0_offsetBehindParent_13 : decode cX0_offsetBehindParent 13 = .ok (.iconst 1, 1) := by decide +kernel
theorem dX0_offsetBehindParent_14 : decode cX0_offsetBehindParent 14 = .ok (.istore_n 2, 1) := by decide +kernel
theorem dX0_offsetBehindParent_15 : decode cX0_offsetBehindParent 15 = .ok (.iconst 0, 1) := by decide +kernel
theorem dX0_offsetBehindParent_16 : decode cX0_offsetBehindParent 16 = .ok (.istore_n 3, 1) := by decide +kernel
theorem dX0_offsetBehindParent_17 : decode cX0_offsetBehindParent 17 = .ok (.iload_n 3, 1) := by decide +kernel
theorem dX0_offsetBehindParent_18 : decode cX0_offsetBehindParent 18 = .ok (.bipush 30, 2) := by decide +kernel
theorem dX0_offsetBehindParent_20 : decode cX0_offsetBehindParent 20 = .ok (.if_icmp .ge 27, 3) := by decide +kernel
theorem dX0_offsetBehindParent_23 : decode cX0_offsetBehindParent 23 = .ok (.aload_n 0, 1) := by decide +kernel
theorem dX0_offsetBehindParent_24 : decode cX0_offsetBehindParent 24 = .ok (.iload_n 3, 1) := by decide +kernel
theorem dX0_offsetBehindParent_25 : decode cX0_offsetBehindParent 25 = .ok (.iload_n 1, 1) := by decide +kernel
theorem dX0_offsetBehindParent_26 : decode cX0_offsetBehindParent 26 = .ok (.invokevirtual 147, 3) := by decide +kernel
theorem dX0_offsetBehindParent_29 : decode cX0_offsetBehindParent 29 = .ok (.ifCond .eq 12, 3) := by decide +kernel
theorem dX0_offsetBehindParent_32 : decode cX0_offsetBehindParent 32 = .ok (.iload_n 2, 1) := by decide +kernel
theorem dX0_offsetBehindParent_33 : decode cX0_offsetBehindParent 33 = .ok (.aload_n 0, 1) := by decide +kernel
theorem dX0_offsetBehindParent_34 : decode cX0_offsetBehindParent 34 = .ok (.getfield 31, 3) := by decide +kernel
theorem dX0_offsetBehindParent_37 : decode cX0_offsetBehindParent 37 = .ok (.iload_n 3, 1) := by decide +kernel
theorem dX0_offsetBehindParent_38 : decode cX0_offsetBehindParent 38 = .ok (.iaload, 1) := by decide +kernel
theorem dX0_offsetBehindParent_39 : decode cX0_offsetBehindParent 39 = .ok (.iadd, 1) := by decide +kernel
theorem dX0_offsetBehindParent_40 : decode cX0_offsetBehindParent 40 = .ok (.istore_n 2, 1) := by decide +kernel
theorem dX0_offsetBehindParent_41 : decode cX0_offsetBehindParent 41 = .ok (.iinc 3 1, 3) := by decide +kernel
theorem dX0_offsetBehindParent_44 : decode cX0_offsetBehindParent 44 = .ok (.goto (-27), 3) := by decide +kernel
theorem dX0_offsetBehindParent_47 : decode cX0_offsetBehindParent 47 = .ok (.iload_n 2, 1) := by decide +kernel
theorem dX0_offsetBehindParent_48 : decode cX0_offsetBehindParent 48 = .ok (.ireturn, 1) := by decide +kernel
theorem dX0_startInOrder_0 : decode cX0_startInOrder 0 = .ok (.iconst 0, 1) := by decide +kernel
theorem dX0_startInOrder_1 : decode cX0_startInOrder 1 = .ok (.istore_n 2, 1) := by decide +kernel
theorem dX0_startInOrder_2 : decode cX0_startInOrder 2 = .ok (.iload_n 1, 1) := by decide +kernel
theorem dX0_startInOrder_3 : decode cX0_startInOrder 3 = .ok (.istore_n 3, 1) := by decide +kernel
theorem dX0_startInOrder_4 : decode cX0_startInOrder 4 = .ok (.iconst 0, 1) := by decide +kernel
theorem dX0_startInOrder_5 : decode cX0_startInOrder 5 = .ok (.istore 4, 2) := by decide +kernel
theorem dX0_startInOrder_7 : decode cX0_startInOrder 7 = .ok (.iload_n 3, 1) := by decide +kernel
theorem dX0_startInOrder_8 : decode cX0_startInOrder 8 = .ok (.invokestatic 50, 3) := by decide +kernel
theorem dX0_startInOrder_11 : decode cX0_startInOrder 11 = .ok (.ifCond .eq 32, 3) := by decide +kernel
theorem dX0_startInOrder_14 : decode cX0_startInOrder 14 = .ok (.iload 4, 2) := by decide +kernel
theorem dX0_startInOrder_16 : decode cX0_startInOrder 16 = .ok (.bipush 30, 2) := by decide +kernel
theorem dX0_startInOrder_18 : decode cX0_startInOrder 18 = .ok (.if_icmp .ge 25, 3) := by decide +kernel
theorem dX0_startInOrder_21 : decode cX0_startInOrder 21 = .ok (.iload_n 2, 1) := by decide +kernel
theorem dX0_startInOrder_22 : decode cX0_startInOrder 22 = .ok (.aload_n 0, 1) := by decide +kernel
theorem dX0_startInOrder_23 : decode cX0_startInOrder 23 = .ok (.getfield 34, 3) := by decide +kernel
theorem dX0_startInOrder_26 : decode cX0_startInOrder 26 = .ok (.iload_n 3, 1) := by decide +kernel
theorem dX0_startInOrder_27 : decode cX0_startInOrder 27 = .ok (.iaload, 1) := by decide +kernel
theorem dX0_startInOrder_28 : decode cX0_startInOrder 28 = .ok (.iadd, 1) := by decide +kernel
theorem dX0_startInOrder_29 : decode cX0_startInOrder 29 = .ok (.istore_n 2, 1) := by decide +kernel
theorem dX0_startInOrder_30 : decode cX0_startInOrder 30 = .ok (.aload_n 0, 1) := by decide +kernel
theorem dX0_startInOrder_31 : decode cX0_startInOrder 31 = .ok (.getfield 19, 3) := by decide +kernel
theorem dX0_startInOrder_34 : decode cX0_startInOrder 34 = .ok (.iload_n 3, 1) := by decide +kernel
theorem dX0_startInOrder_35 : decode cX0_startInOrder 35 = .ok (.iaload, 1) := by decide +kernel
theorem dX0_startInOrder_36 : decode cX0_startInOrder 36 = .ok (.istore_n 3, 1) := by decide +kernel
theorem dX0_startInOrder_37 : decode cX0_startInOrder 37 = .ok (.iinc 4 1, 3) := by decide +kernel
theorem dX0_startInOrder_40 : decode cX0_startInOrder 40 = .ok (.goto (-33), 3) := by decide +kernel
theorem dX0_startInOrder_43 : decode cX0_startInOrder 43 = .ok (.iload_n 2, 1) := by decide +kernel
theorem dX0_startInOrder_44 : decode cX0_startInOrder 44 = .ok (.ireturn, 1) := by decide +kernel
theorem dX1_init_0 : decode cX1_init 0 = .ok (.aload_n 0, 1) := by decide +kernel
theorem dX1_init_1 : decode cX1_init 1 = .ok (.invokespecial 3, 3) := by decide +kernel
theorem dX1_init_4 : decode cX1_init 4 = .ok (.aload_n 0, 1) := by decide +kernel
theorem dX1_init_5 : decode cX1_init 5 = .ok (.bipush 30, 2) := by decide +kernel
theorem dX1_init_7 : decode cX1_init 7 = .ok (.newarray .boolean, 2) := by decide +kernel
theorem dX1_init_9 : decode cX1_init 9 = .ok (.putfield 9, 3) := by decide +kernel
theorem dX1_init_12 : decode cX1_init 12 = .ok (.aload_n 0, 1) := by decide +kernel
theorem dX1_init_13 : decode cX1_init 13 = .ok (.bipush 30, 2) := by decide +kernel
theorem dX1_init_15 : decode cX1_init 15 = .ok (.newarray .int, 2) := by decide +kernel
theorem dX1_init_17 : decode cX1_init 17 = .ok (.putfield 15, 3) := by decide +kernel
theorem dX1_init_20 : decode cX1_init 20 = .ok (.aload_n 0, 1) := by decide +kernel
theorem dX1_init_21 : decode cX1_init 21 = .ok (.bipush 30, 2) := by decide +kernel
theorem dX1_init_23 : decode cX1_init 23 = .ok (.newarray .int, 2) := by decide +kernel
theorem dX1_init_25 : decode cX1_init 25 = .ok (.putfield 19, 3) := by decide +kernel
theorem dX1_init_28 : decode cX1_init 28 = .ok (.aload_n 0, 1) := by decide +kernel
theorem dX1_init_29 : decode cX1_init 29 = .ok (.bipush 30, 2) := by decide +kernel
theorem dX1_init_31 : decode cX1_init 31 = .ok (.newarray .int, 2) := by decide +kernel
theorem dX1_init_33 : decode cX1_init 33 = .ok (.putfield 22, 3) := by decide +kernel
theorem dX1_init_36 : decode cX1_init 36 = .ok (.aload_n 0, 1) := by decide +kernel
theorem dX1_init_37 : decode cX1_init 37 = .ok (.bipush 30, 2) := by decide +kernel
theorem dX1_init_39 : decode cX1_init 39 = .ok (.newarray .boolean, 2) := by decide +kernel
theorem dX1_init_41 : decode cX1_init 41 = .ok (.putfield 25, 3) := by decide +kernel
theorem dX1_init_44 : decode cX1_init 44 = .ok (.aload_n 0, 1) := by decide +kernel
theorem dX1_init_45 : decode cX1_init 45 = .ok (.bipush 30, 2) := by decide +kernel
theorem dX1_init_47 : decode cX1_init 47 = .ok (.newarray .int, 2) := by decide +kernel
theorem dX1_init_49 : decode cX1_init 49 = .ok (.putfield 28, 3) := by decide +kernel
theorem dX1_init_52 : decode cX1_init 52 = .ok (.aload_n 0, 1) := by decide +kernel
theorem dX1_init_53 : decode cX1_init 53 = .ok (.bipush 30, 2) := by decide +kernel
theorem dX1_init_55 : decode cX1_init 55 = .ok (.newarray .int, 2) := by decide +kernel
theorem dX1_init_57 : decode cX1_init 57 = .ok (.putfield 31, 3) := by decide +kernel
theorem dX1_init_60 : decode cX1_init 60 = .ok (.aload_n 0, 1) := by decide +kernel
theorem dX1_init_61 : decode cX1_init 61 = .ok (.bipush 30, 2) := by decide +kernel
theorem dX1_init_63 : decode cX1_init 63 = .ok (.newarray .boolean, 2) := by decide +kernel
theorem dX1_init_65 : decode cX1_init 65 = .ok (.putfield 34, 3) := by decide +kernel
theorem dX1_init_68 : decode cX1_init 68 = .ok (.aload_n 0, 1) := by decide +kernel
theorem dX1_init_69 : decode cX1_init 69 = .ok (.bipush 30, 2) := by decide +kernel
theorem dX1_init_71 : decode cX1_init 71 = .ok (.newarray .int, 2) := by decide +kernel
theorem dX1_init_73 : decode cX1_init 73 = .ok (.putfield 37, 3) := by decide +kernel
theorem dX1_init_76 : decode cX1_init 76 = .ok (.return_, 1) := by decide +kernel
theorem dX1_holds_0 : decode cX1_holds 0 = .ok (.iload_n 1, 1) := by decide +kernel
theorem dX1_holds_1 : decode cX1_holds 1 = .ok (.ifCond .lt 22, 3) := by decide +kernel
theorem dX1_holds_4 : decode cX1_holds 4 = .ok (.iload_n 1, 1) := by decide +kernel
theorem dX1_holds_5 : decode cX1_holds 5 = .ok (.bipush 30, 2) := by decide +kernel
theorem dX1_holds_7 : decode cX1_holds 7 = .ok (.if_icmp .ge 16, 3) := by decide +kernel
theorem dX1_holds_10 : decode cX1_holds 10 = .ok (.aload_n 0, 1) := by decide +kernel
theorem dX1_holds_11 : decode cX1_holds 11 = .ok (.getfield 9, 3) := by decide +kernel
theorem dX1_holds_14 : decode cX1_holds 14 = .ok (.iload_n 1, 1) := by decide +kernel
theorem dX1_holds_15 : decode cX1_holds 15 = .ok (.baload, 1) := by decide +kernel
theorem dX1_holds_16 : decode cX1_holds 16 = .ok (.ifCond .eq 7, 3) := by decide +kernel
theorem dX1_holds_19 : decode cX1_holds 19 = .ok (.iconst 1, 1) := by decide +kernel
theorem dX1_holds_20 : decode cX1_holds 20 = .ok (.goto 4, 3) := by decide +kernel
theorem dX1_holds_23 : decode cX1_holds 23 = .ok (.iconst 0, 1) := by decide +kernel
theorem dX1_holds_24 : decode cX1_holds 24 = .ok (.ireturn, 1) := by decide +kernel
theorem dX1_put_0 : decode cX1_put 0 = .ok (.iload_n 1, 1) := by decide +kernel
theorem dX1_put_1 : decode cX1_put 1 = .ok (.invokestatic 40, 3) := by decide +kernel
theorem dX1_put_4 : decode cX1_put 4 = .ok (.ifCond .ne 4, 3) := by decide +kernel
theorem dX1_put_7 : decode cX1_put 7 = .ok (.return_, 1) := by decide +kernel
theorem dX1_put_8 : decode cX1_put 8 = .ok (.aload_n 0, 1) := by decide +kernel
theorem dX1_put_9 : decode cX1_put 9 = .ok (.getfield 9, 3) := by decide +kernel
theorem dX1_put_12 : decode cX1_put 12 = .ok (.iload_n 1, 1) := by decide +kernel
theorem dX1_put_13 : decode cX1_put 13 = .ok (.iconst 1, 1) := by decide +kernel
theorem dX1_put_14 : decode cX1_put 14 = .ok (.bastore, 1) := by decide +kernel
theorem dX1_put_15 : decode cX1_put 15 = .ok (.aload_n 0, 1) := by decide +kernel
theorem dX1_put_16 : decode cX1_put 16 = .ok (.getfield 15, 3) := by decide +kernel
theorem dX1_put_19 : decode cX1_put 19 = .ok (.iload_n 1, 1) := by decide +kernel
theorem dX1_put_20 : decode cX1_put 20 = .ok (.iload_n 2, 1) := by decide +kernel
theorem dX1_put_21 : decode cX1_put 21 = .ok (.iastore, 1) := by decide +kernel
theorem dX1_put_22 : decode cX1_put 22 = .ok (.aload_n 0, 1) := by decide +kernel
theorem dX1_put_23 : decode cX1_put 23 = .ok (.getfield 19, 3) := by decide +kernel
theorem dX1_put_26 : decode cX1_put 26 = .ok (.iload_n 1, 1) := by decide +kernel
theorem dX1_put_27 : decode cX1_put 27 = .ok (.iload_n 3, 1) := by decide +kernel
theorem dX1_put_28 : decode cX1_put 28 = .ok (.iastore, 1) := by decide +kernel
theorem dX1_put_29 : decode cX1_put 29 = .ok (.aload_n 0, 1) := by decide +kernel
theorem dX1_put_30 : decode cX1_put 30 = .ok (.getfield 25, 3) := by decide +kernel
theorem dX1_put_33 : decode cX1_put 33 = .ok (.iload_n 1, 1) := by decide +kernel
theorem dX1_put_34 : decode cX1_put 34 = .ok (.iload 4, 2) := by decide +kernel
theorem dX1_put_36 : decode cX1_put 36 = .ok (.bipush 10, 2) := by decide +kernel
theorem dX1_put_38 : decode cX1_put 38 = .ok (.if_icmp .lt 7, 3) := by decide +kernel
theorem dX1_put_41 : decode cX1_put 41 = .ok (.iconst 1, 1) := by decide +kernel
theorem dX1_put_42 : decode cX1_put 42 = .ok (.goto 4, 3) := by decide +kernel
theorem dX1_put_45 : decode cX1_put 45 = .ok (.iconst 0, 1) := by decide +kernel
theorem dX1_put_46 : decode cX1_put 46 = .ok (.bastore, 1) := by decide +kernel
theorem dX1_put_47 : decode cX1_put 47 = .ok (.aload_n 0, 1) := by decide +kernel
theorem dX1_put_48 : decode cX1_put 48 = .ok (.getfield 22, 3) := by decide +kernel
theorem dX1_put_51 : decode cX1_put 51 = .ok (.iload_n 1, 1) := by decide +kernel
theorem dX1_put_52 : decode cX1_put 52 = .ok (.aload_n 0, 1) := by decide +kernel
theorem dX1_put_53 : decode cX1_put 53 = .ok (.getfield 25, 3) := by decide +kernel
theorem dX1_put_56 : decode cX1_put 56 = .ok (.iload_n 1, 1) := by decide +kernel
theorem dX1_put_57 : decode cX1_put 57 = .ok (.baload, 1) := by decide +kernel
theorem dX1_put_58 : decode cX1_put 58 = .ok (.ifCond .eq 11, 3) := by decide +kernel
theorem dX1_put_61 : decode cX1_put 61 = .ok (.iload 4, 2) := by decide +kernel
theorem dX1_put_63 : decode cX1_put 63 = .ok (.bipush 10, 2) := by decide +kernel
theorem dX1_put_65 : decode cX1_put 65 = .ok (.isub, 1) := by decide +kernel
theorem dX1_put_66 : decode cX1_put 66 = .ok (.goto 5, 3) := by decide +kernel
theorem dX1_put_69 : decode cX1_put 69 = .ok (.iload 4, 2) := by decide +kernel
theorem dX1_put_71 : decode cX1_put 71 = .ok (.iastore, 1) := by decide +kernel
theorem dX1_put_72 : decode cX1_put 72 = .ok (.aload_n 0, 1) := by decide +kernel
theorem dX1_put_73 : decode cX1_put 73 = .ok (.getfield 28, 3) := by decide +kernel
theorem dX1_put_76 : decode cX1_put 76 = .ok (.iload_n 1, 1) := by decide +kernel
theorem dX1_put_77 : decode cX1_put 77 = .ok (.iload 5, 2) := by decide +kernel
theorem dX1_put_79 : decode cX1_put 79 = .ok (.iastore, 1) := by decide +kernel
theorem dX1_put_80 : decode cX1_put 80 = .ok (.aload_n 0, 1) := by decide +kernel
theorem dX1_put_81 : decode cX1_put 81 = .ok (.getfield 31, 3) := by decide +kernel
theorem dX1_put_84 : decode cX1_put 84 = .ok (.iload_n 1, 1) := by decide +kernel
theorem dX1_put_85 : decode cX1_put 85 = .ok (.iload 6, 2) := by decide +kernel
theorem dX1_put_87 : decode cX1_put 87 = .ok (.iastore, 1) := by decide +kernel
theorem dX1_put_88 : decode cX1_put 88 = .ok (.aload_n 0, 1) := by decide +kernel
theorem dX1_put_89 : decode cX1_put 89 = .ok (.getfield 34, 3) := by decide +kernel
theorem dX1_put_92 : decode cX1_put 92 = .ok (.iload_n 1, 1) := by decide +kernel
theorem dX1_put_93 : decode cX1_put 93 = .ok (.iconst 1, 1) := by decide +kernel
theorem dX1_put_94 : decode cX1_put 94 = .ok (.bastore, 1) := by decide +kernel
theorem dX1_put_95 : decode cX1_put 95 = .ok (.aload_n 0, 1) := by decide +kernel
theorem dX1_put_96 : decode cX1_put 96 = .ok (.getfield 37, 3) := by decide +kernel
theorem dX1_put_99 : decode cX1_put 99 = .ok (.iload_n 1, 1) := by decide +kernel
theorem dX1_put_100 : decode cX1_put 100 = .ok (.iconst (-1), 1) := by decide +kernel
theorem dX1_put_101 : decode cX1_put 101 = .ok (.iastore, 1) := by decide +kernel
theorem dX1_put_102 : decode cX1_put 102 = .ok (.return_, 1) := by decide +kernel
theorem dX1_drop_0 : decode cX1_drop 0 = .ok (.iload_n 1, 1) := by decide +kernel
theorem dX1_drop_1 : decode cX1_drop 1 = .ok (.invokestatic 40, 3) := by decide +kernel
theorem dX1_drop_4 : decode cX1_drop 4 = .ok (.ifCond .eq 10, 3) := by decide +kernel
theorem dX1_drop_7 : decode cX1_drop 7 = .ok (.aload_n 0, 1) := by decide +kernel
theorem dX1_drop_8 : decode cX1_drop 8 = .ok (.getfield 9, 3) := by decide +kernel
theorem dX1_drop_11 : decode cX1_drop 11 = .ok (.iload_n 1, 1) := by decide +kernel
theorem dX1_drop_12 : decode cX1_drop 12 = .ok (.iconst 0, 1) := by decide +kernel
theorem dX1_drop_13 : decode cX1_drop 13 = .ok (.bastore, 1) := by decide +kernel
theorem dX1_drop_14 : decode cX1_drop 14 = .ok (.return_, 1) := by decide +kernel
theorem dX1_setHand_0 : decode cX1_setHand 0 = .ok (.aload_n 0, 1) := by decide +kernel
theorem dX1_setHand_1 : decode cX1_setHand 1 = .ok (.iload_n 1, 1) := by decide +kernel
theorem dX1_setHand_2 : decode cX1_setHand 2 = .ok (.invokevirtual 44, 3) := by decide +kernel
theorem dX1_setHand_5 : decode cX1_setHand 5 = .ok (.ifCond .eq 10, 3) := by decide +kernel
theorem dX1_setHand_8 : decode cX1_setHand 8 = .ok (.aload_n 0, 1) := by decide +kernel
theorem dX1_setHand_9 : decode cX1_setHand 9 = .ok (.getfield 37, 3) := by decide +kernel
theorem dX1_setHand_12 : decode cX1_setHand 12 = .ok (.iload_n 1, 1) := by decide +kernel
theorem dX1_setHand_13 : decode cX1_setHand 13 = .ok (.iload_n 2, 1) := by decide +kernel
theorem dX1_setHand_14 : decode cX1_setHand 14 = .ok (.iastore, 1) := by decide +kernel
theorem dX1_setHand_15 : decode cX1_setHand 15 = .ok (.return_, 1) := by decide +kernel
theorem dX1_handOf_0 : decode cX1_handOf 0 = .ok (.aload_n 0, 1) := by decide +kernel
theorem dX1_handOf_1 : decode cX1_handOf 1 = .ok (.iload_n 1, 1) := by decide +kernel
theorem dX1_handOf_2 : decode cX1_handOf 2 = .ok (.invokevirtual 44, 3) := by decide +kernel
theorem dX1_handOf_5 : decode cX1_handOf 5 = .ok (.ifCond .eq 12, 3) := by decide +kernel
theorem dX1_handOf_8 : decode cX1_handOf 8 = .ok (.aload_n 0, 1) := by decide +kernel
theorem dX1_handOf_9 : decode cX1_handOf 9 = .ok (.getfield 37, 3) := by decide +kernel
theorem dX1_handOf_12 : decode cX1_handOf 12 = .ok (.iload_n 1, 1) := by decide +kernel
theorem dX1_handOf_13 : decode cX1_handOf 13 = .ok (.iaload, 1) := by decide +kernel
theorem dX1_handOf_14 : decode cX1_handOf 14 = .ok (.goto 4, 3) := by decide +kernel
theorem dX1_handOf_17 : decode cX1_handOf 17 = .ok (.iconst (-1), 1) := by decide +kernel
theorem dX1_handOf_18 : decode cX1_handOf 18 = .ok (.ireturn, 1) := by decide +kernel
theorem dX1_writerBit_0 : decode cX1_writerBit 0 = .ok (.aload_n 0, 1) := by decide +kernel
theorem dX1_writerBit_1 : decode cX1_writerBit 1 = .ok (.iload_n 1, 1) := by decide +kernel
theorem dX1_writerBit_2 : decode cX1_writerBit 2 = .ok (.invokevirtual 44, 3) := by decide +kernel
theorem dX1_writerBit_5 : decode cX1_writerBit 5 = .ok (.ifCond .eq 14, 3) := by decide +kernel
theorem dX1_writerBit_8 : decode cX1_writerBit 8 = .ok (.iconst 1, 1) := by decide +kernel
theorem dX1_writerBit_9 : decode cX1_writerBit 9 = .ok (.aload_n 0, 1) := by decide +kernel
theorem dX1_writerBit_10 : decode cX1_writerBit 10 = .ok (.getfield 31, 3) := by decide +kernel
theorem dX1_writerBit_13 : decode cX1_writerBit 13 = .ok (.iload_n 1, 1) := by decide +kernel
theorem dX1_writerBit_14 : decode cX1_writerBit 14 = .ok (.iaload, 1) := by decide +kernel
theorem dX1_writerBit_15 : decode cX1_writerBit 15 = .ok (.ishl, 1) := by decide +kernel
theorem dX1_writerBit_16 : decode cX1_writerBit 16 = .ok (.goto 4, 3) := by decide +kernel
theorem dX1_writerBit_19 : decode cX1_writerBit 19 = .ok (.iconst 0, 1) := by decide +kernel
theorem dX1_writerBit_20 : decode cX1_writerBit 20 = .ok (.ireturn, 1) := by decide +kernel
theorem dX1_dayOf_0 : decode cX1_dayOf 0 = .ok (.aload_n 0, 1) := by decide +kernel
theorem dX1_dayOf_1 : decode cX1_dayOf 1 = .ok (.iload_n 1, 1) := by decide +kernel
theorem dX1_dayOf_2 : decode cX1_dayOf 2 = .ok (.invokevirtual 44, 3) := by decide +kernel
theorem dX1_dayOf_5 : decode cX1_dayOf 5 = .ok (.ifCond .eq 12, 3) := by decide +kernel
theorem dX1_dayOf_8 : decode cX1_dayOf 8 = .ok (.aload_n 0, 1) := by decide +kernel
theorem dX1_dayOf_9 : decode cX1_dayOf 9 = .ok (.getfield 28, 3) := by decide +kernel
theorem dX1_dayOf_12 : decode cX1_dayOf 12 = .ok (.iload_n 1, 1) := by decide +kernel
theorem dX1_dayOf_13 : decode cX1_dayOf 13 = .ok (.iaload, 1) := by decide +kernel
theorem dX1_dayOf_14 : decode cX1_dayOf 14 = .ok (.goto 6, 3) := by decide +kernel
theorem dX1_dayOf_17 : decode cX1_dayOf 17 = .ok (.sipush 1000, 3) := by decide +kernel
theorem dX1_dayOf_20 : decode cX1_dayOf 20 = .ok (.ireturn, 1) := by decide +kernel
theorem dX1_parentToldBy_0 : decode cX1_parentToldBy 0 = .ok (.aload_n 0, 1) := by decide +kernel
theorem dX1_parentToldBy_1 : decode cX1_parentToldBy 1 = .ok (.iload_n 1, 1) := by decide +kernel
theorem dX1_parentToldBy_2 : decode cX1_parentToldBy 2 = .ok (.invokevirtual 44, 3) := by decide +kernel
theorem dX1_parentToldBy_5 : decode cX1_parentToldBy 5 = .ok (.ifCond .eq 12, 3) := by decide +kernel
theorem dX1_parentToldBy_8 : decode cX1_parentToldBy 8 = .ok (.aload_n 0, 1) := by decide +kernel
theorem dX1_parentToldBy_9 : decode cX1_parentToldBy 9 = .ok (.getfield 19, 3) := by decide +kernel
theorem dX1_parentToldBy_12 : decode cX1_parentToldBy 12 = .ok (.iload_n 1, 1) := by decide +kernel
theorem dX1_parentToldBy_13 : decode cX1_parentToldBy 13 = .ok (.iaload, 1) := by decide +kernel
theorem dX1_parentToldBy_14 : decode cX1_parentToldBy 14 = .ok (.goto 4, 3) := by decide +kernel
theorem dX1_parentToldBy_17 : decode cX1_parentToldBy 17 = .ok (.iconst (-1), 1) := by decide +kernel
theorem dX1_parentToldBy_18 : decode cX1_parentToldBy 18 = .ok (.ireturn, 1) := by decide +kernel
theorem dX1_grandparentToldBy_0 : decode cX1_grandparentToldBy 0 = .ok (.aload_n 0, 1) := by decide +kernel
theorem dX1_grandparentToldBy_1 : decode cX1_grandparentToldBy 1 = .ok (.iload_n 1, 1) := by decide +kernel
theorem dX1_grandparentToldBy_2 : decode cX1_grandparentToldBy 2 = .ok (.invokevirtual 44, 3) := by decide +kernel
theorem dX1_grandparentToldBy_5 : decode cX1_grandparentToldBy 5 = .ok (.ifCond .eq 12, 3) := by decide +kernel
theorem dX1_grandparentToldBy_8 : decode cX1_grandparentToldBy 8 = .ok (.aload_n 0, 1) := by decide +kernel
theorem dX1_grandparentToldBy_9 : decode cX1_grandparentToldBy 9 = .ok (.getfield 15, 3) := by decide +kernel
theorem dX1_grandparentToldBy_12 : decode cX1_grandparentToldBy 12 = .ok (.iload_n 1, 1) := by decide +kernel
theorem dX1_grandparentToldBy_13 : decode cX1_grandparentToldBy 13 = .ok (.iaload, 1) := by decide +kernel
theorem dX1_grandparentToldBy_14 : decode cX1_grandparentToldBy 14 = .ok (.goto 4, 3) := by decide +kernel
theorem dX1_grandparentToldBy_17 : decode cX1_grandparentToldBy 17 = .ok (.iconst (-1), 1) := by decide +kernel
theorem dX1_grandparentToldBy_18 : decode cX1_grandparentToldBy 18 = .ok (.ireturn, 1) := by decide +kernel
theorem dX1_toldParentOf_0 : decode cX1_toldParentOf 0 = .ok (.aload_n 0, 1) := by decide +kernel
theorem dX1_toldParentOf_1 : decode cX1_toldParentOf 1 = .ok (.iload_n 1, 1) := by decide +kernel
theorem dX1_toldParentOf_2 : decode cX1_toldParentOf 2 = .ok (.invokevirtual 44, 3) := by decide +kernel
theorem dX1_toldParentOf_5 : decode cX1_toldParentOf 5 = .ok (.ifCond .ne 9, 3) := by decide +kernel
theorem dX1_toldParentOf_8 : decode cX1_toldParentOf 8 = .ok (.aload_n 0, 1) := by decide +kernel
theorem dX1_toldParentOf_9 : decode cX1_toldParentOf 9 = .ok (.iload_n 1, 1) := by decide +kernel
theorem dX1_toldParentOf_10 : decode cX1_toldParentOf 10 = .ok (.invokevirtual 50, 3) := by decide +kernel
theorem dX1_toldParentOf_13 : decode cX1_toldParentOf 13 = .ok (.ireturn, 1) := by decide +kernel
theorem dX1_toldParentOf_14 : decode cX1_toldParentOf 14 = .ok (.aload_n 0, 1) := by decide +kernel
theorem dX1_toldParentOf_15 : decode cX1_toldParentOf 15 = .ok (.iload_n 1, 1) := by decide +kernel
theorem dX1_toldParentOf_16 : decode cX1_toldParentOf 16 = .ok (.invokevirtual 54, 3) := by decide +kernel
theorem dX1_toldParentOf_19 : decode cX1_toldParentOf 19 = .ok (.istore_n 2, 1) := by decide +kernel
theorem dX1_toldParentOf_20 : decode cX1_toldParentOf 20 = .ok (.iload_n 2, 1) := by decide +kernel
theorem dX1_toldParentOf_21 : decode cX1_toldParentOf 21 = .ok (.iconst (-1), 1) := by decide +kernel
theorem dX1_toldParentOf_22 : decode cX1_toldParentOf 22 = .ok (.if_icmp .ne 9, 3) := by decide +kernel
theorem dX1_toldParentOf_25 : decode cX1_toldParentOf 25 = .ok (.aload_n 0, 1) := by decide +kernel
theorem dX1_toldParentOf_26 : decode cX1_toldParentOf 26 = .ok (.iload_n 1, 1) := by decide +kernel
theorem dX1_toldParentOf_27 : decode cX1_toldParentOf 27 = .ok (.invokevirtual 57, 3) := by decide +kernel
theorem dX1_toldParentOf_30 : decode cX1_toldParentOf 30 = .ok (.ireturn, 1) := by decide +kernel
theorem dX1_toldParentOf_31 : decode cX1_toldParentOf 31 = .ok (.iload_n 2, 1) := by decide +kernel
theorem dX1_toldParentOf_32 : decode cX1_toldParentOf 32 = .ok (.bipush (-2), 2) := by decide +kernel
theorem dX1_toldParentOf_34 : decode cX1_toldParentOf 34 = .ok (.if_icmp .ne 7, 3) := by decide +kernel
theorem dX1_toldParentOf_37 : decode cX1_toldParentOf 37 = .ok (.iconst (-1), 1) := by decide +kernel
theorem dX1_toldParentOf_38 : decode cX1_toldParentOf 38 = .ok (.goto 4, 3) := by decide +kernel
theorem dX1_toldParentOf_41 : decode cX1_toldParentOf 41 = .ok (.iload_n 2, 1) := by decide +kernel
theorem dX1_toldParentOf_42 : decode cX1_toldParentOf 42 = .ok (.ireturn, 1) := by decide +kernel
theorem dX1_guessedParentOf_0 : decode cX1_guessedParentOf 0 = .ok (.iconst 0, 1) := by decide +kernel
theorem dX1_guessedParentOf_1 : decode cX1_guessedParentOf 1 = .ok (.istore_n 2, 1) := by decide +kernel
theorem dX1_guessedParentOf_2 : decode cX1_guessedParentOf 2 = .ok (.iload_n 2, 1) := by decide +kernel
theorem dX1_guessedParentOf_3 : decode cX1_guessedParentOf 3 = .ok (.bipush 30, 2) := by decide +kernel
theorem dX1_guessedParentOf_5 : decode cX1_guessedParentOf 5 = .ok (.if_icmp .ge 33, 3) := by decide +kernel
theorem dX1_guessedParentOf_8 : decode cX1_guessedParentOf 8 = .ok (.aload_n 0, 1) := by decide +kernel
theorem dX1_guessedParentOf_9 : decode cX1_guessedParentOf 9 = .ok (.iload_n 2, 1) := by decide +kernel
theorem dX1_guessedParentOf_10 : decode cX1_guessedParentOf 10 = .ok (.invokevirtual 57, 3) := by decide +kernel
theorem dX1_guessedParentOf_13 : decode cX1_guessedParentOf 13 = .ok (.iload_n 1, 1) := by decide +kernel
theorem dX1_guessedParentOf_14 : decode cX1_guessedParentOf 14 = .ok (.if_icmp .ne 18, 3) := by decide +kernel
theorem dX1_guessedParentOf_17 : decode cX1_guessedParentOf 17 = .ok (.aload_n 0, 1) := by decide +kernel
theorem dX1_guessedParentOf_18 : decode cX1_guessedParentOf 18 = .ok (.iload_n 2, 1) := by decide +kernel
theorem dX1_guessedParentOf_19 : decode cX1_guessedParentOf 19 = .ok (.invokevirtual 60, 3) := by decide +kernel
theorem dX1_guessedParentOf_22 : decode cX1_guessedParentOf 22 = .ok (.iconst (-1), 1) := by decide +kernel
theorem dX1_guessedParentOf_23 : decode cX1_guessedParentOf 23 = .ok (.if_icmp .eq 9, 3) := by decide +kernel
theorem dX1_guessedParentOf_26 : decode cX1_guessedParentOf 26 = .ok (.aload_n 0, 1) := by decide +kernel
theorem dX1_guessedParentOf_27 : decode cX1_guessedParentOf 27 = .ok (.iload_n 2, 1) := by decide +kernel
theorem dX1_guessedParentOf_28 : decode cX1_guessedParentOf 28 = .ok (.invokevirtual 60, 3) := by decide +kernel
theorem dX1_guessedParentOf_31 : decode cX1_guessedParentOf 31 = .ok (.ireturn, 1) := by decide +kernel
theorem dX1_guessedParentOf_32 : decode cX1_guessedParentOf 32 = .ok (.iinc 2 1, 3) := by decide +kernel
theorem dX1_guessedParentOf_35 : decode cX1_guessedParentOf 35 = .ok (.goto (-33), 3) := by decide +kernel
theorem dX1_guessedParentOf_38 : decode cX1_guessedParentOf 38 = .ok (.iconst (-1), 1) := by decide +kernel
theorem dX1_guessedParentOf_39 : decode cX1_guessedParentOf 39 = .ok (.ireturn, 1) := by decide +kernel
theorem dX1_isReply_0 : decode cX1_isReply 0 = .ok (.aload_n 0, 1) := by decide +kernel
theorem dX1_isReply_1 : decode cX1_isReply 1 = .ok (.iload_n 1, 1) := by decide +kernel
theorem dX1_isReply_2 : decode cX1_isReply 2 = .ok (.invokevirtual 44, 3) := by decide +kernel
theorem dX1_isReply_5 : decode cX1_isReply 5 = .ok (.ifCond .eq 16, 3) := by decide +kernel
theorem dX1_isReply_8 : decode cX1_isReply 8 = .ok (.aload_n 0, 1) := by decide +kernel
theorem dX1_isReply_9 : decode cX1_isReply 9 = .ok (.getfield 25, 3) := by decide +kernel
theorem dX1_isReply_12 : decode cX1_isReply 12 = .ok (.iload_n 1, 1) := by decide +kernel
theorem dX1_isReply_13 : decode cX1_isReply 13 = .ok (.baload, 1) := by decide +kernel
theorem dX1_isReply_14 : decode cX1_isReply 14 = .ok (.ifCond .eq 7, 3) := by decide +kernel
theorem dX1_isReply_17 : decode cX1_isReply 17 = .ok (.iconst 1, 1) := by decide +kernel
theorem dX1_isReply_18 : decode cX1_isReply 18 = .ok (.goto 4, 3) := by decide +kernel
theorem dX1_isReply_21 : decode cX1_isReply 21 = .ok (.iconst 0, 1) := by decide +kernel
theorem dX1_isReply_22 : decode cX1_isReply 22 = .ok (.ireturn, 1) := by decide +kernel
theorem dX1_isAnsweredBy_0 : decode cX1_isAnsweredBy 0 = .ok (.aload_n 0, 1) := by decide +kernel
theorem dX1_isAnsweredBy_1 : decode cX1_isAnsweredBy 1 = .ok (.iload_n 1, 1) := by decide +kernel
theorem dX1_isAnsweredBy_2 : decode cX1_isAnsweredBy 2 = .ok (.invokevirtual 44, 3) := by decide +kernel
theorem dX1_isAnsweredBy_5 : decode cX1_isAnsweredBy 5 = .ok (.ifCond .eq 29, 3) := by decide +kernel
theorem dX1_isAnsweredBy_8 : decode cX1_isAnsweredBy 8 = .ok (.aload_n 0, 1) := by decide +kernel
theorem dX1_isAnsweredBy_9 : decode cX1_isAnsweredBy 9 = .ok (.iload_n 2, 1) := by decide +kernel
theorem dX1_isAnsweredBy_10 : decode cX1_isAnsweredBy 10 = .ok (.invokevirtual 44, 3) := by decide +kernel
theorem dX1_isAnsweredBy_13 : decode cX1_isAnsweredBy 13 = .ok (.ifCond .eq 21, 3) := by decide +kernel
theorem dX1_isAnsweredBy_16 : decode cX1_isAnsweredBy 16 = .ok (.aload_n 0, 1) := by decide +kernel
theorem dX1_isAnsweredBy_17 : decode cX1_isAnsweredBy 17 = .ok (.getfield 25, 3) := by decide +kernel
theorem dX1_isAnsweredBy_20 : decode cX1_isAnsweredBy 20 = .ok (.iload_n 1, 1) := by decide +kernel
theorem dX1_isAnsweredBy_21 : decode cX1_isAnsweredBy 21 = .ok (.baload, 1) := by decide +kernel
theorem dX1_isAnsweredBy_22 : decode cX1_isAnsweredBy 22 = .ok (.ifCond .ne 12, 3) := by decide +kernel
theorem dX1_isAnsweredBy_25 : decode cX1_isAnsweredBy 25 = .ok (.aload_n 0, 1) := by decide +kernel
theorem dX1_isAnsweredBy_26 : decode cX1_isAnsweredBy 26 = .ok (.getfield 25, 3) := by decide +kernel
theorem dX1_isAnsweredBy_29 : decode cX1_isAnsweredBy 29 = .ok (.iload_n 2, 1) := by decide +kernel
theorem dX1_isAnsweredBy_30 : decode cX1_isAnsweredBy 30 = .ok (.baload, 1) := by decide +kernel
theorem dX1_isAnsweredBy_31 : decode cX1_isAnsweredBy 31 = .ok (.ifCond .ne 5, 3) := by decide +kernel
theorem dX1_isAnsweredBy_34 : decode cX1_isAnsweredBy 34 = .ok (.iconst 0, 1) := by decide +kernel
theorem dX1_isAnsweredBy_35 : decode cX1_isAnsweredBy 35 = .ok (.ireturn, 1) := by decide +kernel
theorem dX1_isAnsweredBy_36 : decode cX1_isAnsweredBy 36 = .ok (.aload_n 0, 1) := by decide +kernel
theorem dX1_isAnsweredBy_37 : decode cX1_isAnsweredBy 37 = .ok (.getfield 28, 3) := by decide +kernel
theorem dX1_isAnsweredBy_40 : decode cX1_isAnsweredBy 40 = .ok (.iload_n 2, 1) := by decide +kernel
theorem dX1_isAnsweredBy_41 : decode cX1_isAnsweredBy 41 = .ok (.iaload, 1) := by decide +kernel
theorem dX1_isAnsweredBy_42 : decode cX1_isAnsweredBy 42 = .ok (.aload_n 0, 1) := by decide +kernel
theorem dX1_isAnsweredBy_43 : decode cX1_isAnsweredBy 43 = .ok (.getfield 28, 3) := by decide +kernel
theorem dX1_isAnsweredBy_46 : decode cX1_isAnsweredBy 46 = .ok (.iload_n 1, 1) := by decide +kernel
theorem dX1_isAnsweredBy_47 : decode cX1_isAnsweredBy 47 = .ok (.iaload, 1) := by decide +kernel
theorem dX1_isAnsweredBy_48 : decode cX1_isAnsweredBy 48 = .ok (.isub, 1) := by decide +kernel
theorem dX1_isAnsweredBy_49 : decode cX1_isAnsweredBy 49 = .ok (.istore_n 3, 1) := by decide +kernel
theorem dX1_isAnsweredBy_50 : decode cX1_isAnsweredBy 50 = .ok (.aload_n 0, 1) := by decide +kernel
theorem dX1_isAnsweredBy_51 : decode cX1_isAnsweredBy 51 = .ok (.getfield 22, 3) := by decide +kernel
theorem dX1_isAnsweredBy_54 : decode cX1_isAnsweredBy 54 = .ok (.iload_n 1, 1) := by decide +kernel
theorem dX1_isAnsweredBy_55 : decode cX1_isAnsweredBy 55 = .ok (.iaload, 1) := by decide +kernel
theorem dX1_isAnsweredBy_56 : decode cX1_isAnsweredBy 56 = .ok (.aload_n 0, 1) := by decide +kernel
theorem dX1_isAnsweredBy_57 : decode cX1_isAnsweredBy 57 = .ok (.getfield 22, 3) := by decide +kernel
theorem dX1_isAnsweredBy_60 : decode cX1_isAnsweredBy 60 = .ok (.iload_n 2, 1) := by decide +kernel
theorem dX1_isAnsweredBy_61 : decode cX1_isAnsweredBy 61 = .ok (.iaload, 1) := by decide +kernel
theorem dX1_isAnsweredBy_62 : decode cX1_isAnsweredBy 62 = .ok (.if_icmp .ne 17, 3) := by decide +kernel
theorem dX1_isAnsweredBy_65 : decode cX1_isAnsweredBy 65 = .ok (.iload_n 3, 1) := by decide +kernel
theorem dX1_isAnsweredBy_66 : decode cX1_isAnsweredBy 66 = .ok (.ifCond .lt 13, 3) := by decide +kernel
theorem dX1_isAnsweredBy_69 : decode cX1_isAnsweredBy 69 = .ok (.iload_n 3, 1) := by decide +kernel
theorem dX1_isAnsweredBy_70 : decode cX1_isAnsweredBy 70 = .ok (.bipush 14, 2) := by decide +kernel
theorem dX1_isAnsweredBy_72 : decode cX1_isAnsweredBy 72 = .ok (.if_icmp .gt 7, 3) := by decide +kernel
theorem dX1_isAnsweredBy_75 : decode cX1_isAnsweredBy 75 = .ok (.iconst 1, 1) := by decide +kernel
theorem dX1_isAnsweredBy_76 : decode cX1_isAnsweredBy 76 = .ok (.goto 4, 3) := by decide +kernel
theorem dX1_isAnsweredBy_79 : decode cX1_isAnsweredBy 79 = .ok (.iconst 0, 1) := by decide +kernel
theorem dX1_isAnsweredBy_80 : decode cX1_isAnsweredBy 80 = .ok (.ireturn, 1) := by decide +kernel
theorem dX2_init_0 : decode cX2_init 0 = .ok (.aload_n 0, 1) := by decide +kernel
theorem dX2_init_1 : decode cX2_init 1 = .ok (.invokespecial 1, 3) := by decide +kernel
theorem dX2_init_4 : decode cX2_init 4 = .ok (.aload_n 0, 1) := by decide +kernel
theorem dX2_init_5 : decode cX2_init 5 = .ok (.new 7, 3) := by decide +kernel
theorem dX2_init_8 : decode cX2_init 8 = .ok (.dup, 1) := by decide +kernel
theorem dX2_init_9 : decode cX2_init 9 = .ok (.invokespecial 9, 3) := by decide +kernel
theorem dX2_init_12 : decode cX2_init 12 = .ok (.putfield 10, 3) := by decide +kernel
theorem dX2_init_15 : decode cX2_init 15 = .ok (.aload_n 0, 1) := by decide +kernel
theorem dX2_init_16 : decode cX2_init 16 = .ok (.new 16, 3) := by decide +kernel
theorem dX2_init_19 : decode cX2_init 19 = .ok (.dup, 1) := by decide +kernel
theorem dX2_init_20 : decode cX2_init 20 = .ok (.aload_n 0, 1) := by decide +kernel
theorem dX2_init_21 : decode cX2_init 21 = .ok (.getfield 10, 3) := by decide +kernel
theorem dX2_init_24 : decode cX2_init 24 = .ok (.invokespecial 18, 3) := by decide +kernel
theorem dX2_init_27 : decode cX2_init 27 = .ok (.putfield 21, 3) := by decide +kernel
theorem dX2_init_30 : decode cX2_init 30 = .ok (.return_, 1) := by decide +kernel
theorem dX2_letter_0 : decode cX2_letter 0 = .ok (.iload_n 1, 1) := by decide +kernel
theorem dX2_letter_1 : decode cX2_letter 1 = .ok (.invokestatic 25, 3) := by decide +kernel
theorem dX2_letter_4 : decode cX2_letter 4 = .ok (.iload_n 2, 1) := by decide +kernel
theorem dX2_letter_5 : decode cX2_letter 5 = .ok (.iload_n 3, 1) := by decide +kernel
theorem dX2_letter_6 : decode cX2_letter 6 = .ok (.invokestatic 29, 3) := by decide +kernel
theorem dX2_letter_9 : decode cX2_letter 9 = .ok (.iload 4, 2) := by decide +kernel
theorem dX2_letter_11 : decode cX2_letter 11 = .ok (.bipush 20, 2) := by decide +kernel
theorem dX2_letter_13 : decode cX2_letter 13 = .ok (.invokestatic 33, 3) := by decide +kernel
theorem dX2_letter_16 : decode cX2_letter 16 = .ok (.iload 5, 2) := by decide +kernel
theorem dX2_letter_18 : decode cX2_letter 18 = .ok (.sipush 1000, 3) := by decide +kernel
theorem dX2_letter_21 : decode cX2_letter 21 = .ok (.invokestatic 33, 3) := by decide +kernel
theorem dX2_letter_24 : decode cX2_letter 24 = .ok (.iload 6, 2) := by decide +kernel
theorem dX2_letter_26 : decode cX2_letter 26 = .ok (.bipush 10, 2) := by decide +kernel
theorem dX2_letter_28 : decode cX2_letter 28 = .ok (.invokestatic 33, 3) := by decide +kernel
theorem dX2_letter_31 : decode cX2_letter 31 = .ok (.aload_n 0, 1) := by decide +kernel
theorem dX2_letter_32 : decode cX2_letter 32 = .ok (.getfield 10, 3) := by decide +kernel
theorem dX2_letter_35 : decode cX2_letter 35 = .ok (.iload_n 1, 1) := by decide +kernel
theorem dX2_letter_36 : decode cX2_letter 36 = .ok (.invokevirtual 36, 3) := by decide +kernel
theorem dX2_letter_39 : decode cX2_letter 39 = .ok (.ifCond .eq 13, 3) := by decide +kernel
theorem dX2_letter_42 : decode cX2_letter 42 = .ok (.new 40, 3) := by decide +kernel
theorem dX2_letter_45 : decode cX2_letter 45 = .ok (.dup, 1) := by decide +kernel
theorem dX2_letter_46 : decode cX2_letter 46 = .ok (.ldc 42, 2) := by decide +kernel
theorem dX2_letter_48 : decode cX2_letter 48 = .ok (.invokespecial 44, 3) := by decide +kernel
theorem dX2_letter_51 : decode cX2_letter 51 = .ok (.athrow, 1) := by decide +kernel
theorem dX2_letter_52 : decode cX2_letter 52 = .ok (.aload_n 0, 1) := by decide +kernel
theorem dX2_letter_53 : decode cX2_letter 53 = .ok (.getfield 10, 3) := by decide +kernel
theorem dX2_letter_56 : decode cX2_letter 56 = .ok (.iload_n 1, 1) := by decide +kernel
theorem dX2_letter_57 : decode cX2_letter 57 = .ok (.iload_n 2, 1) := by decide +kernel
theorem dX2_letter_58 : decode cX2_letter 58 = .ok (.iload_n 3, 1) := by decide +kernel
theorem dX2_letter_59 : decode cX2_letter 59 = .ok (.iload 4, 2) := by decide +kernel
theorem dX2_letter_61 : decode cX2_letter 61 = .ok (.iload 5, 2) := by decide +kernel
theorem dX2_letter_63 : decode cX2_letter 63 = .ok (.iload 6, 2) := by decide +kernel
theorem dX2_letter_65 : decode cX2_letter 65 = .ok (.invokevirtual 47, 3) := by decide +kernel
theorem dX2_letter_68 : decode cX2_letter 68 = .ok (.aload_n 0, 1) := by decide +kernel
theorem dX2_letter_69 : decode cX2_letter 69 = .ok (.getfield 21, 3) := by decide +kernel
theorem dX2_letter_72 : decode cX2_letter 72 = .ok (.invokevirtual 51, 3) := by decide +kernel
theorem dX2_letter_75 : decode cX2_letter 75 = .ok (.aload_n 0, 1) := by decide +kernel
theorem dX2_letter_76 : decode cX2_letter 76 = .ok (.getfield 21, 3) := by decide +kernel
theorem dX2_letter_79 : decode cX2_letter 79 = .ok (.invokevirtual 54, 3) := by decide +kernel
theorem dX2_letter_82 : decode cX2_letter 82 = .ok (.ireturn, 1) := by decide +kernel
theorem dX2_delete_0 : decode cX2_delete 0 = .ok (.aload_n 0, 1) := by decide +kernel
theorem dX2_delete_1 : decode cX2_delete 1 = .ok (.iload_n 1, 1) := by decide +kernel
theorem dX2_delete_2 : decode cX2_delete 2 = .ok (.invokevirtual 58, 3) := by decide +kernel
theorem dX2_delete_5 : decode cX2_delete 5 = .ok (.aload_n 0, 1) := by decide +kernel
theorem dX2_delete_6 : decode cX2_delete 6 = .ok (.getfield 10, 3) := by decide +kernel
theorem dX2_delete_9 : decode cX2_delete 9 = .ok (.iload_n 1, 1) := by decide +kernel
theorem dX2_delete_10 : decode cX2_delete 10 = .ok (.invokevirtual 61, 3) := by decide +kernel
theorem dX2_delete_13 : decode cX2_delete 13 = .ok (.aload_n 0, 1) := by decide +kernel
theorem dX2_delete_14 : decode cX2_delete 14 = .ok (.getfield 21, 3) := by decide +kernel
theorem dX2_delete_17 : decode cX2_delete 17 = .ok (.invokevirtual 51, 3) := by decide +kernel
theorem dX2_delete_20 : decode cX2_delete 20 = .ok (.aload_n 0, 1) := by decide +kernel
theorem dX2_delete_21 : decode cX2_delete 21 = .ok (.getfield 21, 3) := by decide +kernel
theorem dX2_delete_24 : decode cX2_delete 24 = .ok (.invokevirtual 54, 3) := by decide +kernel
theorem dX2_delete_27 : decode cX2_delete 27 = .ok (.ireturn, 1) := by decide +kernel
theorem dX2_split_0 : decode cX2_split 0 = .ok (.aload_n 0, 1) := by decide +kernel
theorem dX2_split_1 : decode cX2_split 1 = .ok (.iload_n 1, 1) := by decide +kernel
theorem dX2_split_2 : decode cX2_split 2 = .ok (.invokevirtual 58, 3) := by decide +kernel
theorem dX2_split_5 : decode cX2_split 5 = .ok (.aload_n 0, 1) := by decide +kernel
theorem dX2_split_6 : decode cX2_split 6 = .ok (.getfield 21, 3) := by decide +kernel
theorem dX2_split_9 : decode cX2_split 9 = .ok (.iload_n 1, 1) := by decide +kernel
theorem dX2_split_10 : decode cX2_split 10 = .ok (.invokevirtual 64, 3) := by decide +kernel
theorem dX2_split_13 : decode cX2_split 13 = .ok (.istore_n 2, 1) := by decide +kernel
theorem dX2_split_14 : decode cX2_split 14 = .ok (.aload_n 0, 1) := by decide +kernel
theorem dX2_split_15 : decode cX2_split 15 = .ok (.getfield 10, 3) := by decide +kernel
theorem dX2_split_18 : decode cX2_split 18 = .ok (.iload_n 1, 1) := by decide +kernel
theorem dX2_split_19 : decode cX2_split 19 = .ok (.bipush (-2), 2) := by decide +kernel
theorem dX2_split_21 : decode cX2_split 21 = .ok (.invokevirtual 68, 3) := by decide +kernel
theorem dX2_split_24 : decode cX2_split 24 = .ok (.aload_n 0, 1) := by decide +kernel
theorem dX2_split_25 : decode cX2_split 25 = .ok (.getfield 21, 3) := by decide +kernel
theorem dX2_split_28 : decode cX2_split 28 = .ok (.invokevirtual 51, 3) := by decide +kernel
theorem dX2_split_31 : decode cX2_split 31 = .ok (.iload_n 2, 1) := by decide +kernel
theorem dX2_split_32 : decode cX2_split 32 = .ok (.ireturn, 1) := by decide +kernel
theorem dX2_join_0 : decode cX2_join 0 = .ok (.iload_n 1, 1) := by decide +kernel
theorem dX2_join_1 : decode cX2_join 1 = .ok (.invokestatic 25, 3) := by decide +kernel
theorem dX2_join_4 : decode cX2_join 4 = .ok (.iload_n 2, 1) := by decide +kernel
theorem dX2_join_5 : decode cX2_join 5 = .ok (.invokestatic 25, 3) := by decide +kernel
theorem dX2_join_8 : decode cX2_join 8 = .ok (.iload_n 1, 1) := by decide +kernel
theorem dX2_join_9 : decode cX2_join 9 = .ok (.iload_n 2, 1) := by decide +kernel
theorem dX2_join_10 : decode cX2_join 10 = .ok (.if_icmp .ne 13, 3) := by decide +kernel
theorem dX2_join_13 : decode cX2_join 13 = .ok (.new 71, 3) := by decide +kernel
theorem dX2_join_16 : decode cX2_join 16 = .ok (.dup, 1) := by decide +kernel
theorem dX2_join_17 : decode cX2_join 17 = .ok (.ldc 73, 2) := by decide +kernel
theorem dX2_join_19 : decode cX2_join 19 = .ok (.invokespecial 75, 3) := by decide +kernel
theorem dX2_join_22 : decode cX2_join 22 = .ok (.athrow, 1) := by decide +kernel
theorem dX2_join_23 : decode cX2_join 23 = .ok (.aload_n 0, 1) := by decide +kernel
theorem dX2_join_24 : decode cX2_join 24 = .ok (.iload_n 1, 1) := by decide +kernel
theorem dX2_join_25 : decode cX2_join 25 = .ok (.invokevirtual 58, 3) := by decide +kernel
theorem dX2_join_28 : decode cX2_join 28 = .ok (.aload_n 0, 1) := by decide +kernel
theorem dX2_join_29 : decode cX2_join 29 = .ok (.iload_n 2, 1) := by decide +kernel
theorem dX2_join_30 : decode cX2_join 30 = .ok (.invokevirtual 58, 3) := by decide +kernel
theorem dX2_join_33 : decode cX2_join 33 = .ok (.aload_n 0, 1) := by decide +kernel
theorem dX2_join_34 : decode cX2_join 34 = .ok (.getfield 21, 3) := by decide +kernel
theorem dX2_join_37 : decode cX2_join 37 = .ok (.iload_n 2, 1) := by decide +kernel
theorem dX2_join_38 : decode cX2_join 38 = .ok (.iload_n 1, 1) := by decide +kernel
theorem dX2_join_39 : decode cX2_join 39 = .ok (.invokevirtual 76, 3) := by decide +kernel
theorem dX2_join_42 : decode cX2_join 42 = .ok (.ifCond .eq 13, 3) := by decide +kernel
theorem dX2_join_45 : decode cX2_join 45 = .ok (.new 40, 3) := by decide +kernel
theorem dX2_join_48 : decode cX2_join 48 = .ok (.dup, 1) := by decide +kernel
theorem dX2_join_49 : decode cX2_join 49 = .ok (.ldc 80, 2) := by decide +kernel
theorem dX2_join_51 : decode cX2_join 51 = .ok (.invokespecial 44, 3) := by decide +kernel
theorem dX2_join_54 : decode cX2_join 54 = .ok (.athrow, 1) := by decide +kernel
theorem dX2_join_55 : decode cX2_join 55 = .ok (.aload_n 0, 1) := by decide +kernel
theorem dX2_join_56 : decode cX2_join 56 = .ok (.getfield 10, 3) := by decide +kernel
theorem dX2_join_59 : decode cX2_join 59 = .ok (.iload_n 1, 1) := by decide +kernel
theorem dX2_join_60 : decode cX2_join 60 = .ok (.iload_n 2, 1) := by decide +kernel
theorem dX2_join_61 : decode cX2_join 61 = .ok (.invokevirtual 68, 3) := by decide +kernel
theorem dX2_join_64 : decode cX2_join 64 = .ok (.aload_n 0, 1) := by decide +kernel
theorem dX2_join_65 : decode cX2_join 65 = .ok (.getfield 21, 3) := by decide +kernel
theorem dX2_join_68 : decode cX2_join 68 = .ok (.invokevirtual 51, 3) := by decide +kernel
theorem dX2_join_71 : decode cX2_join 71 = .ok (.aload_n 0, 1) := by decide +kernel
theorem dX2_join_72 : decode cX2_join 72 = .ok (.getfield 21, 3) := by decide +kernel
theorem dX2_join_75 : decode cX2_join 75 = .ok (.iload_n 1, 1) := by decide +kernel
theorem dX2_join_76 : decode cX2_join 76 = .ok (.invokevirtual 64, 3) := by decide +kernel
theorem dX2_join_79 : decode cX2_join 79 = .ok (.ireturn, 1) := by decide +kernel
theorem dX2_release_0 : decode cX2_release 0 = .ok (.aload_n 0, 1) := by decide +kernel
theorem dX2_release_1 : decode cX2_release 1 = .ok (.iload_n 1, 1) := by decide +kernel
theorem dX2_release_2 : decode cX2_release 2 = .ok (.invokevirtual 58, 3) := by decide +kernel
theorem dX2_release_5 : decode cX2_release 5 = .ok (.aload_n 0, 1) := by decide +kernel
theorem dX2_release_6 : decode cX2_release 6 = .ok (.getfield 10, 3) := by decide +kernel
theorem dX2_release_9 : decode cX2_release 9 = .ok (.iload_n 1, 1) := by decide +kernel
theorem dX2_release_10 : decode cX2_release 10 = .ok (.invokevirtual 82, 3) := by decide +kernel
theorem dX2_release_13 : decode cX2_release 13 = .ok (.iconst (-1), 1) := by decide +kernel
theorem dX2_release_14 : decode cX2_release 14 = .ok (.if_icmp .eq 7, 3) := by decide +kernel
theorem dX2_release_17 : decode cX2_release 17 = .ok (.iconst 1, 1) := by decide +kernel
theorem dX2_release_18 : decode cX2_release 18 = .ok (.goto 4, 3) := by decide +kernel
theorem dX2_release_21 : decode cX2_release 21 = .ok (.iconst 0, 1) := by decide +kernel
theorem dX2_release_22 : decode cX2_release 22 = .ok (.istore_n 2, 1) := by decide +kernel
theorem dX2_release_23 : decode cX2_release 23 = .ok (.aload_n 0, 1) := by decide +kernel
theorem dX2_release_24 : decode cX2_release 24 = .ok (.getfield 10, 3) := by decide +kernel
theorem dX2_release_27 : decode cX2_release 27 = .ok (.iload_n 1, 1) := by decide +kernel
theorem dX2_release_28 : decode cX2_release 28 = .ok (.iconst (-1), 1) := by decide +kernel
theorem dX2_release_29 : decode cX2_release 29 = .ok (.invokevirtual 68, 3) := by decide +kernel
theorem dX2_release_32 : decode cX2_release 32 = .ok (.aload_n 0, 1) := by decide +kernel
theorem dX2_release_33 : decode cX2_release 33 = .ok (.getfield 21, 3) := by decide +kernel
theorem dX2_release_36 : decode cX2_release 36 = .ok (.invokevirtual 51, 3) := by decide +kernel
theorem dX2_release_39 : decode cX2_release 39 = .ok (.iload_n 2, 1) := by decide +kernel
theorem dX2_release_40 : decode cX2_release 40 = .ok (.ireturn, 1) := by decide +kernel
theorem dX2_state_0 : decode cX2_state 0 = .ok (.iload_n 1, 1) := by decide +kernel
theorem dX2_state_1 : decode cX2_state 1 = .ok (.invokestatic 25, 3) := by decide +kernel
theorem dX2_state_4 : decode cX2_state 4 = .ok (.aload_n 0, 1) := by decide +kernel
theorem dX2_state_5 : decode cX2_state 5 = .ok (.getfield 10, 3) := by decide +kernel
theorem dX2_state_8 : decode cX2_state 8 = .ok (.iload_n 1, 1) := by decide +kernel
theorem dX2_state_9 : decode cX2_state 9 = .ok (.invokevirtual 36, 3) := by decide +kernel
theorem dX2_state_12 : decode cX2_state 12 = .ok (.ifCond .eq 5, 3) := by decide +kernel
theorem dX2_state_15 : decode cX2_state 15 = .ok (.iconst 3, 1) := by decide +kernel
theorem dX2_state_16 : decode cX2_state 16 = .ok (.ireturn, 1) := by decide +kernel
theorem dX2_state_17 : decode cX2_state 17 = .ok (.aload_n 0, 1) := by decide +kernel
theorem dX2_state_18 : decode cX2_state 18 = .ok (.getfield 21, 3) := by decide +kernel
theorem dX2_state_21 : decode cX2_state 21 = .ok (.iload_n 1, 1) := by decide +kernel
theorem dX2_state_22 : decode cX2_state 22 = .ok (.invokevirtual 95, 3) := by decide +kernel
theorem dX2_state_25 : decode cX2_state 25 = .ok (.ifCond .eq 5, 3) := by decide +kernel
theorem dX2_state_28 : decode cX2_state 28 = .ok (.iconst 2, 1) := by decide +kernel
theorem dX2_state_29 : decode cX2_state 29 = .ok (.ireturn, 1) := by decide +kernel
theorem dX2_state_30 : decode cX2_state 30 = .ok (.aload_n 0, 1) := by decide +kernel
theorem dX2_state_31 : decode cX2_state 31 = .ok (.getfield 21, 3) := by decide +kernel
theorem dX2_state_34 : decode cX2_state 34 = .ok (.iload_n 1, 1) := by decide +kernel
theorem dX2_state_35 : decode cX2_state 35 = .ok (.invokevirtual 98, 3) := by decide +kernel
theorem dX2_state_38 : decode cX2_state 38 = .ok (.ifCond .eq 7, 3) := by decide +kernel
theorem dX2_state_41 : decode cX2_state 41 = .ok (.iconst 1, 1) := by decide +kernel
theorem dX2_state_42 : decode cX2_state 42 = .ok (.goto 4, 3) := by decide +kernel
theorem dX2_state_45 : decode cX2_state 45 = .ok (.iconst 0, 1) := by decide +kernel
theorem dX2_state_46 : decode cX2_state 46 = .ok (.ireturn, 1) := by decide +kernel
theorem dX2_parent_0 : decode cX2_parent 0 = .ok (.aload_n 0, 1) := by decide +kernel
theorem dX2_parent_1 : decode cX2_parent 1 = .ok (.iload_n 1, 1) := by decide +kernel
theorem dX2_parent_2 : decode cX2_parent 2 = .ok (.invokevirtual 85, 3) := by decide +kernel
theorem dX2_parent_5 : decode cX2_parent 5 = .ok (.aload_n 0, 1) := by decide +kernel
theorem dX2_parent_6 : decode cX2_parent 6 = .ok (.getfield 21, 3) := by decide +kernel
theorem dX2_parent_9 : decode cX2_parent 9 = .ok (.iload_n 1, 1) := by decide +kernel
theorem dX2_parent_10 : decode cX2_parent 10 = .ok (.invokevirtual 64, 3) := by decide +kernel
theorem dX2_parent_13 : decode cX2_parent 13 = .ok (.ireturn, 1) := by decide +kernel
theorem dX2_roots_0 : decode cX2_roots 0 = .ok (.aload_n 0, 1) := by decide +kernel
theorem dX2_roots_1 : decode cX2_roots 1 = .ok (.getfield 21, 3) := by decide +kernel
theorem dX2_roots_4 : decode cX2_roots 4 = .ok (.invokevirtual 54, 3) := by decide +kernel
theorem dX2_roots_7 : decode cX2_roots 7 = .ok (.ireturn, 1) := by decide +kernel
theorem dX2_root_0 : decode cX2_root 0 = .ok (.aload_n 0, 1) := by decide +kernel
theorem dX2_root_1 : decode cX2_root 1 = .ok (.getfield 21, 3) := by decide +kernel
theorem dX2_root_4 : decode cX2_root 4 = .ok (.iload_n 1, 1) := by decide +kernel
theorem dX2_root_5 : decode cX2_root 5 = .ok (.invokevirtual 104, 3) := by decide +kernel
theorem dX2_root_8 : decode cX2_root 8 = .ok (.istore_n 2, 1) := by decide +kernel
theorem dX2_root_9 : decode cX2_root 9 = .ok (.iload_n 2, 1) := by decide +kernel
theorem dX2_root_10 : decode cX2_root 10 = .ok (.iconst (-1), 1) := by decide +kernel
theorem dX2_root_11 : decode cX2_root 11 = .ok (.if_icmp .ne 13, 3) := by decide +kernel
theorem dX2_root_14 : decode cX2_root 14 = .ok (.new 107, 3) := by decide +kernel
theorem dX2_root_17 : decode cX2_root 17 = .ok (.dup, 1) := by decide +kernel
theorem dX2_root_18 : decode cX2_root 18 = .ok (.ldc 109, 2) := by decide +kernel
theorem dX2_root_20 : decode cX2_root 20 = .ok (.invokespecial 111, 3) := by decide +kernel
theorem dX2_root_23 : decode cX2_root 23 = .ok (.athrow, 1) := by decide +kernel
theorem dX2_root_24 : decode cX2_root 24 = .ok (.iload_n 2, 1) := by decide +kernel
theorem dX2_root_25 : decode cX2_root 25 = .ok (.ireturn, 1) := by decide +kernel
theorem dX2_inTree_0 : decode cX2_inTree 0 = .ok (.aload_n 0, 1) := by decide +kernel
theorem dX2_inTree_1 : decode cX2_inTree 1 = .ok (.iload_n 1, 1) := by decide +kernel
theorem dX2_inTree_2 : decode cX2_inTree 2 = .ok (.invokevirtual 85, 3) := by decide +kernel
theorem dX2_inTree_5 : decode cX2_inTree 5 = .ok (.aload_n 0, 1) := by decide +kernel
theorem dX2_inTree_6 : decode cX2_inTree 6 = .ok (.getfield 21, 3) := by decide +kernel
theorem dX2_inTree_9 : decode cX2_inTree 9 = .ok (.iload_n 1, 1) := by decide +kernel
theorem dX2_inTree_10 : decode cX2_inTree 10 = .ok (.iload_n 2, 1) := by decide +kernel
theorem dX2_inTree_11 : decode cX2_inTree 11 = .ok (.invokevirtual 88, 3) := by decide +kernel
theorem dX2_inTree_14 : decode cX2_inTree 14 = .ok (.istore_n 3, 1) := by decide +kernel
theorem dX2_inTree_15 : decode cX2_inTree 15 = .ok (.iload_n 3, 1) := by decide +kernel
theorem dX2_inTree_16 : decode cX2_inTree 16 = .ok (.iconst (-1), 1) := by decide +kernel
theorem dX2_inTree_17 : decode cX2_inTree 17 = .ok (.if_icmp .ne 13, 3) := by decide +kernel
theorem dX2_inTree_20 : decode cX2_inTree 20 = .ok (.new 107, 3) := by decide +kernel
theorem dX2_inTree_23 : decode cX2_inTree 23 = .ok (.dup, 1) := by decide +kernel
theorem dX2_inTree_24 : decode cX2_inTree 24 = .ok (.ldc 112, 2) := by decide +kernel
theorem dX2_inTree_26 : decode cX2_inTree 26 = .ok (.invokespecial 111, 3) := by decide +kernel
theorem dX2_inTree_29 : decode cX2_inTree 29 = .ok (.athrow, 1) := by decide +kernel
theorem dX2_inTree_30 : decode cX2_inTree 30 = .ok (.iload_n 3, 1) := by decide +kernel
theorem dX2_inTree_31 : decode cX2_inTree 31 = .ok (.ireturn, 1) := by decide +kernel
theorem dX2_letters_0 : decode cX2_letters 0 = .ok (.aload_n 0, 1) := by decide +kernel
theorem dX2_letters_1 : decode cX2_letters 1 = .ok (.iload_n 1, 1) := by decide +kernel
theorem dX2_letters_2 : decode cX2_letters 2 = .ok (.invokevirtual 85, 3) := by decide +kernel
theorem dX2_letters_5 : decode cX2_letters 5 = .ok (.iconst 0, 1) := by decide +kernel
theorem dX2_letters_6 : decode cX2_letters 6 = .ok (.istore_n 2, 1) := by decide +kernel
theorem dX2_letters_7 : decode cX2_letters 7 = .ok (.iconst 0, 1) := by decide +kernel
theorem dX2_letters_8 : decode cX2_letters 8 = .ok (.istore_n 3, 1) := by decide +kernel
theorem dX2_letters_9 : decode cX2_letters 9 = .ok (.iload_n 3, 1) := by decide +kernel
theorem dX2_letters_10 : decode cX2_letters 10 = .ok (.bipush 30, 2) := by decide +kernel
theorem dX2_letters_12 : decode cX2_letters 12 = .ok (.if_icmp .ge 31, 3) := by decide +kernel
theorem dX2_letters_15 : decode cX2_letters 15 = .ok (.aload_n 0, 1) := by decide +kernel
theorem dX2_letters_16 : decode cX2_letters 16 = .ok (.getfield 10, 3) := by decide +kernel
theorem dX2_letters_19 : decode cX2_letters 19 = .ok (.aload_n 0, 1) := by decide +kernel
theorem dX2_letters_20 : decode cX2_letters 20 = .ok (.getfield 21, 3) := by decide +kernel
theorem dX2_letters_23 : decode cX2_letters 23 = .ok (.iload_n 1, 1) := by decide +kernel
theorem dX2_letters_24 : decode cX2_letters 24 = .ok (.iload_n 3, 1) := by decide +kernel
theorem dX2_letters_25 : decode cX2_letters 25 = .ok (.invokevirtual 88, 3) := by decide +kernel
theorem dX2_letters_28 : decode cX2_letters 28 = .ok (.invokevirtual 36, 3) := by decide +kernel
theorem dX2_letters_31 : decode cX2_letters 31 = .ok (.ifCond .eq 6, 3) := by decide +kernel
theorem dX2_letters_34 : decode cX2_letters 34 = .ok (.iinc 2 1, 3) := by decide +kernel
theorem dX2_letters_37 : decode cX2_letters 37 = .ok (.iinc 3 1, 3) := by decide +kernel
theorem dX2_letters_40 : decode cX2_letters 40 = .ok (.goto (-31), 3) := by decide +kernel
theorem dX2_letters_43 : decode cX2_letters 43 = .ok (.iload_n 2, 1) := by decide +kernel
theorem dX2_letters_44 : decode cX2_letters 44 = .ok (.ireturn, 1) := by decide +kernel
theorem dX2_people_0 : decode cX2_people 0 = .ok (.aload_n 0, 1) := by decide +kernel
theorem dX2_people_1 : decode cX2_people 1 = .ok (.iload_n 1, 1) := by decide +kernel
theorem dX2_people_2 : decode cX2_people 2 = .ok (.invokevirtual 85, 3) := by decide +kernel
theorem dX2_people_5 : decode cX2_people 5 = .ok (.iconst 0, 1) := by decide +kernel
theorem dX2_people_6 : decode cX2_people 6 = .ok (.istore_n 2, 1) := by decide +kernel
theorem dX2_people_7 : decode cX2_people 7 = .ok (.iconst 0, 1) := by decide +kernel
theorem dX2_people_8 : decode cX2_people 8 = .ok (.istore_n 3, 1) := by decide +kernel
theorem dX2_people_9 : decode cX2_people 9 = .ok (.iload_n 3, 1) := by decide +kernel
theorem dX2_people_10 : decode cX2_people 10 = .ok (.bipush 30, 2) := by decide +kernel
theorem dX2_people_12 : decode cX2_people 12 = .ok (.if_icmp .ge 28, 3) := by decide +kernel
theorem dX2_people_15 : decode cX2_people 15 = .ok (.iload_n 2, 1) := by decide +kernel
theorem dX2_people_16 : decode cX2_people 16 = .ok (.aload_n 0, 1) := by decide +kernel
theorem dX2_people_17 : decode cX2_people 17 = .ok (.getfield 10, 3) := by decide +kernel
theorem dX2_people_20 : decode cX2_people 20 = .ok (.aload_n 0, 1) := by decide +kernel
theorem dX2_people_21 : decode cX2_people 21 = .ok (.getfield 21, 3) := by decide +kernel
theorem dX2_people_24 : decode cX2_people 24 = .ok (.iload_n 1, 1) := by decide +kernel
theorem dX2_people_25 : decode cX2_people 25 = .ok (.iload_n 3, 1) := by decide +kernel
theorem dX2_people_26 : decode cX2_people 26 = .ok (.invokevirtual 88, 3) := by decide +kernel
theorem dX2_people_29 : decode cX2_people 29 = .ok (.invokevirtual 120, 3) := by decide +kernel
theorem dX2_people_32 : decode cX2_people 32 = .ok (.ior, 1) := by decide +kernel
theorem dX2_people_33 : decode cX2_people 33 = .ok (.istore_n 2, 1) := by decide +kernel
theorem dX2_people_34 : decode cX2_people 34 = .ok (.iinc 3 1, 3) := by decide +kernel
theorem dX2_people_37 : decode cX2_people 37 = .ok (.goto (-28), 3) := by decide +kernel
theorem dX2_people_40 : decode cX2_people 40 = .ok (.iload_n 2, 1) := by decide +kernel
theorem dX2_people_41 : decode cX2_people 41 = .ok (.ireturn, 1) := by decide +kernel
theorem dX2_latest_0 : decode cX2_latest 0 = .ok (.aload_n 0, 1) := by decide +kernel
theorem dX2_latest_1 : decode cX2_latest 1 = .ok (.iload_n 1, 1) := by decide +kernel
theorem dX2_latest_2 : decode cX2_latest 2 = .ok (.invokevirtual 85, 3) := by decide +kernel
theorem dX2_latest_5 : decode cX2_latest 5 = .ok (.iconst (-1), 1) := by decide +kernel
theorem dX2_latest_6 : decode cX2_latest 6 = .ok (.istore_n 2, 1) := by decide +kernel
theorem dX2_latest_7 : decode cX2_latest 7 = .ok (.iconst 0, 1) := by decide +kernel
theorem dX2_latest_8 : decode cX2_latest 8 = .ok (.istore_n 3, 1) := by decide +kernel
theorem dX2_latest_9 : decode cX2_latest 9 = .ok (.iload_n 3, 1) := by decide +kernel
theorem dX2_latest_10 : decode cX2_latest 10 = .ok (.bipush 30, 2) := by decide +kernel
theorem dX2_latest_12 : decode cX2_latest 12 = .ok (.if_icmp .ge 46, 3) := by decide +kernel
theorem dX2_latest_15 : decode cX2_latest 15 = .ok (.aload_n 0, 1) := by decide +kernel
theorem dX2_latest_16 : decode cX2_latest 16 = .ok (.getfield 21, 3) := by decide +kernel
theorem dX2_latest_19 : decode cX2_latest 19 = .ok (.iload_n 1, 1) := by decide +kernel
theorem dX2_latest_20 : decode cX2_latest 20 = .ok (.iload_n 3, 1) := by decide +kernel
theorem dX2_latest_21 : decode cX2_latest 21 = .ok (.invokevirtual 88, 3) := by decide +kernel
theorem dX2_latest_24 : decode cX2_latest 24 = .ok (.istore 4, 2) := by decide +kernel
theorem dX2_latest_26 : decode cX2_latest 26 = .ok (.aload_n 0, 1) := by decide +kernel
theorem dX2_latest_27 : decode cX2_latest 27 = .ok (.getfield 10, 3) := by decide +kernel
theorem dX2_latest_30 : decode cX2_latest 30 = .ok (.iload 4, 2) := by decide +kernel
theorem dX2_latest_32 : decode cX2_latest 32 = .ok (.invokevirtual 36, 3) := by decide +kernel
theorem dX2_latest_35 : decode cX2_latest 35 = .ok (.ifCond .eq 17, 3) := by decide +kernel
theorem dX2_latest_38 : decode cX2_latest 38 = .ok (.iload_n 2, 1) := by decide +kernel
theorem dX2_latest_39 : decode cX2_latest 39 = .ok (.aload_n 0, 1) := by decide +kernel
theorem dX2_latest_40 : decode cX2_latest 40 = .ok (.getfield 10, 3) := by decide +kernel
theorem dX2_latest_43 : decode cX2_latest 43 = .ok (.iload 4, 2) := by decide +kernel
theorem dX2_latest_45 : decode cX2_latest 45 = .ok (.invokevirtual 123, 3) := by decide +kernel
theorem dX2_latest_48 : decode cX2_latest 48 = .ok (.invokestatic 126, 3) := by decide +kernel
theorem dX2_latest_51 : decode cX2_latest 51 = .ok (.istore_n 2, 1) := by decide +kernel
theorem dX2_latest_52 : decode cX2_latest 52 = .ok (.iinc 3 1, 3) := by decide +kernel
theorem dX2_latest_55 : decode cX2_latest 55 = .ok (.goto (-46), 3) := by decide +kernel
theorem dX2_latest_58 : decode cX2_latest 58 = .ok (.iload_n 2, 1) := by decide +kernel
theorem dX2_latest_59 : decode cX2_latest 59 = .ok (.ireturn, 1) := by decide +kernel
theorem dX2_isId_0 : decode cX2_isId 0 = .ok (.iload_n 0, 1) := by decide +kernel
theorem dX2_isId_1 : decode cX2_isId 1 = .ok (.ifCond .lt 13, 3) := by decide +kernel
theorem dX2_isId_4 : decode cX2_isId 4 = .ok (.iload_n 0, 1) := by decide +kernel
theorem dX2_isId_5 : decode cX2_isId 5 = .ok (.bipush 30, 2) := by decide +kernel
theorem dX2_isId_7 : decode cX2_isId 7 = .ok (.if_icmp .ge 7, 3) := by decide +kernel
theorem dX2_isId_10 : decode cX2_isId 10 = .ok (.iconst 1, 1) := by decide +kernel
theorem dX2_isId_11 : decode cX2_isId 11 = .ok (.goto 4, 3) := by decide +kernel
theorem dX2_isId_14 : decode cX2_isId 14 = .ok (.iconst 0, 1) := by decide +kernel
theorem dX2_isId_15 : decode cX2_isId 15 = .ok (.ireturn, 1) := by decide +kernel
theorem dX2_requireId_0 : decode cX2_requireId 0 = .ok (.iload_n 0, 1) := by decide +kernel
theorem dX2_requireId_1 : decode cX2_requireId 1 = .ok (.invokestatic 131, 3) := by decide +kernel
theorem dX2_requireId_4 : decode cX2_requireId 4 = .ok (.ifCond .ne 13, 3) := by decide +kernel
theorem dX2_requireId_7 : decode cX2_requireId 7 = .ok (.new 71, 3) := by decide +kernel
theorem dX2_requireId_10 : decode cX2_requireId 10 = .ok (.dup, 1) := by decide +kernel
theorem dX2_requireId_11 : decode cX2_requireId 11 = .ok (.ldc 134, 2) := by decide +kernel
theorem dX2_requireId_13 : decode cX2_requireId 13 = .ok (.invokespecial 75, 3) := by decide +kernel
theorem dX2_requireId_16 : decode cX2_requireId 16 = .ok (.athrow, 1) := by decide +kernel
theorem dX2_requireId_17 : decode cX2_requireId 17 = .ok (.return_, 1) := by decide +kernel
theorem dX2_requireTold_0 : decode cX2_requireTold 0 = .ok (.iload_n 0, 1) := by decide +kernel
theorem dX2_requireTold_1 : decode cX2_requireTold 1 = .ok (.iconst (-1), 1) := by decide +kernel
theorem dX2_requireTold_2 : decode cX2_requireTold 2 = .ok (.if_icmp .eq 7, 3) := by decide +kernel
theorem dX2_requireTold_5 : decode cX2_requireTold 5 = .ok (.iload_n 0, 1) := by decide +kernel
theorem dX2_requireTold_6 : decode cX2_requireTold 6 = .ok (.invokestatic 25, 3) := by decide +kernel
theorem dX2_requireTold_9 : decode cX2_requireTold 9 = .ok (.iload_n 1, 1) := by decide +kernel
theorem dX2_requireTold_10 : decode cX2_requireTold 10 = .ok (.iconst (-1), 1) := by decide +kernel
theorem dX2_requireTold_11 : decode cX2_requireTold 11 = .ok (.if_icmp .eq 7, 3) := by decide +kernel
theorem dX2_requireTold_14 : decode cX2_requireTold 14 = .ok (.iload_n 1, 1) := by decide +kernel
theorem dX2_requireTold_15 : decode cX2_requireTold 15 = .ok (.invokestatic 25, 3) := by decide +kernel
theorem dX2_requireTold_18 : decode cX2_requireTold 18 = .ok (.iload_n 0, 1) := by decide +kernel
theorem dX2_requireTold_19 : decode cX2_requireTold 19 = .ok (.iconst (-1), 1) := by decide +kernel
theorem dX2_requireTold_20 : decode cX2_requireTold 20 = .ok (.if_icmp .eq 18, 3) := by decide +kernel
theorem dX2_requireTold_23 : decode cX2_requireTold 23 = .ok (.iload_n 1, 1) := by decide +kernel
theorem dX2_requireTold_24 : decode cX2_requireTold 24 = .ok (.iconst (-1), 1) := by decide +kernel
theorem dX2_requireTold_25 : decode cX2_requireTold 25 = .ok (.if_icmp .ne 13, 3) := by decide +kernel
theorem dX2_requireTold_28 : decode cX2_requireTold 28 = .ok (.new 71, 3) := by decide +kernel
theorem dX2_requireTold_31 : decode cX2_requireTold 31 = .ok (.dup, 1) := by decide +kernel
theorem dX2_requireTold_32 : decode cX2_requireTold 32 = .ok (.ldc 136, 2) := by decide +kernel
theorem dX2_requireTold_34 : decode cX2_requireTold 34 = .ok (.invokespecial 75, 3) := by decide +kernel
theorem dX2_requireTold_37 : decode cX2_requireTold 37 = .ok (.athrow, 1) := by decide +kernel
theorem dX2_requireTold_38 : decode cX2_requireTold 38 = .ok (.return_, 1) := by decide +kernel
theorem dX2_requireBelow_0 : decode cX2_requireBelow 0 = .ok (.iload_n 0, 1) := by decide +kernel
theorem dX2_requireBelow_1 : decode cX2_requireBelow 1 = .ok (.ifCond .lt 8, 3) := by decide +kernel
theorem dX2_requireBelow_4 : decode cX2_requireBelow 4 = .ok (.iload_n 0, 1) := by decide +kernel
theorem dX2_requireBelow_5 : decode cX2_requireBelow 5 = .ok (.iload_n 1, 1) := by decide +kernel
theorem dX2_requireBelow_6 : decode cX2_requireBelow 6 = .ok (.if_icmp .lt 13, 3) := by decide +kernel
theorem dX2_requireBelow_9 : decode cX2_requireBelow 9 = .ok (.new 71, 3) := by decide +kernel
theorem dX2_requireBelow_12 : decode cX2_requireBelow 12 = .ok (.dup, 1) := by decide +kernel
theorem dX2_requireBelow_13 : decode cX2_requireBelow 13 = .ok (.ldc 138, 2) := by decide +kernel
theorem dX2_requireBelow_15 : decode cX2_requireBelow 15 = .ok (.invokespecial 75, 3) := by decide +kernel
theorem dX2_requireBelow_18 : decode cX2_requireBelow 18 = .ok (.athrow, 1) := by decide +kernel
theorem dX2_requireBelow_19 : decode cX2_requireBelow 19 = .ok (.return_, 1) := by decide +kernel
theorem dX2_requireLetter_0 : decode cX2_requireLetter 0 = .ok (.iload_n 1, 1) := by decide +kernel
theorem dX2_requireLetter_1 : decode cX2_requireLetter 1 = .ok (.invokestatic 25, 3) := by decide +kernel
theorem dX2_requireLetter_4 : decode cX2_requireLetter 4 = .ok (.aload_n 0, 1) := by decide +kernel
theorem dX2_requireLetter_5 : decode cX2_requireLetter 5 = .ok (.getfield 10, 3) := by decide +kernel
theorem dX2_requireLetter_8 : decode cX2_requireLetter 8 = .ok (.iload_n 1, 1) := by decide +kernel
theorem dX2_requireLetter_9 : decode cX2_requireLetter 9 = .ok (.invokevirtual 36, 3) := by decide +kernel
theorem dX2_requireLetter_12 : decode cX2_requireLetter 12 = .ok (.ifCond .ne 13, 3) := by decide +kernel
theorem dX2_requireLetter_15 : decode cX2_requireLetter 15 = .ok (.new 40, 3) := by decide +kernel
theorem dX2_requireLetter_18 : decode cX2_requireLetter 18 = .ok (.dup, 1) := by decide +kernel
theorem dX2_requireLetter_19 : decode cX2_requireLetter 19 = .ok (.ldc 140, 2) := by decide +kernel
theorem dX2_requireLetter_21 : decode cX2_requireLetter 21 = .ok (.invokespecial 44, 3) := by decide +kernel
theorem dX2_requireLetter_24 : decode cX2_requireLetter 24 = .ok (.athrow, 1) := by decide +kernel
theorem dX2_requireLetter_25 : decode cX2_requireLetter 25 = .ok (.return_, 1) := by decide +kernel
theorem dX2_requireInForest_0 : decode cX2_requireInForest 0 = .ok (.iload_n 1, 1) := by decide +kernel
theorem dX2_requireInForest_1 : decode cX2_requireInForest 1 = .ok (.invokestatic 25, 3) := by decide +kernel
theorem dX2_requireInForest_4 : decode cX2_requireInForest 4 = .ok (.aload_n 0, 1) := by decide +kernel
theorem dX2_requireInForest_5 : decode cX2_requireInForest 5 = .ok (.getfield 21, 3) := by decide +kernel
theorem dX2_requireInForest_8 : decode cX2_requireInForest 8 = .ok (.iload_n 1, 1) := by decide +kernel
theorem dX2_requireInForest_9 : decode cX2_requireInForest 9 = .ok (.invokevirtual 95, 3) := by decide +kernel
theorem dX2_requireInForest_12 : decode cX2_requireInForest 12 = .ok (.ifCond .ne 13, 3) := by decide +kernel
theorem dX2_requireInForest_15 : decode cX2_requireInForest 15 = .ok (.new 107, 3) := by decide +kernel
theorem dX2_requireInForest_18 : decode cX2_requireInForest 18 = .ok (.dup, 1) := by decide +kernel
theorem dX2_requireInForest_19 : decode cX2_requireInForest 19 = .ok (.ldc 142, 2) := by decide +kernel
theorem dX2_requireInForest_21 : decode cX2_requireInForest 21 = .ok (.invokespecial 111, 3) := by decide +kernel
theorem dX2_requireInForest_24 : decode cX2_requireInForest 24 = .ok (.athrow, 1) := by decide +kernel
theorem dX2_requireInForest_25 : decode cX2_requireInForest 25 = .ok (.return_, 1) := by decide +kernel
theorem dJ9_max_7cf53_0 : decode cJ9_max_7cf53 0 = .ok (.iload_n 0, 1) := by decide +kernel
theorem dJ9_max_7cf53_1 : decode cJ9_max_7cf53 1 = .ok (.iload_n 1, 1) := by decide +kernel
theorem dJ9_max_7cf53_2 : decode cJ9_max_7cf53 2 = .ok (.if_icmp .lt 7, 3) := by decide +kernel
theorem dJ9_max_7cf53_5 : decode cJ9_max_7cf53 5 = .ok (.iload_n 0, 1) := by decide +kernel
theorem dJ9_max_7cf53_6 : decode cJ9_max_7cf53 6 = .ok (.goto 4, 3) := by decide +kernel
theorem dJ9_max_7cf53_9 : decode cJ9_max_7cf53 9 = .ok (.iload_n 1, 1) := by decide +kernel
theorem dJ9_max_7cf53_10 : decode cJ9_max_7cf53 10 = .ok (.ireturn, 1) := by decide +kernel
theorem dJ9_min_7cf53_0 : decode cJ9_min_7cf53 0 = .ok (.iload_n 0, 1) := by decide +kernel
theorem dJ9_min_7cf53_1 : decode cJ9_min_7cf53 1 = .ok (.iload_n 1, 1) := by decide +kernel
theorem dJ9_min_7cf53_2 : decode cJ9_min_7cf53 2 = .ok (.if_icmp .gt 7, 3) := by decide +kernel
theorem dJ9_min_7cf53_5 : decode cJ9_min_7cf53 5 = .ok (.iload_n 0, 1) := by decide +kernel
theorem dJ9_min_7cf53_6 : decode cJ9_min_7cf53 6 = .ok (.goto 4, 3) := by decide +kernel
theorem dJ9_min_7cf53_9 : decode cJ9_min_7cf53 9 = .ok (.iload_n 1, 1) := by decide +kernel
theorem dJ9_min_7cf53_10 : decode cJ9_min_7cf53 10 = .ok (.ireturn, 1) := by decide +kernel
