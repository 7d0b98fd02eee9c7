theorem dX0_init_0 : decode cX0_init 0 = .ok (.aload_n 0, 1) := by decide +kernel
theorem dX0_init_1 : decode cX0_init 1 = .ok (.invokespecial 3, 3) := by decide +kernel
theorem dX0_init_4 : decode cX0_init 4 = .ok (.aload_n 0, 1) := by decide +kernel
theorem dX0_init_5 : decode cX0_init 5 = .ok (.sipush 1728, 3) := by decide +kernel
theorem dX0_init_8 : decode cX0_init 8 = .ok (.newarray .boolean, 2) := by decide +kernel
theorem dX0_init_10 : decode cX0_init 10 = .ok (.putfield 9, 3) := by decide +kernel
theorem dX0_init_13 : decode cX0_init 13 = .ok (.return_, 1) := by decide +kernel
theorem dX0_isSolid_0 : decode cX0_isSolid 0 = .ok (.iload_n 1, 1) := by decide +kernel
theorem dX0_isSolid_1 : decode cX0_isSolid 1 = .ok (.iload_n 2, 1) := by decide +kernel
theorem dX0_isSolid_2 : decode cX0_isSolid 2 = .ok (.iload_n 3, 1) := by decide +kernel
theorem dX0_isSolid_3 : decode cX0_isSolid 3 = .ok (.invokestatic 15, 3) := by decide +kernel
theorem dX0_isSolid_6 : decode cX0_isSolid 6 = .ok (.ifCond .eq 21, 3) := by decide +kernel
theorem dX0_isSolid_9 : decode cX0_isSolid 9 = .ok (.aload_n 0, 1) := by decide +kernel
theorem dX0_isSolid_10 : decode cX0_isSolid 10 = .ok (.getfield 9, 3) := by decide +kernel
theorem dX0_isSolid_13 : decode cX0_isSolid 13 = .ok (.iload_n 1, 1) := by decide +kernel
theorem dX0_isSolid_14 : decode cX0_isSolid 14 = .ok (.iload_n 2, 1) := by decide +kernel
theorem dX0_isSolid_15 : decode cX0_isSolid 15 = .ok (.iload_n 3, 1) := by decide +kernel
theorem dX0_isSolid_16 : decode cX0_isSolid 16 = .ok (.invokestatic 19, 3) := by decide +kernel
theorem dX0_isSolid_19 : decode cX0_isSolid 19 = .ok (.baload, 1) := by decide +kernel
theorem dX0_isSolid_20 : decode cX0_isSolid 20 = .ok (.ifCond .eq 7, 3) := by decide +kernel
theorem dX0_isSolid_23 : decode cX0_isSolid 23 = .ok (.iconst 1, 1) := by decide +kernel
theorem dX0_isSolid_24 : decode cX0_isSolid 24 = .ok (.goto 4, 3) := by decide +kernel
theorem dX0_isSolid_27 : decode cX0_isSolid 27 = .ok (.iconst 0, 1) := by decide +kernel
theorem dX0_isSolid_28 : decode cX0_isSolid 28 = .ok (.ireturn, 1) := by decide +kernel
theorem dX0_changeLayer_0 : decode cX0_changeLayer 0 = .ok (.iconst 0, 1) := by decide +kernel
theorem dX0_changeLayer_1 : decode cX0_changeLayer 1 = .ok (.istore 7, 2) := by decide +kernel
theorem dX0_changeLayer_3 : decode cX0_changeLayer 3 = .ok (.iload_n 2, 1) := by decide +kernel
theorem dX0_changeLayer_4 : decode cX0_changeLayer 4 = .ok (.istore 8, 2) := by decide +kernel
theorem dX0_changeLayer_6 : decode cX0_changeLayer 6 = .ok (.iload 8, 2) := by decide +kernel
theorem dX0_changeLayer_8 : decode cX0_changeLayer 8 = .ok (.iload_n 2, 1) := by decide +kernel
theorem dX0_changeLayer_9 : decode cX0_changeLayer 9 = .ok (.iload 5, 2) := by decide +kernel
theorem dX0_changeLayer_11 : decode cX0_changeLayer 11 = .ok (.iadd, 1) := by decide +kernel
theorem dX0_changeLayer_12 : decode cX0_changeLayer 12 = .ok (.if_icmp .ge 70, 3) := by decide +kernel
theorem dX0_changeLayer_15 : decode cX0_changeLayer 15 = .ok (.iload_n 1, 1) := by decide +kernel
theorem dX0_changeLayer_16 : decode cX0_changeLayer 16 = .ok (.istore 9, 2) := by decide +kernel
theorem dX0_changeLayer_18 : decode cX0_changeLayer 18 = .ok (.iload 9, 2) := by decide +kernel
theorem dX0_changeLayer_20 : decode cX0_changeLayer 20 = .ok (.iload_n 1, 1) := by decide +kernel
theorem dX0_changeLayer_21 : decode cX0_changeLayer 21 = .ok (.iload 4, 2) := by decide +kernel
theorem dX0_changeLayer_23 : decode cX0_changeLayer 23 = .ok (.iadd, 1) := by decide +kernel
theorem dX0_changeLayer_24 : decode cX0_changeLayer 24 = .ok (.if_icmp .ge 52, 3) := by decide +kernel
theorem dX0_changeLayer_27 : decode cX0_changeLayer 27 = .ok (.iload 9, 2) := by decide +kernel
theorem dX0_changeLayer_29 : decode cX0_changeLayer 29 = .ok (.iload 8, 2) := by decide +kernel
theorem dX0_changeLayer_31 : decode cX0_changeLayer 31 = .ok (.iload_n 3, 1) := by decide +kernel
theorem dX0_changeLayer_32 : decode cX0_changeLayer 32 = .ok (.invokestatic 15, 3) := by decide +kernel
theorem dX0_changeLayer_35 : decode cX0_changeLayer 35 = .ok (.ifCond .eq 35, 3) := by decide +kernel
theorem dX0_changeLayer_38 : decode cX0_changeLayer 38 = .ok (.aload_n 0, 1) := by decide +kernel
theorem dX0_changeLayer_39 : decode cX0_changeLayer 39 = .ok (.iload 9, 2) := by decide +kernel
theorem dX0_changeLayer_41 : decode cX0_changeLayer 41 = .ok (.iload 8, 2) := by decide +kernel
theorem dX0_changeLayer_43 : decode cX0_changeLayer 43 = .ok (.iload_n 3, 1) := by decide +kernel
theorem dX0_changeLayer_44 : decode cX0_changeLayer 44 = .ok (.invokevirtual 23, 3) := by decide +kernel
theorem dX0_changeLayer_47 : decode cX0_changeLayer 47 = .ok (.iload 6, 2) := by decide +kernel
theorem dX0_changeLayer_49 : decode cX0_changeLayer 49 = .ok (.if_icmp .eq 21, 3) := by decide +kernel
theorem dX0_changeLayer_52 : decode cX0_changeLayer 52 = .ok (.aload_n 0, 1) := by decide +kernel
theorem dX0_changeLayer_53 : decode cX0_changeLayer 53 = .ok (.getfield 9, 3) := by decide +kernel
theorem dX0_changeLayer_56 : decode cX0_changeLayer 56 = .ok (.iload 9, 2) := by decide +kernel
theorem dX0_changeLayer_58 : decode cX0_changeLayer 58 = .ok (.iload 8, 2) := by decide +kernel
theorem dX0_changeLayer_60 : decode cX0_changeLayer 60 = .ok (.iload_n 3, 1) := by decide +kernel
theorem dX0_changeLayer_61 : decode cX0_changeLayer 61 = .ok (.invokestatic 19, 3) := by decide +kernel
theorem dX0_changeLayer_64 : decode cX0_changeLayer 64 = .ok (.iload 6, 2) := by decide +kernel
theorem dX0_changeLayer_66 : decode cX0_changeLayer 66 = .ok (.bastore, 1) := by decide +kernel
theorem dX0_changeLayer_67 : decode cX0_changeLayer 67 = .ok (.iinc 7 1, 3) := by decide +kernel
theorem dX0_changeLayer_70 : decode cX0_changeLayer 70 = .ok (.iinc 9 1, 3) := by decide +kernel
theorem dX0_changeLayer_73 : decode cX0_changeLayer 73 = .ok (.goto (-55), 3) := by decide +kernel
theorem dX0_changeLayer_76 : decode cX0_changeLayer 76 = .ok (.iinc 8 1, 3) := by decide +kernel
theorem dX0_changeLayer_79 : decode cX0_changeLayer 79 = .ok (.goto (-73), 3) := by decide +kernel
theorem dX0_changeLayer_82 : decode cX0_changeLayer 82 = .ok (.iload 7, 2) := by decide +kernel
theorem dX0_changeLayer_84 : decode cX0_changeLayer 84 = .ok (.ireturn, 1) := by decide +kernel
theorem dX0_countSolid_0 : decode cX0_countSolid 0 = .ok (.iconst 0, 1) := by decide +kernel
theorem dX0_countSolid_1 : decode cX0_countSolid 1 = .ok (.istore_n 1, 1) := by decide +kernel
theorem dX0_countSolid_2 : decode cX0_countSolid 2 = .ok (.iconst 0, 1) := by decide +kernel
theorem dX0_countSolid_3 : decode cX0_countSolid 3 = .ok (.istore_n 2, 1) := by decide +kernel
theorem dX0_countSolid_4 : decode cX0_countSolid 4 = .ok (.iload_n 2, 1) := by decide +kernel
theorem dX0_countSolid_5 : decode cX0_countSolid 5 = .ok (.aload_n 0, 1) := by decide +kernel
theorem dX0_countSolid_6 : decode cX0_countSolid 6 = .ok (.getfield 9, 3) := by decide +kernel
theorem dX0_countSolid_9 : decode cX0_countSolid 9 = .ok (.arraylength, 1) := by decide +kernel
theorem dX0_countSolid_10 : decode cX0_countSolid 10 = .ok (.if_icmp .ge 21, 3) := by decide +kernel
theorem dX0_countSolid_13 : decode cX0_countSolid 13 = .ok (.aload_n 0, 1) := by decide +kernel
theorem dX0_countSolid_14 : decode cX0_countSolid 14 = .ok (.getfield 9, 3) := by decide +kernel
theorem dX0_countSolid_17 : decode cX0_countSolid 17 = .ok (.iload_n 2, 1) := by decide +kernel
theorem dX0_countSolid_18 : decode cX0_countSolid 18 = .ok (.baload, 1) := by decide +kernel
theorem dX0_countSolid_19 : decode cX0_countSolid 19 = .ok (.ifCond .eq 6, 3) := by decide +kernel
theorem dX0_countSolid_22 : decode cX0_countSolid 22 = .ok (.iinc 1 1, 3) := by decide +kernel
theorem dX0_countSolid_25 : decode cX0_countSolid 25 = .ok (.iinc 2 1, 3) := by decide +kernel
theorem dX0_countSolid_28 : decode cX0_countSolid 28 = .ok (.goto (-24), 3) := by decide +kernel
theorem dX0_countSolid_31 : decode cX0_countSolid 31 = .ok (.iload_n 1, 1) := by decide +kernel
theorem dX0_countSolid_32 : decode cX0_countSolid 32 = .ok (.ireturn, 1) := by decide +kernel
theorem dX0_countHanging_0 : decode cX0_countHanging 0 = .ok (.iconst 0, 1) := by decide +kernel
theorem dX0_countHanging_1 : decode cX0_countHanging 1 = .ok (.istore_n 2, 1) := by decide +kernel
theorem dX0_countHanging_2 : decode cX0_countHanging 2 = .ok (.iconst 0, 1) := by decide +kernel
theorem dX0_countHanging_3 : decode cX0_countHanging 3 = .ok (.istore_n 3, 1) := by decide +kernel
theorem dX0_countHanging_4 : decode cX0_countHanging 4 = .ok (.iload_n 3, 1) := by decide +kernel
theorem dX0_countHanging_5 : decode cX0_countHanging 5 = .ok (.bipush 12, 2) := by decide +kernel
theorem dX0_countHanging_7 : decode cX0_countHanging 7 = .ok (.if_icmp .ge 39, 3) := by decide +kernel
theorem dX0_countHanging_10 : decode cX0_countHanging 10 = .ok (.iconst 0, 1) := by decide +kernel
theorem dX0_countHanging_11 : decode cX0_countHanging 11 = .ok (.istore 4, 2) := by decide +kernel
theorem dX0_countHanging_13 : decode cX0_countHanging 13 = .ok (.iload 4, 2) := by decide +kernel
theorem dX0_countHanging_15 : decode cX0_countHanging 15 = .ok (.bipush 12, 2) := by decide +kernel
theorem dX0_countHanging_17 : decode cX0_countHanging 17 = .ok (.if_icmp .ge 23, 3) := by decide +kernel
theorem dX0_countHanging_20 : decode cX0_countHanging 20 = .ok (.aload_n 0, 1) := by decide +kernel
theorem dX0_countHanging_21 : decode cX0_countHanging 21 = .ok (.iload 4, 2) := by decide +kernel
theorem dX0_countHanging_23 : decode cX0_countHanging 23 = .ok (.iload_n 3, 1) := by decide +kernel
theorem dX0_countHanging_24 : decode cX0_countHanging 24 = .ok (.iload_n 1, 1) := by decide +kernel
theorem dX0_countHanging_25 : decode cX0_countHanging 25 = .ok (.invokevirtual 26, 3) := by decide +kernel
theorem dX0_countHanging_28 : decode cX0_countHanging 28 = .ok (.ifCond .eq 6, 3) := by decide +kernel
theorem dX0_countHanging_31 : decode cX0_countHanging 31 = .ok (.iinc 2 1, 3) := by decide +kernel
theorem dX0_countHanging_34 : decode cX0_countHanging 34 = .ok (.iinc 4 1, 3) := by decide +kernel
theorem dX0_countHanging_37 : decode cX0_countHanging 37 = .ok (.goto (-24), 3) := by decide +kernel
theorem dX0_countHanging_40 : decode cX0_countHanging 40 = .ok (.iinc 3 1, 3) := by decide +kernel
theorem dX0_countHanging_43 : decode cX0_countHanging 43 = .ok (.goto (-39), 3) := by decide +kernel
theorem dX0_countHanging_46 : decode cX0_countHanging 46 = .ok (.iload_n 2, 1) := by decide +kernel
theorem dX0_countHanging_47 : decode cX0_countHanging 47 = .ok (.ireturn, 1) := by decide +kernel
theorem dX0_hangs_0 : decode cX0_hangs 0 = .ok (.iload_n 3, 1) := by decide +kernel
theorem dX0_hangs_1 : decode cX0_hangs 1 = .ok (.ifCond .eq 25, 3) := by decide +kernel
theorem dX0_hangs_4 : decode cX0_hangs 4 = .ok (.aload_n 0, 1) := by decide +kernel
theorem dX0_hangs_5 : decode cX0_hangs 5 = .ok (.iload_n 1, 1) := by decide +kernel
theorem dX0_hangs_6 : decode cX0_hangs 6 = .ok (.iload_n 2, 1) := by decide +kernel
theorem dX0_hangs_7 : decode cX0_hangs 7 = .ok (.iload_n 3, 1) := by decide +kernel
theorem dX0_hangs_8 : decode cX0_hangs 8 = .ok (.invokevirtual 23, 3) := by decide +kernel
theorem dX0_hangs_11 : decode cX0_hangs 11 = .ok (.ifCond .eq 15, 3) := by decide +kernel
theorem dX0_hangs_14 : decode cX0_hangs 14 = .ok (.aload_n 0, 1) := by decide +kernel
theorem dX0_hangs_15 : decode cX0_hangs 15 = .ok (.iload_n 1, 1) := by decide +kernel
theorem dX0_hangs_16 : decode cX0_hangs 16 = .ok (.iload_n 2, 1) := by decide +kernel
theorem dX0_hangs_17 : decode cX0_hangs 17 = .ok (.iload_n 3, 1) := by decide +kernel
theorem dX0_hangs_18 : decode cX0_hangs 18 = .ok (.iconst 1, 1) := by decide +kernel
theorem dX0_hangs_19 : decode cX0_hangs 19 = .ok (.isub, 1) := by decide +kernel
theorem dX0_hangs_20 : decode cX0_hangs 20 = .ok (.invokevirtual 23, 3) := by decide +kernel
theorem dX0_hangs_23 : decode cX0_hangs 23 = .ok (.ifCond .eq 5, 3) := by decide +kernel
theorem dX0_hangs_26 : decode cX0_hangs 26 = .ok (.iconst 0, 1) := by decide +kernel
theorem dX0_hangs_27 : decode cX0_hangs 27 = .ok (.ireturn, 1) := by decide +kernel
theorem dX0_hangs_28 : decode cX0_hangs 28 = .ok (.iconst 0, 1) := by decide +kernel
theorem dX0_hangs_29 : decode cX0_hangs 29 = .ok (.istore 4, 2) := by decide +kernel
theorem dX0_hangs_31 : decode cX0_hangs 31 = .ok (.iload 4, 2) := by decide +kernel
theorem dX0_hangs_33 : decode cX0_hangs 33 = .ok (.iconst 4, 1) := by decide +kernel
theorem dX0_hangs_34 : decode cX0_hangs 34 = .ok (.if_icmp .ge 37, 3) := by decide +kernel
theorem dX0_hangs_37 : decode cX0_hangs 37 = .ok (.aload_n 0, 1) := by decide +kernel
theorem dX0_hangs_38 : decode cX0_hangs 38 = .ok (.iload_n 1, 1) := by decide +kernel
theorem dX0_hangs_39 : decode cX0_hangs 39 = .ok (.getstatic 29, 3) := by decide +kernel
theorem dX0_hangs_42 : decode cX0_hangs 42 = .ok (.iload 4, 2) := by decide +kernel
theorem dX0_hangs_44 : decode cX0_hangs 44 = .ok (.iaload, 1) := by decide +kernel
theorem dX0_hangs_45 : decode cX0_hangs 45 = .ok (.iadd, 1) := by decide +kernel
theorem dX0_hangs_46 : decode cX0_hangs 46 = .ok (.iload_n 2, 1) := by decide +kernel
theorem dX0_hangs_47 : decode cX0_hangs 47 = .ok (.getstatic 33, 3) := by decide +kernel
theorem dX0_hangs_50 : decode cX0_hangs 50 = .ok (.iload 4, 2) := by decide +kernel
theorem dX0_hangs_52 : decode cX0_hangs 52 = .ok (.iaload, 1) := by decide +kernel
theorem dX0_hangs_53 : decode cX0_hangs 53 = .ok (.iadd, 1) := by decide +kernel
theorem dX0_hangs_54 : decode cX0_hangs 54 = .ok (.iload_n 3, 1) := by decide +kernel
theorem dX0_hangs_55 : decode cX0_hangs 55 = .ok (.iconst 1, 1) := by decide +kernel
theorem dX0_hangs_56 : decode cX0_hangs 56 = .ok (.isub, 1) := by decide +kernel
theorem dX0_hangs_57 : decode cX0_hangs 57 = .ok (.invokevirtual 23, 3) := by decide +kernel
theorem dX0_hangs_60 : decode cX0_hangs 60 = .ok (.ifCond .eq 5, 3) := by decide +kernel
theorem dX0_hangs_63 : decode cX0_hangs 63 = .ok (.iconst 0, 1) := by decide +kernel
theorem dX0_hangs_64 : decode cX0_hangs 64 = .ok (.ireturn, 1) := by decide +kernel
theorem dX0_hangs_65 : decode cX0_hangs 65 = .ok (.iinc 4 1, 3) := by decide +kernel
theorem dX0_hangs_68 : decode cX0_hangs 68 = .ok (.goto (-37), 3) := by decide +kernel
theorem dX0_hangs_71 : decode cX0_hangs 71 = .ok (.iconst 1, 1) := by decide +kernel
theorem dX0_hangs_72 : decode cX0_hangs 72 = .ok (.ireturn, 1) := by decide +kernel
theorem dX0_isOpen_0 : decode cX0_isOpen 0 = .ok (.iconst 1, 1) := by decide +kernel
theorem dX0_isOpen_1 : decode cX0_isOpen 1 = .ok (.istore 6, 2) := by decide +kernel
theorem dX0_isOpen_3 : decode cX0_isOpen 3 = .ok (.iload 6, 2) := by decide +kernel
theorem dX0_isOpen_5 : decode cX0_isOpen 5 = .ok (.iload 5, 2) := by decide +kernel
theorem dX0_isOpen_7 : decode cX0_isOpen 7 = .ok (.if_icmp .gt 27, 3) := by decide +kernel
theorem dX0_isOpen_10 : decode cX0_isOpen 10 = .ok (.aload_n 0, 1) := by decide +kernel
theorem dX0_isOpen_11 : decode cX0_isOpen 11 = .ok (.iload_n 1, 1) := by decide +kernel
theorem dX0_isOpen_12 : decode cX0_isOpen 12 = .ok (.iload_n 2, 1) := by decide +kernel
theorem dX0_isOpen_13 : decode cX0_isOpen 13 = .ok (.iload_n 3, 1) := by decide +kernel
theorem dX0_isOpen_14 : decode cX0_isOpen 14 = .ok (.iload 6, 2) := by decide +kernel
theorem dX0_isOpen_16 : decode cX0_isOpen 16 = .ok (.iload 4, 2) := by decide +kernel
theorem dX0_isOpen_18 : decode cX0_isOpen 18 = .ok (.imul, 1) := by decide +kernel
theorem dX0_isOpen_19 : decode cX0_isOpen 19 = .ok (.iadd, 1) := by decide +kernel
theorem dX0_isOpen_20 : decode cX0_isOpen 20 = .ok (.invokevirtual 23, 3) := by decide +kernel
theorem dX0_isOpen_23 : decode cX0_isOpen 23 = .ok (.ifCond .ne 5, 3) := by decide +kernel
theorem dX0_isOpen_26 : decode cX0_isOpen 26 = .ok (.iconst 1, 1) := by decide +kernel
theorem dX0_isOpen_27 : decode cX0_isOpen 27 = .ok (.ireturn, 1) := by decide +kernel
theorem dX0_isOpen_28 : decode cX0_isOpen 28 = .ok (.iinc 6 1, 3) := by decide +kernel
theorem dX0_isOpen_31 : decode cX0_isOpen 31 = .ok (.goto (-28), 3) := by decide +kernel
theorem dX0_isOpen_34 : decode cX0_isOpen 34 = .ok (.iconst 0, 1) := by decide +kernel
theorem dX0_isOpen_35 : decode cX0_isOpen 35 = .ok (.ireturn, 1) := by decide +kernel
theorem dX0_firstSolidAbove_0 : decode cX0_firstSolidAbove 0 = .ok (.iload_n 3, 1) := by decide +kernel
theorem dX0_firstSolidAbove_1 : decode cX0_firstSolidAbove 1 = .ok (.iconst 1, 1) := by decide +kernel
theorem dX0_firstSolidAbove_2 : decode cX0_firstSolidAbove 2 = .ok (.iadd, 1) := by decide +kernel
theorem dX0_firstSolidAbove_3 : decode cX0_firstSolidAbove 3 = .ok (.istore 4, 2) := by decide +kernel
theorem dX0_firstSolidAbove_5 : decode cX0_firstSolidAbove 5 = .ok (.iload 4, 2) := by decide +kernel
theorem dX0_firstSolidAbove_7 : decode cX0_firstSolidAbove 7 = .ok (.bipush 12, 2) := by decide +kernel
theorem dX0_firstSolidAbove_9 : decode cX0_firstSolidAbove 9 = .ok (.if_icmp .ge 23, 3) := by decide +kernel
theorem dX0_firstSolidAbove_12 : decode cX0_firstSolidAbove 12 = .ok (.aload_n 0, 1) := by decide +kernel
theorem dX0_firstSolidAbove_13 : decode cX0_firstSolidAbove 13 = .ok (.iload_n 1, 1) := by decide +kernel
theorem dX0_firstSolidAbove_14 : decode cX0_firstSolidAbove 14 = .ok (.iload_n 2, 1) := by decide +kernel
theorem dX0_firstSolidAbove_15 : decode cX0_firstSolidAbove 15 = .ok (.iload 4, 2) := by decide +kernel
theorem dX0_firstSolidAbove_17 : decode cX0_firstSolidAbove 17 = .ok (.invokevirtual 23, 3) := by decide +kernel
theorem dX0_firstSolidAbove_20 : decode cX0_firstSolidAbove 20 = .ok (.ifCond .eq 6, 3) := by decide +kernel
theorem dX0_firstSolidAbove_23 : decode cX0_firstSolidAbove 23 = .ok (.iload 4, 2) := by decide +kernel
theorem dX0_firstSolidAbove_25 : decode cX0_firstSolidAbove 25 = .ok (.ireturn, 1) := by decide +kernel
theorem dX0_firstSolidAbove_26 : decode cX0_firstSolidAbove 26 = .ok (.iinc 4 1, 3) := by decide +kernel
theorem dX0_firstSolidAbove_29 : decode cX0_firstSolidAbove 29 = .ok (.goto (-24), 3) := by decide +kernel
theorem dX0_firstSolidAbove_32 : decode cX0_firstSolidAbove 32 = .ok (.bipush 12, 2) := by decide +kernel
theorem dX0_firstSolidAbove_34 : decode cX0_firstSolidAbove 34 = .ok (.ireturn, 1) := by decide +kernel
theorem dX1_init_0 : decode cX1_init 0 = .ok (.aload_n 0, 1) := by decide +kernel
theorem dX1_init_1 : decode cX1_init 1 = .ok (.invokespecial 3, 3) := by decide +kernel
theorem dX1_init_4 : decode cX1_init 4 = .ok (.aload_n 0, 1) := by decide +kernel
theorem dX1_init_5 : decode cX1_init 5 = .ok (.sipush 6936, 3) := by decide +kernel
theorem dX1_init_8 : decode cX1_init 8 = .ok (.newarray .char, 2) := by decide +kernel
theorem dX1_init_10 : decode cX1_init 10 = .ok (.putfield 9, 3) := by decide +kernel
theorem dX1_init_13 : decode cX1_init 13 = .ok (.aload_n 0, 1) := by decide +kernel
theorem dX1_init_14 : decode cX1_init 14 = .ok (.sipush 6936, 3) := by decide +kernel
theorem dX1_init_17 : decode cX1_init 17 = .ok (.newarray .int, 2) := by decide +kernel
theorem dX1_init_19 : decode cX1_init 19 = .ok (.putfield 15, 3) := by decide +kernel
theorem dX1_init_22 : decode cX1_init 22 = .ok (.aload_n 0, 1) := by decide +kernel
theorem dX1_init_23 : decode cX1_init 23 = .ok (.sipush 6936, 3) := by decide +kernel
theorem dX1_init_26 : decode cX1_init 26 = .ok (.newarray .int, 2) := by decide +kernel
theorem dX1_init_28 : decode cX1_init 28 = .ok (.putfield 19, 3) := by decide +kernel
theorem dX1_init_31 : decode cX1_init 31 = .ok (.aload_n 0, 1) := by decide +kernel
theorem dX1_init_32 : decode cX1_init 32 = .ok (.sipush 6936, 3) := by decide +kernel
theorem dX1_init_35 : decode cX1_init 35 = .ok (.newarray .int, 2) := by decide +kernel
theorem dX1_init_37 : decode cX1_init 37 = .ok (.putfield 22, 3) := by decide +kernel
theorem dX1_init_40 : decode cX1_init 40 = .ok (.aload_n 0, 1) := by decide +kernel
theorem dX1_init_41 : decode cX1_init 41 = .ok (.bipush 12, 2) := by decide +kernel
theorem dX1_init_43 : decode cX1_init 43 = .ok (.newarray .int, 2) := by decide +kernel
theorem dX1_init_45 : decode cX1_init 45 = .ok (.putfield 25, 3) := by decide +kernel
theorem dX1_init_48 : decode cX1_init 48 = .ok (.return_, 1) := by decide +kernel
theorem dX1_clear_0 : decode cX1_clear 0 = .ok (.aload_n 0, 1) := by decide +kernel
theorem dX1_clear_1 : decode cX1_clear 1 = .ok (.iconst 0, 1) := by decide +kernel
theorem dX1_clear_2 : decode cX1_clear 2 = .ok (.putfield 28, 3) := by decide +kernel
theorem dX1_clear_5 : decode cX1_clear 5 = .ok (.aload_n 0, 1) := by decide +kernel
theorem dX1_clear_6 : decode cX1_clear 6 = .ok (.iconst 0, 1) := by decide +kernel
theorem dX1_clear_7 : decode cX1_clear 7 = .ok (.putfield 32, 3) := by decide +kernel
theorem dX1_clear_10 : decode cX1_clear 10 = .ok (.aload_n 0, 1) := by decide +kernel
theorem dX1_clear_11 : decode cX1_clear 11 = .ok (.lconst 0, 1) := by decide +kernel
theorem dX1_clear_12 : decode cX1_clear 12 = .ok (.putfield 35, 3) := by decide +kernel
theorem dX1_clear_15 : decode cX1_clear 15 = .ok (.return_, 1) := by decide +kernel
theorem dX1_keepAmount_0 : decode cX1_keepAmount 0 = .ok (.iload_n 1, 1) := by decide +kernel
theorem dX1_keepAmount_1 : decode cX1_keepAmount 1 = .ok (.invokestatic 39, 3) := by decide +kernel
theorem dX1_keepAmount_4 : decode cX1_keepAmount 4 = .ok (.ifCond .eq 10, 3) := by decide +kernel
theorem dX1_keepAmount_7 : decode cX1_keepAmount 7 = .ok (.aload_n 0, 1) := by decide +kernel
theorem dX1_keepAmount_8 : decode cX1_keepAmount 8 = .ok (.getfield 25, 3) := by decide +kernel
theorem dX1_keepAmount_11 : decode cX1_keepAmount 11 = .ok (.iload_n 1, 1) := by decide +kernel
theorem dX1_keepAmount_12 : decode cX1_keepAmount 12 = .ok (.iload_n 2, 1) := by decide +kernel
theorem dX1_keepAmount_13 : decode cX1_keepAmount 13 = .ok (.iastore, 1) := by decide +kernel
theorem dX1_keepAmount_14 : decode cX1_keepAmount 14 = .ok (.return_, 1) := by decide +kernel
theorem dX1_add_0 : decode cX1_add 0 = .ok (.aload_n 0, 1) := by decide +kernel
theorem dX1_add_1 : decode cX1_add 1 = .ok (.getfield 28, 3) := by decide +kernel
theorem dX1_add_4 : decode cX1_add 4 = .ok (.sipush 6936, 3) := by decide +kernel
theorem dX1_add_7 : decode cX1_add 7 = .ok (.if_icmp .ge 11, 3) := by decide +kernel
theorem dX1_add_10 : decode cX1_add 10 = .ok (.iload 4, 2) := by decide +kernel
theorem dX1_add_12 : decode cX1_add 12 = .ok (.invokestatic 39, 3) := by decide +kernel
theorem dX1_add_15 : decode cX1_add 15 = .ok (.ifCond .ne 4, 3) := by decide +kernel
theorem dX1_add_18 : decode cX1_add 18 = .ok (.return_, 1) := by decide +kernel
theorem dX1_add_19 : decode cX1_add 19 = .ok (.aload_n 0, 1) := by decide +kernel
theorem dX1_add_20 : decode cX1_add 20 = .ok (.aload_n 0, 1) := by decide +kernel
theorem dX1_add_21 : decode cX1_add 21 = .ok (.getfield 28, 3) := by decide +kernel
theorem dX1_add_24 : decode cX1_add 24 = .ok (.iconst 1, 1) := by decide +kernel
theorem dX1_add_25 : decode cX1_add 25 = .ok (.isub, 1) := by decide +kernel
theorem dX1_add_26 : decode cX1_add 26 = .ok (.invokevirtual 43, 3) := by decide +kernel
theorem dX1_add_29 : decode cX1_add 29 = .ok (.aload_n 0, 1) := by decide +kernel
theorem dX1_add_30 : decode cX1_add 30 = .ok (.aload_n 0, 1) := by decide +kernel
theorem dX1_add_31 : decode cX1_add 31 = .ok (.getfield 28, 3) := by decide +kernel
theorem dX1_add_34 : decode cX1_add 34 = .ok (.iconst 1, 1) := by decide +kernel
theorem dX1_add_35 : decode cX1_add 35 = .ok (.isub, 1) := by decide +kernel
theorem dX1_add_36 : decode cX1_add 36 = .ok (.invokevirtual 47, 3) := by decide +kernel
theorem dX1_add_39 : decode cX1_add 39 = .ok (.iload_n 2, 1) := by decide +kernel
theorem dX1_add_40 : decode cX1_add 40 = .ok (.iload_n 3, 1) := by decide +kernel
theorem dX1_add_41 : decode cX1_add 41 = .ok (.invokestatic 50, 3) := by decide +kernel
theorem dX1_add_44 : decode cX1_add 44 = .ok (.istore 5, 2) := by decide +kernel
theorem dX1_add_46 : decode cX1_add 46 = .ok (.iload_n 1, 1) := by decide +kernel
theorem dX1_add_47 : decode cX1_add 47 = .ok (.bipush 103, 2) := by decide +kernel
theorem dX1_add_49 : decode cX1_add 49 = .ok (.if_icmp .ne 17, 3) := by decide +kernel
theorem dX1_add_52 : decode cX1_add 52 = .ok (.aload_n 0, 1) := by decide +kernel
theorem dX1_add_53 : decode cX1_add 53 = .ok (.dup, 1) := by decide +kernel
theorem dX1_add_54 : decode cX1_add 54 = .ok (.getfield 32, 3) := by decide +kernel
theorem dX1_add_57 : decode cX1_add 57 = .ok (.iload 5, 2) := by decide +kernel
theorem dX1_add_59 : decode cX1_add 59 = .ok (.iadd, 1) := by decide +kernel
theorem dX1_add_60 : decode cX1_add 60 = .ok (.putfield 32, 3) := by decide +kernel
theorem dX1_add_63 : decode cX1_add 63 = .ok (.goto 31, 3) := by decide +kernel
theorem dX1_add_66 : decode cX1_add 66 = .ok (.iload_n 1, 1) := by decide +kernel
theorem dX1_add_67 : decode cX1_add 67 = .ok (.bipush 100, 2) := by decide +kernel
theorem dX1_add_69 : decode cX1_add 69 = .ok (.if_icmp .ne 25, 3) := by decide +kernel
theorem dX1_add_72 : decode cX1_add 72 = .ok (.aload_n 0, 1) := by decide +kernel
theorem dX1_add_73 : decode cX1_add 73 = .ok (.dup, 1) := by decide +kernel
theorem dX1_add_74 : decode cX1_add 74 = .ok (.getfield 35, 3) := by decide +kernel
theorem dX1_add_77 : decode cX1_add 77 = .ok (.iload 5, 2) := by decide +kernel
theorem dX1_add_79 : decode cX1_add 79 = .ok (.iconst 1, 1) := by decide +kernel
theorem dX1_add_80 : decode cX1_add 80 = .ok (.iadd, 1) := by decide +kernel
theorem dX1_add_81 : decode cX1_add 81 = .ok (.aload_n 0, 1) := by decide +kernel
theorem dX1_add_82 : decode cX1_add 82 = .ok (.getfield 25, 3) := by decide +kernel
theorem dX1_add_85 : decode cX1_add 85 = .ok (.iload 4, 2) := by decide +kernel
theorem dX1_add_87 : decode cX1_add 87 = .ok (.iaload, 1) := by decide +kernel
theorem dX1_add_88 : decode cX1_add 88 = .ok (.imul, 1) := by decide +kernel
theorem dX1_add_89 : decode cX1_add 89 = .ok (.i2l, 1) := by decide +kernel
theorem dX1_add_90 : decode cX1_add 90 = .ok (.ladd, 1) := by decide +kernel
theorem dX1_add_91 : decode cX1_add 91 = .ok (.putfield 35, 3) := by decide +kernel
theorem dX1_add_94 : decode cX1_add 94 = .ok (.aload_n 0, 1) := by decide +kernel
theorem dX1_add_95 : decode cX1_add 95 = .ok (.getfield 9, 3) := by decide +kernel
theorem dX1_add_98 : decode cX1_add 98 = .ok (.aload_n 0, 1) := by decide +kernel
theorem dX1_add_99 : decode cX1_add 99 = .ok (.getfield 28, 3) := by decide +kernel
theorem dX1_add_102 : decode cX1_add 102 = .ok (.iload_n 1, 1) := by decide +kernel
theorem dX1_add_103 : decode cX1_add 103 = .ok (.castore, 1) := by decide +kernel
theorem dX1_add_104 : decode cX1_add 104 = .ok (.aload_n 0, 1) := by decide +kernel
theorem dX1_add_105 : decode cX1_add 105 = .ok (.getfield 15, 3) := by decide +kernel
theorem dX1_add_108 : decode cX1_add 108 = .ok (.aload_n 0, 1) := by decide +kernel
theorem dX1_add_109 : decode cX1_add 109 = .ok (.getfield 28, 3) := by decide +kernel
theorem dX1_add_112 : decode cX1_add 112 = .ok (.iload_n 2, 1) := by decide +kernel
theorem dX1_add_113 : decode cX1_add 113 = .ok (.iastore, 1) := by decide +kernel
theorem dX1_add_114 : decode cX1_add 114 = .ok (.aload_n 0, 1) := by decide +kernel
theorem dX1_add_115 : decode cX1_add 115 = .ok (.getfield 19, 3) := by decide +kernel
theorem dX1_add_118 : decode cX1_add 118 = .ok (.aload_n 0, 1) := by decide +kernel
theorem dX1_add_119 : decode cX1_add 119 = .ok (.getfield 28, 3) := by decide +kernel
theorem dX1_add_122 : decode cX1_add 122 = .ok (.iload_n 3, 1) := by decide +kernel
theorem dX1_add_123 : decode cX1_add 123 = .ok (.iastore, 1) := by decide +kernel
theorem dX1_add_124 : decode cX1_add 124 = .ok (.aload_n 0, 1) := by decide +kernel
theorem dX1_add_125 : decode cX1_add 125 = .ok (.getfield 22, 3) := by decide +kernel
theorem dX1_add_128 : decode cX1_add 128 = .ok (.aload_n 0, 1) := by decide +kernel
theorem dX1_add_129 : decode cX1_add 129 = .ok (.getfield 28, 3) := by decide +kernel
theorem dX1_add_132 : decode cX1_add 132 = .ok (.iload 4, 2) := by decide +kernel
theorem dX1_add_134 : decode cX1_add 134 = .ok (.iastore, 1) := by decide +kernel
theorem dX1_add_135 : decode cX1_add 135 = .ok (.aload_n 0, 1) := by decide +kernel
theorem dX1_add_136 : decode cX1_add 136 = .ok (.dup, 1) := by decide +kernel
theorem dX1_add_137 : decode cX1_add 137 = .ok (.getfield 28, 3) := by decide +kernel
theorem dX1_add_140 : decode cX1_add 140 = .ok (.iconst 1, 1) := by decide +kernel
theorem dX1_add_141 : decode cX1_add 141 = .ok (.iadd, 1) := by decide +kernel
theorem dX1_add_142 : decode cX1_add 142 = .ok (.putfield 28, 3) := by decide +kernel
theorem dX1_add_145 : decode cX1_add 145 = .ok (.return_, 1) := by decide +kernel
theorem dX1_size_0 : decode cX1_size 0 = .ok (.aload_n 0, 1) := by decide +kernel
theorem dX1_size_1 : decode cX1_size 1 = .ok (.getfield 28, 3) := by decide +kernel
theorem dX1_size_4 : decode cX1_size 4 = .ok (.ireturn, 1) := by decide +kernel
theorem dX1_travelled_0 : decode cX1_travelled 0 = .ok (.aload_n 0, 1) := by decide +kernel
theorem dX1_travelled_1 : decode cX1_travelled 1 = .ok (.getfield 32, 3) := by decide +kernel
theorem dX1_travelled_4 : decode cX1_travelled 4 = .ok (.ireturn, 1) := by decide +kernel
theorem dX1_amountInAll_0 : decode cX1_amountInAll 0 = .ok (.aload_n 0, 1) := by decide +kernel
theorem dX1_amountInAll_1 : decode cX1_amountInAll 1 = .ok (.getfield 35, 3) := by decide +kernel
theorem dX1_amountInAll_4 : decode cX1_amountInAll 4 = .ok (.lreturn, 1) := by decide +kernel
theorem dX1_has_0 : decode cX1_has 0 = .ok (.iload_n 1, 1) := by decide +kernel
theorem dX1_has_1 : decode cX1_has 1 = .ok (.ifCond .lt 15, 3) := by decide +kernel
theorem dX1_has_4 : decode cX1_has 4 = .ok (.iload_n 1, 1) := by decide +kernel
theorem dX1_has_5 : decode cX1_has 5 = .ok (.aload_n 0, 1) := by decide +kernel
theorem dX1_has_6 : decode cX1_has 6 = .ok (.getfield 28, 3) := by decide +kernel
theorem dX1_has_9 : decode cX1_has 9 = .ok (.if_icmp .ge 7, 3) := by decide +kernel
theorem dX1_has_12 : decode cX1_has 12 = .ok (.iconst 1, 1) := by decide +kernel
theorem dX1_has_13 : decode cX1_has 13 = .ok (.goto 4, 3) := by decide +kernel
theorem dX1_has_16 : decode cX1_has 16 = .ok (.iconst 0, 1) := by decide +kernel
theorem dX1_has_17 : decode cX1_has 17 = .ok (.ireturn, 1) := by decide +kernel
theorem dX1_kindOf_0 : decode cX1_kindOf 0 = .ok (.iload_n 1, 1) := by decide +kernel
theorem dX1_kindOf_1 : decode cX1_kindOf 1 = .ok (.ifCond .lt 20, 3) := by decide +kernel
theorem dX1_kindOf_4 : decode cX1_kindOf 4 = .ok (.iload_n 1, 1) := by decide +kernel
theorem dX1_kindOf_5 : decode cX1_kindOf 5 = .ok (.aload_n 0, 1) := by decide +kernel
theorem dX1_kindOf_6 : decode cX1_kindOf 6 = .ok (.getfield 28, 3) := by decide +kernel
theorem dX1_kindOf_9 : decode cX1_kindOf 9 = .ok (.if_icmp .ge 12, 3) := by decide +kernel
theorem dX1_kindOf_12 : decode cX1_kindOf 12 = .ok (.aload_n 0, 1) := by decide +kernel
theorem dX1_kindOf_13 : decode cX1_kindOf 13 = .ok (.getfield 9, 3) := by decide +kernel
theorem dX1_kindOf_16 : decode cX1_kindOf 16 = .ok (.iload_n 1, 1) := by decide +kernel
theorem dX1_kindOf_17 : decode cX1_kindOf 17 = .ok (.caload, 1) := by decide +kernel
theorem dX1_kindOf_18 : decode cX1_kindOf 18 = .ok (.goto 5, 3) := by decide +kernel
theorem dX1_kindOf_21 : decode cX1_kindOf 21 = .ok (.bipush 32, 2) := by decide +kernel
theorem dX1_kindOf_23 : decode cX1_kindOf 23 = .ok (.ireturn, 1) := by decide +kernel
theorem dX1_behindX_0 : decode cX1_behindX 0 = .ok (.iload_n 1, 1) := by decide +kernel
theorem dX1_behindX_1 : decode cX1_behindX 1 = .ok (.ifCond .lt 20, 3) := by decide +kernel
theorem dX1_behindX_4 : decode cX1_behindX 4 = .ok (.iload_n 1, 1) := by decide +kernel
theorem dX1_behindX_5 : decode cX1_behindX 5 = .ok (.aload_n 0, 1) := by decide +kernel
theorem dX1_behindX_6 : decode cX1_behindX 6 = .ok (.getfield 28, 3) := by decide +kernel
theorem dX1_behindX_9 : decode cX1_behindX 9 = .ok (.if_icmp .ge 12, 3) := by decide +kernel
theorem dX1_behindX_12 : decode cX1_behindX 12 = .ok (.aload_n 0, 1) := by decide +kernel
theorem dX1_behindX_13 : decode cX1_behindX 13 = .ok (.getfield 15, 3) := by decide +kernel
theorem dX1_behindX_16 : decode cX1_behindX 16 = .ok (.iload_n 1, 1) := by decide +kernel
theorem dX1_behindX_17 : decode cX1_behindX 17 = .ok (.iaload, 1) := by decide +kernel
theorem dX1_behindX_18 : decode cX1_behindX 18 = .ok (.goto 4, 3) := by decide +kernel
theorem dX1_behindX_21 : decode cX1_behindX 21 = .ok (.iconst 0, 1) := by decide +kernel
theorem dX1_behindX_22 : decode cX1_behindX 22 = .ok (.ireturn, 1) := by decide +kernel
theorem dX1_behindY_0 : decode cX1_behindY 0 = .ok (.iload_n 1, 1) := by decide +kernel
theorem dX1_behindY_1 : decode cX1_behindY 1 = .ok (.ifCond .lt 20, 3) := by decide +kernel
theorem dX1_behindY_4 : decode cX1_behindY 4 = .ok (.iload_n 1, 1) := by decide +kernel
theorem dX1_behindY_5 : decode cX1_behindY 5 = .ok (.aload_n 0, 1) := by decide +kernel
theorem dX1_behindY_6 : decode cX1_behindY 6 = .ok (.getfield 28, 3) := by decide +kernel
theorem dX1_behindY_9 : decode cX1_behindY 9 = .ok (.if_icmp .ge 12, 3) := by decide +kernel
theorem dX1_behindY_12 : decode cX1_behindY 12 = .ok (.aload_n 0, 1) := by decide +kernel
theorem dX1_behindY_13 : decode cX1_behindY 13 = .ok (.getfield 19, 3) := by decide +kernel
theorem dX1_behindY_16 : decode cX1_behindY 16 = .ok (.iload_n 1, 1) := by decide +kernel
theorem dX1_behindY_17 : decode cX1_behindY 17 = .ok (.iaload, 1) := by decide +kernel
theorem dX1_behindY_18 : decode cX1_behindY 18 = .ok (.goto 4, 3) := by decide +kernel
theorem dX1_behindY_21 : decode cX1_behindY 21 = .ok (.iconst 0, 1) := by decide +kernel
theorem dX1_behindY_22 : decode cX1_behindY 22 = .ok (.ireturn, 1) := by decide +kernel
theorem dX1_layerOf_0 : decode cX1_layerOf 0 = .ok (.iload_n 1, 1) := by decide +kernel
theorem dX1_layerOf_1 : decode cX1_layerOf 1 = .ok (.ifCond .lt 20, 3) := by decide +kernel
theorem dX1_layerOf_4 : decode cX1_layerOf 4 = .ok (.iload_n 1, 1) := by decide +kernel
theorem dX1_layerOf_5 : decode cX1_layerOf 5 = .ok (.aload_n 0, 1) := by decide +kernel
theorem dX1_layerOf_6 : decode cX1_layerOf 6 = .ok (.getfield 28, 3) := by decide +kernel
theorem dX1_layerOf_9 : decode cX1_layerOf 9 = .ok (.if_icmp .ge 12, 3) := by decide +kernel
theorem dX1_layerOf_12 : decode cX1_layerOf 12 = .ok (.aload_n 0, 1) := by decide +kernel
theorem dX1_layerOf_13 : decode cX1_layerOf 13 = .ok (.getfield 22, 3) := by decide +kernel
theorem dX1_layerOf_16 : decode cX1_layerOf 16 = .ok (.iload_n 1, 1) := by decide +kernel
theorem dX1_layerOf_17 : decode cX1_layerOf 17 = .ok (.iaload, 1) := by decide +kernel
theorem dX1_layerOf_18 : decode cX1_layerOf 18 = .ok (.goto 4, 3) := by decide +kernel
theorem dX1_layerOf_21 : decode cX1_layerOf 21 = .ok (.iconst 0, 1) := by decide +kernel
theorem dX1_layerOf_22 : decode cX1_layerOf 22 = .ok (.ireturn, 1) := by decide +kernel
theorem dX1_distanceX_0 : decode cX1_distanceX 0 = .ok (.aload_n 0, 1) := by decide +kernel
theorem dX1_distanceX_1 : decode cX1_distanceX 1 = .ok (.iload_n 1, 1) := by decide +kernel
theorem dX1_distanceX_2 : decode cX1_distanceX 2 = .ok (.invokevirtual 43, 3) := by decide +kernel
theorem dX1_distanceX_5 : decode cX1_distanceX 5 = .ok (.aload_n 0, 1) := by decide +kernel
theorem dX1_distanceX_6 : decode cX1_distanceX 6 = .ok (.iload_n 1, 1) := by decide +kernel
theorem dX1_distanceX_7 : decode cX1_distanceX 7 = .ok (.iconst 1, 1) := by decide +kernel
theorem dX1_distanceX_8 : decode cX1_distanceX 8 = .ok (.isub, 1) := by decide +kernel
theorem dX1_distanceX_9 : decode cX1_distanceX 9 = .ok (.invokevirtual 43, 3) := by decide +kernel
theorem dX1_distanceX_12 : decode cX1_distanceX 12 = .ok (.isub, 1) := by decide +kernel
theorem dX1_distanceX_13 : decode cX1_distanceX 13 = .ok (.ireturn, 1) := by decide +kernel
theorem dX1_distanceY_0 : decode cX1_distanceY 0 = .ok (.aload_n 0, 1) := by decide +kernel
theorem dX1_distanceY_1 : decode cX1_distanceY 1 = .ok (.iload_n 1, 1) := by decide +kernel
theorem dX1_distanceY_2 : decode cX1_distanceY 2 = .ok (.invokevirtual 47, 3) := by decide +kernel
theorem dX1_distanceY_5 : decode cX1_distanceY 5 = .ok (.aload_n 0, 1) := by decide +kernel
theorem dX1_distanceY_6 : decode cX1_distanceY 6 = .ok (.iload_n 1, 1) := by decide +kernel
theorem dX1_distanceY_7 : decode cX1_distanceY 7 = .ok (.iconst 1, 1) := by decide +kernel
theorem dX1_distanceY_8 : decode cX1_distanceY 8 = .ok (.isub, 1) := by decide +kernel
theorem dX1_distanceY_9 : decode cX1_distanceY 9 = .ok (.invokevirtual 47, 3) := by decide +kernel
theorem dX1_distanceY_12 : decode cX1_distanceY 12 = .ok (.isub, 1) := by decide +kernel
theorem dX1_distanceY_13 : decode cX1_distanceY 13 = .ok (.ireturn, 1) := by decide +kernel
theorem dX1_isMove_0 : decode cX1_isMove 0 = .ok (.aload_n 0, 1) := by decide +kernel
theorem dX1_isMove_1 : decode cX1_isMove 1 = .ok (.iload_n 1, 1) := by decide +kernel
theorem dX1_isMove_2 : decode cX1_isMove 2 = .ok (.invokevirtual 54, 3) := by decide +kernel
theorem dX1_isMove_5 : decode cX1_isMove 5 = .ok (.bipush 103, 2) := by decide +kernel
theorem dX1_isMove_7 : decode cX1_isMove 7 = .ok (.if_icmp .eq 13, 3) := by decide +kernel
theorem dX1_isMove_10 : decode cX1_isMove 10 = .ok (.aload_n 0, 1) := by decide +kernel
theorem dX1_isMove_11 : decode cX1_isMove 11 = .ok (.iload_n 1, 1) := by decide +kernel
theorem dX1_isMove_12 : decode cX1_isMove 12 = .ok (.invokevirtual 54, 3) := by decide +kernel
theorem dX1_isMove_15 : decode cX1_isMove 15 = .ok (.bipush 100, 2) := by decide +kernel
theorem dX1_isMove_17 : decode cX1_isMove 17 = .ok (.if_icmp .ne 7, 3) := by decide +kernel
theorem dX1_isMove_20 : decode cX1_isMove 20 = .ok (.iconst 1, 1) := by decide +kernel
theorem dX1_isMove_21 : decode cX1_isMove 21 = .ok (.goto 4, 3) := by decide +kernel
theorem dX1_isMove_24 : decode cX1_isMove 24 = .ok (.iconst 0, 1) := by decide +kernel
theorem dX1_isMove_25 : decode cX1_isMove 25 = .ok (.ireturn, 1) := by decide +kernel
theorem dX1_hasNumber_0 : decode cX1_hasNumber 0 = .ok (.iload_n 2, 1) := by decide +kernel
theorem dX1_hasNumber_1 : decode cX1_hasNumber 1 = .ok (.lookupswitch 57 #[(97, 41), (120, 35), (121, 35)], 35) := by decide +kernel
theorem dX1_hasNumber_36 : decode cX1_hasNumber 36 = .ok (.aload_n 0, 1) := by decide +kernel
theorem dX1_hasNumber_37 : decode cX1_hasNumber 37 = .ok (.iload_n 1, 1) := by decide +kernel
theorem dX1_hasNumber_38 : decode cX1_hasNumber 38 = .ok (.invokevirtual 58, 3) := by decide +kernel
theorem dX1_hasNumber_41 : decode cX1_hasNumber 41 = .ok (.ireturn, 1) := by decide +kernel
theorem dX1_hasNumber_42 : decode cX1_hasNumber 42 = .ok (.aload_n 0, 1) := by decide +kernel
theorem dX1_hasNumber_43 : decode cX1_hasNumber 43 = .ok (.iload_n 1, 1) := by decide +kernel
theorem dX1_hasNumber_44 : decode cX1_hasNumber 44 = .ok (.invokevirtual 54, 3) := by decide +kernel
theorem dX1_hasNumber_47 : decode cX1_hasNumber 47 = .ok (.bipush 100, 2) := by decide +kernel
theorem dX1_hasNumber_49 : decode cX1_hasNumber 49 = .ok (.if_icmp .ne 7, 3) := by decide +kernel
theorem dX1_hasNumber_52 : decode cX1_hasNumber 52 = .ok (.iconst 1, 1) := by decide +kernel
theorem dX1_hasNumber_53 : decode cX1_hasNumber 53 = .ok (.goto 4, 3) := by decide +kernel
theorem dX1_hasNumber_56 : decode cX1_hasNumber 56 = .ok (.iconst 0, 1) := by decide +kernel
theorem dX1_hasNumber_57 : decode cX1_hasNumber 57 = .ok (.ireturn, 1) := by decide +kernel
theorem dX1_hasNumber_58 : decode cX1_hasNumber 58 = .ok (.aload_n 0, 1) := by decide +kernel
theorem dX1_hasNumber_59 : decode cX1_hasNumber 59 = .ok (.iload_n 1, 1) := by decide +kernel
theorem dX1_hasNumber_60 : decode cX1_hasNumber 60 = .ok (.invokevirtual 54, 3) := by decide +kernel
theorem dX1_hasNumber_63 : decode cX1_hasNumber 63 = .ok (.bipush 122, 2) := by decide +kernel
theorem dX1_hasNumber_65 : decode cX1_hasNumber 65 = .ok (.if_icmp .ne 7, 3) := by decide +kernel
theorem dX1_hasNumber_68 : decode cX1_hasNumber 68 = .ok (.iconst 1, 1) := by decide +kernel
theorem dX1_hasNumber_69 : decode cX1_hasNumber 69 = .ok (.goto 4, 3) := by decide +kernel
theorem dX1_hasNumber_72 : decode cX1_hasNumber 72 = .ok (.iconst 0, 1) := by decide +kernel
theorem dX1_hasNumber_73 : decode cX1_hasNumber 73 = .ok (.ireturn, 1) := by decide +kernel
theorem dX1_numberOf_0 : decode cX1_numberOf 0 = .ok (.iload_n 2, 1) := by decide +kernel
theorem dX1_numberOf_1 : decode cX1_numberOf 1 = .ok (.lookupswitch 59 #[(97, 47), (120, 35), (121, 41)], 35) := by decide +kernel
theorem dX1_numberOf_36 : decode cX1_numberOf 36 = .ok (.aload_n 0, 1) := by decide +kernel
theorem dX1_numberOf_37 : decode cX1_numberOf 37 = .ok (.iload_n 1, 1) := by decide +kernel
theorem dX1_numberOf_38 : decode cX1_numberOf 38 = .ok (.invokevirtual 43, 3) := by decide +kernel
theorem dX1_numberOf_41 : decode cX1_numberOf 41 = .ok (.ireturn, 1) := by decide +kernel
theorem dX1_numberOf_42 : decode cX1_numberOf 42 = .ok (.aload_n 0, 1) := by decide +kernel
theorem dX1_numberOf_43 : decode cX1_numberOf 43 = .ok (.iload_n 1, 1) := by decide +kernel
theorem dX1_numberOf_44 : decode cX1_numberOf 44 = .ok (.invokevirtual 47, 3) := by decide +kernel
theorem dX1_numberOf_47 : decode cX1_numberOf 47 = .ok (.ireturn, 1) := by decide +kernel
theorem dX1_numberOf_48 : decode cX1_numberOf 48 = .ok (.aload_n 0, 1) := by decide +kernel
theorem dX1_numberOf_49 : decode cX1_numberOf 49 = .ok (.iload_n 1, 1) := by decide +kernel
theorem dX1_numberOf_50 : decode cX1_numberOf 50 = .ok (.invokevirtual 61, 3) := by decide +kernel
theorem dX1_numberOf_53 : decode cX1_numberOf 53 = .ok (.aload_n 0, 1) := by decide +kernel
theorem dX1_numberOf_54 : decode cX1_numberOf 54 = .ok (.iload_n 1, 1) := by decide +kernel
theorem dX1_numberOf_55 : decode cX1_numberOf 55 = .ok (.invokevirtual 64, 3) := by decide +kernel
theorem dX1_numberOf_58 : decode cX1_numberOf 58 = .ok (.imul, 1) := by decide +kernel
theorem dX1_numberOf_59 : decode cX1_numberOf 59 = .ok (.ireturn, 1) := by decide +kernel
theorem dX1_numberOf_60 : decode cX1_numberOf 60 = .ok (.aload_n 0, 1) := by decide +kernel
theorem dX1_numberOf_61 : decode cX1_numberOf 61 = .ok (.iload_n 1, 1) := by decide +kernel
theorem dX1_numberOf_62 : decode cX1_numberOf 62 = .ok (.invokevirtual 67, 3) := by decide +kernel
theorem dX1_numberOf_65 : decode cX1_numberOf 65 = .ok (.ireturn, 1) := by decide +kernel
theorem dX1_cellAmount_0 : decode cX1_cellAmount 0 = .ok (.aload_n 0, 1) := by decide +kernel
theorem dX1_cellAmount_1 : decode cX1_cellAmount 1 = .ok (.iload_n 1, 1) := by decide +kernel
theorem dX1_cellAmount_2 : decode cX1_cellAmount 2 = .ok (.invokevirtual 67, 3) := by decide +kernel
theorem dX1_cellAmount_5 : decode cX1_cellAmount 5 = .ok (.istore_n 2, 1) := by decide +kernel
theorem dX1_cellAmount_6 : decode cX1_cellAmount 6 = .ok (.iload_n 2, 1) := by decide +kernel
theorem dX1_cellAmount_7 : decode cX1_cellAmount 7 = .ok (.invokestatic 39, 3) := by decide +kernel
theorem dX1_cellAmount_10 : decode cX1_cellAmount 10 = .ok (.ifCond .eq 12, 3) := by decide +kernel
theorem dX1_cellAmount_13 : decode cX1_cellAmount 13 = .ok (.aload_n 0, 1) := by decide +kernel
theorem dX1_cellAmount_14 : decode cX1_cellAmount 14 = .ok (.getfield 25, 3) := by decide +kernel
theorem dX1_cellAmount_17 : decode cX1_cellAmount 17 = .ok (.iload_n 2, 1) := by decide +kernel
theorem dX1_cellAmount_18 : decode cX1_cellAmount 18 = .ok (.iaload, 1) := by decide +kernel
theorem dX1_cellAmount_19 : decode cX1_cellAmount 19 = .ok (.goto 4, 3) := by decide +kernel
theorem dX1_cellAmount_22 : decode cX1_cellAmount 22 = .ok (.iconst 0, 1) := by decide +kernel
theorem dX1_cellAmount_23 : decode cX1_cellAmount 23 = .ok (.ireturn, 1) := by decide +kernel
theorem dX1_cellsOf_0 : decode cX1_cellsOf 0 = .ok (.aload_n 0, 1) := by decide +kernel
theorem dX1_cellsOf_1 : decode cX1_cellsOf 1 = .ok (.iload_n 1, 1) := by decide +kernel
theorem dX1_cellsOf_2 : decode cX1_cellsOf 2 = .ok (.invokevirtual 70, 3) := by decide +kernel
theorem dX1_cellsOf_5 : decode cX1_cellsOf 5 = .ok (.invokestatic 73, 3) := by decide +kernel
theorem dX1_cellsOf_8 : decode cX1_cellsOf 8 = .ok (.aload_n 0, 1) := by decide +kernel
theorem dX1_cellsOf_9 : decode cX1_cellsOf 9 = .ok (.iload_n 1, 1) := by decide +kernel
theorem dX1_cellsOf_10 : decode cX1_cellsOf 10 = .ok (.invokevirtual 78, 3) := by decide +kernel
theorem dX1_cellsOf_13 : decode cX1_cellsOf 13 = .ok (.invokestatic 73, 3) := by decide +kernel
theorem dX1_cellsOf_16 : decode cX1_cellsOf 16 = .ok (.iadd, 1) := by decide +kernel
theorem dX1_cellsOf_17 : decode cX1_cellsOf 17 = .ok (.iconst 1, 1) := by decide +kernel
theorem dX1_cellsOf_18 : decode cX1_cellsOf 18 = .ok (.iadd, 1) := by decide +kernel
theorem dX1_cellsOf_19 : decode cX1_cellsOf 19 = .ok (.ireturn, 1) := by decide +kernel
theorem dX1_lengthOf_0 : decode cX1_lengthOf 0 = .ok (.bipush 10, 2) := by decide +kernel
theorem dX1_lengthOf_2 : decode cX1_lengthOf 2 = .ok (.aload_n 0, 1) := by decide +kernel
theorem dX1_lengthOf_3 : decode cX1_lengthOf 3 = .ok (.iload_n 1, 1) := by decide +kernel
theorem dX1_lengthOf_4 : decode cX1_lengthOf 4 = .ok (.invokevirtual 70, 3) := by decide +kernel
theorem dX1_lengthOf_7 : decode cX1_lengthOf 7 = .ok (.invokestatic 73, 3) := by decide +kernel
theorem dX1_lengthOf_10 : decode cX1_lengthOf 10 = .ok (.aload_n 0, 1) := by decide +kernel
theorem dX1_lengthOf_11 : decode cX1_lengthOf 11 = .ok (.iload_n 1, 1) := by decide +kernel
theorem dX1_lengthOf_12 : decode cX1_lengthOf 12 = .ok (.invokevirtual 78, 3) := by decide +kernel
theorem dX1_lengthOf_15 : decode cX1_lengthOf 15 = .ok (.invokestatic 73, 3) := by decide +kernel
theorem dX1_lengthOf_18 : decode cX1_lengthOf 18 = .ok (.invokestatic 81, 3) := by decide +kernel
theorem dX1_lengthOf_21 : decode cX1_lengthOf 21 = .ok (.imul, 1) := by decide +kernel
theorem dX1_lengthOf_22 : decode cX1_lengthOf 22 = .ok (.ireturn, 1) := by decide +kernel
theorem dX1_greatestSpeed_0 : decode cX1_greatestSpeed 0 = .ok (.aload_n 0, 1) := by decide +kernel
theorem dX1_greatestSpeed_1 : decode cX1_greatestSpeed 1 = .ok (.iload_n 1, 1) := by decide +kernel
theorem dX1_greatestSpeed_2 : decode cX1_greatestSpeed 2 = .ok (.invokevirtual 54, 3) := by decide +kernel
theorem dX1_greatestSpeed_5 : decode cX1_greatestSpeed 5 = .ok (.bipush 103, 2) := by decide +kernel
theorem dX1_greatestSpeed_7 : decode cX1_greatestSpeed 7 = .ok (.if_icmp .ne 8, 3) := by decide +kernel
theorem dX1_greatestSpeed_10 : decode cX1_greatestSpeed 10 = .ok (.bipush 8, 2) := by decide +kernel
theorem dX1_greatestSpeed_12 : decode cX1_greatestSpeed 12 = .ok (.goto 4, 3) := by decide +kernel
theorem dX1_greatestSpeed_15 : decode cX1_greatestSpeed 15 = .ok (.iconst 4, 1) := by decide +kernel
theorem dX1_greatestSpeed_16 : decode cX1_greatestSpeed 16 = .ok (.ireturn, 1) := by decide +kernel
theorem dX1_goesOn_0 : decode cX1_goesOn 0 = .ok (.aload_n 0, 1) := by decide +kernel
theorem dX1_goesOn_1 : decode cX1_goesOn 1 = .ok (.iload_n 1, 1) := by decide +kernel
theorem dX1_goesOn_2 : decode cX1_goesOn 2 = .ok (.invokevirtual 58, 3) := by decide +kernel
theorem dX1_goesOn_5 : decode cX1_goesOn 5 = .ok (.ifCond .eq 13, 3) := by decide +kernel
theorem dX1_goesOn_8 : decode cX1_goesOn 8 = .ok (.aload_n 0, 1) := by decide +kernel
theorem dX1_goesOn_9 : decode cX1_goesOn 9 = .ok (.iload_n 1, 1) := by decide +kernel
theorem dX1_goesOn_10 : decode cX1_goesOn 10 = .ok (.iconst 1, 1) := by decide +kernel
theorem dX1_goesOn_11 : decode cX1_goesOn 11 = .ok (.iadd, 1) := by decide +kernel
theorem dX1_goesOn_12 : decode cX1_goesOn 12 = .ok (.invokevirtual 58, 3) := by decide +kernel
theorem dX1_goesOn_15 : decode cX1_goesOn 15 = .ok (.ifCond .ne 5, 3) := by decide +kernel
theorem dX1_goesOn_18 : decode cX1_goesOn 18 = .ok (.iconst 0, 1) := by decide +kernel
theorem dX1_goesOn_19 : decode cX1_goesOn 19 = .ok (.ireturn, 1) := by decide +kernel
theorem dX1_goesOn_20 : decode cX1_goesOn 20 = .ok (.aload_n 0, 1) := by decide +kernel
theorem dX1_goesOn_21 : decode cX1_goesOn 21 = .ok (.iload_n 1, 1) := by decide +kernel
theorem dX1_goesOn_22 : decode cX1_goesOn 22 = .ok (.invokevirtual 70, 3) := by decide +kernel
theorem dX1_goesOn_25 : decode cX1_goesOn 25 = .ok (.invokestatic 85, 3) := by decide +kernel
theorem dX1_goesOn_28 : decode cX1_goesOn 28 = .ok (.istore_n 2, 1) := by decide +kernel
theorem dX1_goesOn_29 : decode cX1_goesOn 29 = .ok (.aload_n 0, 1) := by decide +kernel
theorem dX1_goesOn_30 : decode cX1_goesOn 30 = .ok (.iload_n 1, 1) := by decide +kernel
theorem dX1_goesOn_31 : decode cX1_goesOn 31 = .ok (.invokevirtual 78, 3) := by decide +kernel
theorem dX1_goesOn_34 : decode cX1_goesOn 34 = .ok (.invokestatic 85, 3) := by decide +kernel
theorem dX1_goesOn_37 : decode cX1_goesOn 37 = .ok (.istore_n 3, 1) := by decide +kernel
theorem dX1_goesOn_38 : decode cX1_goesOn 38 = .ok (.iload_n 2, 1) := by decide +kernel
theorem dX1_goesOn_39 : decode cX1_goesOn 39 = .ok (.ifCond .ne 7, 3) := by decide +kernel
theorem dX1_goesOn_42 : decode cX1_goesOn 42 = .ok (.iload_n 3, 1) := by decide +kernel
theorem dX1_goesOn_43 : decode cX1_goesOn 43 = .ok (.ifCond .eq 35, 3) := by decide +kernel
theorem dX1_goesOn_46 : decode cX1_goesOn 46 = .ok (.iload_n 2, 1) := by decide +kernel
theorem dX1_goesOn_47 : decode cX1_goesOn 47 = .ok (.aload_n 0, 1) := by decide +kernel
theorem dX1_goesOn_48 : decode cX1_goesOn 48 = .ok (.iload_n 1, 1) := by decide +kernel
theorem dX1_goesOn_49 : decode cX1_goesOn 49 = .ok (.iconst 1, 1) := by decide +kernel
theorem dX1_goesOn_50 : decode cX1_goesOn 50 = .ok (.iadd, 1) := by decide +kernel
theorem dX1_goesOn_51 : decode cX1_goesOn 51 = .ok (.invokevirtual 70, 3) := by decide +kernel
theorem dX1_goesOn_54 : decode cX1_goesOn 54 = .ok (.invokestatic 85, 3) := by decide +kernel
theorem dX1_goesOn_57 : decode cX1_goesOn 57 = .ok (.if_icmp .ne 21, 3) := by decide +kernel
theorem dX1_goesOn_60 : decode cX1_goesOn 60 = .ok (.iload_n 3, 1) := by decide +kernel
theorem dX1_goesOn_61 : decode cX1_goesOn 61 = .ok (.aload_n 0, 1) := by decide +kernel
theorem dX1_goesOn_62 : decode cX1_goesOn 62 = .ok (.iload_n 1, 1) := by decide +kernel
theorem dX1_goesOn_63 : decode cX1_goesOn 63 = .ok (.iconst 1, 1) := by decide +kernel
theorem dX1_goesOn_64 : decode cX1_goesOn 64 = .ok (.iadd, 1) := by decide +kernel
theorem dX1_goesOn_65 : decode cX1_goesOn 65 = .ok (.invokevirtual 78, 3) := by decide +kernel
theorem dX1_goesOn_68 : decode cX1_goesOn 68 = .ok (.invokestatic 85, 3) := by decide +kernel
theorem dX1_goesOn_71 : decode cX1_goesOn 71 = .ok (.if_icmp .ne 7, 3) := by decide +kernel
theorem dX1_goesOn_74 : decode cX1_goesOn 74 = .ok (.iconst 1, 1) := by decide +kernel
theorem dX1_goesOn_75 : decode cX1_goesOn 75 = .ok (.goto 4, 3) := by decide +kernel
theorem dX1_goesOn_78 : decode cX1_goesOn 78 = .ok (.iconst 0, 1) := by decide +kernel
theorem dX1_goesOn_79 : decode cX1_goesOn 79 = .ok (.ireturn, 1) := by decide +kernel
theorem dX1_lastSpeed_0 : decode cX1_lastSpeed 0 = .ok (.aload_n 0, 1) := by decide +kernel
theorem dX1_lastSpeed_1 : decode cX1_lastSpeed 1 = .ok (.iload_n 1, 1) := by decide +kernel
theorem dX1_lastSpeed_2 : decode cX1_lastSpeed 2 = .ok (.invokevirtual 88, 3) := by decide +kernel
theorem dX1_lastSpeed_5 : decode cX1_lastSpeed 5 = .ok (.ifCond .eq 21, 3) := by decide +kernel
theorem dX1_lastSpeed_8 : decode cX1_lastSpeed 8 = .ok (.aload_n 0, 1) := by decide +kernel
theorem dX1_lastSpeed_9 : decode cX1_lastSpeed 9 = .ok (.iload_n 1, 1) := by decide +kernel
theorem dX1_lastSpeed_10 : decode cX1_lastSpeed 10 = .ok (.invokevirtual 91, 3) := by decide +kernel
theorem dX1_lastSpeed_13 : decode cX1_lastSpeed 13 = .ok (.aload_n 0, 1) := by decide +kernel
theorem dX1_lastSpeed_14 : decode cX1_lastSpeed 14 = .ok (.iload_n 1, 1) := by decide +kernel
theorem dX1_lastSpeed_15 : decode cX1_lastSpeed 15 = .ok (.iconst 1, 1) := by decide +kernel
theorem dX1_lastSpeed_16 : decode cX1_lastSpeed 16 = .ok (.iadd, 1) := by decide +kernel
theorem dX1_lastSpeed_17 : decode cX1_lastSpeed 17 = .ok (.invokevirtual 91, 3) := by decide +kernel
theorem dX1_lastSpeed_20 : decode cX1_lastSpeed 20 = .ok (.invokestatic 94, 3) := by decide +kernel
theorem dX1_lastSpeed_23 : decode cX1_lastSpeed 23 = .ok (.goto 4, 3) := by decide +kernel
theorem dX1_lastSpeed_26 : decode cX1_lastSpeed 26 = .ok (.iconst 1, 1) := by decide +kernel
theorem dX1_lastSpeed_27 : decode cX1_lastSpeed 27 = .ok (.ireturn, 1) := by decide +kernel
theorem dX2_init_0 : decode cX2_init 0 = .ok (.aload_n 0, 1) := by decide +kernel
theorem dX2_init_1 : decode cX2_init 1 = .ok (.invokespecial 1, 3) := by decide +kernel
theorem dX2_init_4 : decode cX2_init 4 = .ok (.aload_n 0, 1) := by decide +kernel
theorem dX2_init_5 : decode cX2_init 5 = .ok (.bipush 20, 2) := by decide +kernel
theorem dX2_init_7 : decode cX2_init 7 = .ok (.putfield 9, 3) := by decide +kernel
theorem dX2_init_10 : decode cX2_init 10 = .ok (.return_, 1) := by decide +kernel
theorem dX2_changeTarget_0 : decode cX2_changeTarget 0 = .ok (.aload_n 0, 1) := by decide +kernel
theorem dX2_changeTarget_1 : decode cX2_changeTarget 1 = .ok (.getfield 13, 3) := by decide +kernel
theorem dX2_changeTarget_4 : decode cX2_changeTarget 4 = .ok (.istore_n 2, 1) := by decide +kernel
theorem dX2_changeTarget_5 : decode cX2_changeTarget 5 = .ok (.aload_n 0, 1) := by decide +kernel
theorem dX2_changeTarget_6 : decode cX2_changeTarget 6 = .ok (.iload_n 1, 1) := by decide +kernel
theorem dX2_changeTarget_7 : decode cX2_changeTarget 7 = .ok (.putfield 13, 3) := by decide +kernel
theorem dX2_changeTarget_10 : decode cX2_changeTarget 10 = .ok (.iload_n 2, 1) := by decide +kernel
theorem dX2_changeTarget_11 : decode cX2_changeTarget 11 = .ok (.ireturn, 1) := by decide +kernel
theorem dX2_turnOff_0 : decode cX2_turnOff 0 = .ok (.aload_n 0, 1) := by decide +kernel
theorem dX2_turnOff_1 : decode cX2_turnOff 1 = .ok (.iconst 0, 1) := by decide +kernel
theorem dX2_turnOff_2 : decode cX2_turnOff 2 = .ok (.putfield 13, 3) := by decide +kernel
theorem dX2_turnOff_5 : decode cX2_turnOff 5 = .ok (.aload_n 0, 1) := by decide +kernel
theorem dX2_turnOff_6 : decode cX2_turnOff 6 = .ok (.iconst 0, 1) := by decide +kernel
theorem dX2_turnOff_7 : decode cX2_turnOff 7 = .ok (.putfield 16, 3) := by decide +kernel
theorem dX2_turnOff_10 : decode cX2_turnOff 10 = .ok (.return_, 1) := by decide +kernel
theorem dX2_passTick_0 : decode cX2_passTick 0 = .ok (.aload_n 0, 1) := by decide +kernel
theorem dX2_passTick_1 : decode cX2_passTick 1 = .ok (.getfield 9, 3) := by decide +kernel
theorem dX2_passTick_4 : decode cX2_passTick 4 = .ok (.aload_n 0, 1) := by decide +kernel
theorem dX2_passTick_5 : decode cX2_passTick 5 = .ok (.getfield 13, 3) := by decide +kernel
theorem dX2_passTick_8 : decode cX2_passTick 8 = .ok (.iconst 2, 1) := by decide +kernel
theorem dX2_passTick_9 : decode cX2_passTick 9 = .ok (.isub, 1) := by decide +kernel
theorem dX2_passTick_10 : decode cX2_passTick 10 = .ok (.if_icmp .ge 11, 3) := by decide +kernel
theorem dX2_passTick_13 : decode cX2_passTick 13 = .ok (.aload_n 0, 1) := by decide +kernel
theorem dX2_passTick_14 : decode cX2_passTick 14 = .ok (.iconst 1, 1) := by decide +kernel
theorem dX2_passTick_15 : decode cX2_passTick 15 = .ok (.putfield 16, 3) := by decide +kernel
theorem dX2_passTick_18 : decode cX2_passTick 18 = .ok (.goto 21, 3) := by decide +kernel
theorem dX2_passTick_21 : decode cX2_passTick 21 = .ok (.aload_n 0, 1) := by decide +kernel
theorem dX2_passTick_22 : decode cX2_passTick 22 = .ok (.getfield 9, 3) := by decide +kernel
theorem dX2_passTick_25 : decode cX2_passTick 25 = .ok (.aload_n 0, 1) := by decide +kernel
theorem dX2_passTick_26 : decode cX2_passTick 26 = .ok (.getfield 13, 3) := by decide +kernel
theorem dX2_passTick_29 : decode cX2_passTick 29 = .ok (.iconst 2, 1) := by decide +kernel
theorem dX2_passTick_30 : decode cX2_passTick 30 = .ok (.iadd, 1) := by decide +kernel
theorem dX2_passTick_31 : decode cX2_passTick 31 = .ok (.if_icmp .le 8, 3) := by decide +kernel
theorem dX2_passTick_34 : decode cX2_passTick 34 = .ok (.aload_n 0, 1) := by decide +kernel
theorem dX2_passTick_35 : decode cX2_passTick 35 = .ok (.iconst 0, 1) := by decide +kernel
theorem dX2_passTick_36 : decode cX2_passTick 36 = .ok (.putfield 16, 3) := by decide +kernel
theorem dX2_passTick_39 : decode cX2_passTick 39 = .ok (.aload_n 0, 1) := by decide +kernel
theorem dX2_passTick_40 : decode cX2_passTick 40 = .ok (.aload_n 0, 1) := by decide +kernel
theorem dX2_passTick_41 : decode cX2_passTick 41 = .ok (.getfield 16, 3) := by decide +kernel
theorem dX2_passTick_44 : decode cX2_passTick 44 = .ok (.ifCond .eq 12, 3) := by decide +kernel
theorem dX2_passTick_47 : decode cX2_passTick 47 = .ok (.aload_n 0, 1) := by decide +kernel
theorem dX2_passTick_48 : decode cX2_passTick 48 = .ok (.getfield 9, 3) := by decide +kernel
theorem dX2_passTick_51 : decode cX2_passTick 51 = .ok (.iconst 3, 1) := by decide +kernel
theorem dX2_passTick_52 : decode cX2_passTick 52 = .ok (.iadd, 1) := by decide +kernel
theorem dX2_passTick_53 : decode cX2_passTick 53 = .ok (.goto 14, 3) := by decide +kernel
theorem dX2_passTick_56 : decode cX2_passTick 56 = .ok (.aload_n 0, 1) := by decide +kernel
theorem dX2_passTick_57 : decode cX2_passTick 57 = .ok (.getfield 9, 3) := by decide +kernel
theorem dX2_passTick_60 : decode cX2_passTick 60 = .ok (.iconst 1, 1) := by decide +kernel
theorem dX2_passTick_61 : decode cX2_passTick 61 = .ok (.isub, 1) := by decide +kernel
theorem dX2_passTick_62 : decode cX2_passTick 62 = .ok (.bipush 20, 2) := by decide +kernel
theorem dX2_passTick_64 : decode cX2_passTick 64 = .ok (.invokestatic 20, 3) := by decide +kernel
theorem dX2_passTick_67 : decode cX2_passTick 67 = .ok (.putfield 9, 3) := by decide +kernel
theorem dX2_passTick_70 : decode cX2_passTick 70 = .ok (.return_, 1) := by decide +kernel
theorem dX2_isEnough_0 : decode cX2_isEnough 0 = .ok (.aload_n 0, 1) := by decide +kernel
theorem dX2_isEnough_1 : decode cX2_isEnough 1 = .ok (.getfield 13, 3) := by decide +kernel
theorem dX2_isEnough_4 : decode cX2_isEnough 4 = .ok (.sipush 150, 3) := by decide +kernel
theorem dX2_isEnough_7 : decode cX2_isEnough 7 = .ok (.if_icmp .lt 21, 3) := by decide +kernel
theorem dX2_isEnough_10 : decode cX2_isEnough 10 = .ok (.aload_n 0, 1) := by decide +kernel
theorem dX2_isEnough_11 : decode cX2_isEnough 11 = .ok (.getfield 9, 3) := by decide +kernel
theorem dX2_isEnough_14 : decode cX2_isEnough 14 = .ok (.aload_n 0, 1) := by decide +kernel
theorem dX2_isEnough_15 : decode cX2_isEnough 15 = .ok (.getfield 13, 3) := by decide +kernel
theorem dX2_isEnough_18 : decode cX2_isEnough 18 = .ok (.bipush 10, 2) := by decide +kernel
theorem dX2_isEnough_20 : decode cX2_isEnough 20 = .ok (.isub, 1) := by decide +kernel
theorem dX2_isEnough_21 : decode cX2_isEnough 21 = .ok (.if_icmp .lt 7, 3) := by decide +kernel
theorem dX2_isEnough_24 : decode cX2_isEnough 24 = .ok (.iconst 1, 1) := by decide +kernel
theorem dX2_isEnough_25 : decode cX2_isEnough 25 = .ok (.goto 4, 3) := by decide +kernel
theorem dX2_isEnough_28 : decode cX2_isEnough 28 = .ok (.iconst 0, 1) := by decide +kernel
theorem dX2_isEnough_29 : decode cX2_isEnough 29 = .ok (.ireturn, 1) := by decide +kernel
theorem dX2_currentTemperature_0 : decode cX2_currentTemperature 0 = .ok (.aload_n 0, 1) := by decide +kernel
theorem dX2_currentTemperature_1 : decode cX2_currentTemperature 1 = .ok (.getfield 9, 3) := by decide +kernel
theorem dX2_currentTemperature_4 : decode cX2_currentTemperature 4 = .ok (.ireturn, 1) := by decide +kernel
theorem dX3_init_0 : decode cX3_init 0 = .ok (.aload_n 0, 1) := by decide +kernel
theorem dX3_init_1 : decode cX3_init 1 = .ok (.invokespecial 3, 3) := by decide +kernel
theorem dX3_init_4 : decode cX3_init 4 = .ok (.aload_n 0, 1) := by decide +kernel
theorem dX3_init_5 : decode cX3_init 5 = .ok (.aload_n 1, 1) := by decide +kernel
theorem dX3_init_6 : decode cX3_init 6 = .ok (.putfield 9, 3) := by decide +kernel
theorem dX3_init_9 : decode cX3_init 9 = .ok (.aload_n 0, 1) := by decide +kernel
theorem dX3_init_10 : decode cX3_init 10 = .ok (.aload_n 2, 1) := by decide +kernel
theorem dX3_init_11 : decode cX3_init 11 = .ok (.putfield 15, 3) := by decide +kernel
theorem dX3_init_14 : decode cX3_init 14 = .ok (.aload_n 0, 1) := by decide +kernel
theorem dX3_init_15 : decode cX3_init 15 = .ok (.sipush 1728, 3) := by decide +kernel
theorem dX3_init_18 : decode cX3_init 18 = .ok (.newarray .char, 2) := by decide +kernel
theorem dX3_init_20 : decode cX3_init 20 = .ok (.putfield 19, 3) := by decide +kernel
theorem dX3_init_23 : decode cX3_init 23 = .ok (.aload_n 0, 1) := by decide +kernel
theorem dX3_init_24 : decode cX3_init 24 = .ok (.bipush 12, 2) := by decide +kernel
theorem dX3_init_26 : decode cX3_init 26 = .ok (.newarray .boolean, 2) := by decide +kernel
theorem dX3_init_28 : decode cX3_init 28 = .ok (.putfield 23, 3) := by decide +kernel
theorem dX3_init_31 : decode cX3_init 31 = .ok (.aload_n 0, 1) := by decide +kernel
theorem dX3_init_32 : decode cX3_init 32 = .ok (.sipush 144, 3) := by decide +kernel
theorem dX3_init_35 : decode cX3_init 35 = .ok (.newarray .int, 2) := by decide +kernel
theorem dX3_init_37 : decode cX3_init 37 = .ok (.putfield 27, 3) := by decide +kernel
theorem dX3_init_40 : decode cX3_init 40 = .ok (.return_, 1) := by decide +kernel
theorem dX3_forgetAll_0 : decode cX3_forgetAll 0 = .ok (.iconst 0, 1) := by decide +kernel
theorem dX3_forgetAll_1 : decode cX3_forgetAll 1 = .ok (.istore_n 1, 1) := by decide +kernel
theorem dX3_forgetAll_2 : decode cX3_forgetAll 2 = .ok (.iload_n 1, 1) := by decide +kernel
theorem dX3_forgetAll_3 : decode cX3_forgetAll 3 = .ok (.aload_n 0, 1) := by decide +kernel
theorem dX3_forgetAll_4 : decode cX3_forgetAll 4 = .ok (.getfield 23, 3) := by decide +kernel
theorem dX3_forgetAll_7 : decode cX3_forgetAll 7 = .ok (.arraylength, 1) := by decide +kernel
theorem dX3_forgetAll_8 : decode cX3_forgetAll 8 = .ok (.if_icmp .ge 16, 3) := by decide +kernel
theorem dX3_forgetAll_11 : decode cX3_forgetAll 11 = .ok (.aload_n 0, 1) := by decide +kernel
theorem dX3_forgetAll_12 : decode cX3_forgetAll 12 = .ok (.getfield 23, 3) := by decide +kernel
theorem dX3_forgetAll_15 : decode cX3_forgetAll 15 = .ok (.iload_n 1, 1) := by decide +kernel
theorem dX3_forgetAll_16 : decode cX3_forgetAll 16 = .ok (.iconst 0, 1) := by decide +kernel
theorem dX3_forgetAll_17 : decode cX3_forgetAll 17 = .ok (.bastore, 1) := by decide +kernel
theorem dX3_forgetAll_18 : decode cX3_forgetAll 18 = .ok (.iinc 1 1, 3) := by decide +kernel
theorem dX3_forgetAll_21 : decode cX3_forgetAll 21 = .ok (.goto (-19), 3) := by decide +kernel
theorem dX3_forgetAll_24 : decode cX3_forgetAll 24 = .ok (.return_, 1) := by decide +kernel
theorem dX3_kindOf_0 : decode cX3_kindOf 0 = .ok (.iload_n 1, 1) := by decide +kernel
theorem dX3_kindOf_1 : decode cX3_kindOf 1 = .ok (.iload_n 2, 1) := by decide +kernel
theorem dX3_kindOf_2 : decode cX3_kindOf 2 = .ok (.iload_n 3, 1) := by decide +kernel
theorem dX3_kindOf_3 : decode cX3_kindOf 3 = .ok (.invokestatic 31, 3) := by decide +kernel
theorem dX3_kindOf_6 : decode cX3_kindOf 6 = .ok (.ifCond .eq 17, 3) := by decide +kernel
theorem dX3_kindOf_9 : decode cX3_kindOf 9 = .ok (.aload_n 0, 1) := by decide +kernel
theorem dX3_kindOf_10 : decode cX3_kindOf 10 = .ok (.getfield 19, 3) := by decide +kernel
theorem dX3_kindOf_13 : decode cX3_kindOf 13 = .ok (.iload_n 1, 1) := by decide +kernel
theorem dX3_kindOf_14 : decode cX3_kindOf 14 = .ok (.iload_n 2, 1) := by decide +kernel
theorem dX3_kindOf_15 : decode cX3_kindOf 15 = .ok (.iload_n 3, 1) := by decide +kernel
theorem dX3_kindOf_16 : decode cX3_kindOf 16 = .ok (.invokestatic 35, 3) := by decide +kernel
theorem dX3_kindOf_19 : decode cX3_kindOf 19 = .ok (.caload, 1) := by decide +kernel
theorem dX3_kindOf_20 : decode cX3_kindOf 20 = .ok (.goto 5, 3) := by decide +kernel
theorem dX3_kindOf_23 : decode cX3_kindOf 23 = .ok (.bipush 46, 2) := by decide +kernel
theorem dX3_kindOf_25 : decode cX3_kindOf 25 = .ok (.ireturn, 1) := by decide +kernel
theorem dX3_countEmpty_0 : decode cX3_countEmpty 0 = .ok (.iconst 0, 1) := by decide +kernel
theorem dX3_countEmpty_1 : decode cX3_countEmpty 1 = .ok (.istore_n 1, 1) := by decide +kernel
theorem dX3_countEmpty_2 : decode cX3_countEmpty 2 = .ok (.iconst 0, 1) := by decide +kernel
theorem dX3_countEmpty_3 : decode cX3_countEmpty 3 = .ok (.istore_n 2, 1) := by decide +kernel
theorem dX3_countEmpty_4 : decode cX3_countEmpty 4 = .ok (.iload_n 2, 1) := by decide +kernel
theorem dX3_countEmpty_5 : decode cX3_countEmpty 5 = .ok (.aload_n 0, 1) := by decide +kernel
theorem dX3_countEmpty_6 : decode cX3_countEmpty 6 = .ok (.getfield 19, 3) := by decide +kernel
theorem dX3_countEmpty_9 : decode cX3_countEmpty 9 = .ok (.arraylength, 1) := by decide +kernel
theorem dX3_countEmpty_10 : decode cX3_countEmpty 10 = .ok (.if_icmp .ge 23, 3) := by decide +kernel
theorem dX3_countEmpty_13 : decode cX3_countEmpty 13 = .ok (.aload_n 0, 1) := by decide +kernel
theorem dX3_countEmpty_14 : decode cX3_countEmpty 14 = .ok (.getfield 19, 3) := by decide +kernel
theorem dX3_countEmpty_17 : decode cX3_countEmpty 17 = .ok (.iload_n 2, 1) := by decide +kernel
theorem dX3_countEmpty_18 : decode cX3_countEmpty 18 = .ok (.caload, 1) := by decide +kernel
theorem dX3_countEmpty_19 : decode cX3_countEmpty 19 = .ok (.bipush 101, 2) := by decide +kernel
theorem dX3_countEmpty_21 : decode cX3_countEmpty 21 = .ok (.if_icmp .ne 6, 3) := by decide +kernel
theorem dX3_countEmpty_24 : decode cX3_countEmpty 24 = .ok (.iinc 1 1, 3) := by decide +kernel
theorem dX3_countEmpty_27 : decode cX3_countEmpty 27 = .ok (.iinc 2 1, 3) := by decide +kernel
theorem dX3_countEmpty_30 : decode cX3_countEmpty 30 = .ok (.goto (-26), 3) := by decide +kernel
theorem dX3_countEmpty_33 : decode cX3_countEmpty 33 = .ok (.iload_n 1, 1) := by decide +kernel
theorem dX3_countEmpty_34 : decode cX3_countEmpty 34 = .ok (.ireturn, 1) := by decide +kernel
theorem dX3_findAll_0 : decode cX3_findAll 0 = .ok (.iconst 0, 1) := by decide +kernel
theorem dX3_findAll_1 : decode cX3_findAll 1 = .ok (.istore_n 1, 1) := by decide +kernel
theorem dX3_findAll_2 : decode cX3_findAll 2 = .ok (.iload_n 1, 1) := by decide +kernel
theorem dX3_findAll_3 : decode cX3_findAll 3 = .ok (.bipush 12, 2) := by decide +kernel
theorem dX3_findAll_5 : decode cX3_findAll 5 = .ok (.if_icmp .ge 14, 3) := by decide +kernel
theorem dX3_findAll_8 : decode cX3_findAll 8 = .ok (.aload_n 0, 1) := by decide +kernel
theorem dX3_findAll_9 : decode cX3_findAll 9 = .ok (.iload_n 1, 1) := by decide +kernel
theorem dX3_findAll_10 : decode cX3_findAll 10 = .ok (.invokevirtual 39, 3) := by decide +kernel
theorem dX3_findAll_13 : decode cX3_findAll 13 = .ok (.iinc 1 1, 3) := by decide +kernel
theorem dX3_findAll_16 : decode cX3_findAll 16 = .ok (.goto (-14), 3) := by decide +kernel
theorem dX3_findAll_19 : decode cX3_findAll 19 = .ok (.return_, 1) := by decide +kernel
theorem dX3_findLayer_0 : decode cX3_findLayer 0 = .ok (.iload_n 1, 1) := by decide +kernel
theorem dX3_findLayer_1 : decode cX3_findLayer 1 = .ok (.invokestatic 43, 3) := by decide +kernel
theorem dX3_findLayer_4 : decode cX3_findLayer 4 = .ok (.ifCond .eq 12, 3) := by decide +kernel
theorem dX3_findLayer_7 : decode cX3_findLayer 7 = .ok (.aload_n 0, 1) := by decide +kernel
theorem dX3_findLayer_8 : decode cX3_findLayer 8 = .ok (.getfield 23, 3) := by decide +kernel
theorem dX3_findLayer_11 : decode cX3_findLayer 11 = .ok (.iload_n 1, 1) := by decide +kernel
theorem dX3_findLayer_12 : decode cX3_findLayer 12 = .ok (.baload, 1) := by decide +kernel
theorem dX3_findLayer_13 : decode cX3_findLayer 13 = .ok (.ifCond .eq 4, 3) := by decide +kernel
theorem dX3_findLayer_16 : decode cX3_findLayer 16 = .ok (.return_, 1) := by decide +kernel
theorem dX3_findLayer_17 : decode cX3_findLayer 17 = .ok (.aload_n 0, 1) := by decide +kernel
theorem dX3_findLayer_18 : decode cX3_findLayer 18 = .ok (.iload_n 1, 1) := by decide +kernel
theorem dX3_findLayer_19 : decode cX3_findLayer 19 = .ok (.invokevirtual 47, 3) := by decide +kernel
theorem dX3_findLayer_22 : decode cX3_findLayer 22 = .ok (.iconst 0, 1) := by decide +kernel
theorem dX3_findLayer_23 : decode cX3_findLayer 23 = .ok (.istore_n 2, 1) := by decide +kernel
theorem dX3_findLayer_24 : decode cX3_findLayer 24 = .ok (.iload_n 2, 1) := by decide +kernel
theorem dX3_findLayer_25 : decode cX3_findLayer 25 = .ok (.bipush 12, 2) := by decide +kernel
theorem dX3_findLayer_27 : decode cX3_findLayer 27 = .ok (.if_icmp .ge 59, 3) := by decide +kernel
theorem dX3_findLayer_30 : decode cX3_findLayer 30 = .ok (.iconst 0, 1) := by decide +kernel
theorem dX3_findLayer_31 : decode cX3_findLayer 31 = .ok (.istore_n 3, 1) := by decide +kernel
theorem dX3_findLayer_32 : decode cX3_findLayer 32 = .ok (.iload_n 3, 1) := by decide +kernel
theorem dX3_findLayer_33 : decode cX3_findLayer 33 = .ok (.bipush 12, 2) := by decide +kernel
theorem dX3_findLayer_35 : decode cX3_findLayer 35 = .ok (.if_icmp .ge 45, 3) := by decide +kernel
theorem dX3_findLayer_38 : decode cX3_findLayer 38 = .ok (.aload_n 0, 1) := by decide +kernel
theorem dX3_findLayer_39 : decode cX3_findLayer 39 = .ok (.getfield 19, 3) := by decide +kernel
theorem dX3_findLayer_42 : decode cX3_findLayer 42 = .ok (.iload_n 3, 1) := by decide +kernel
theorem dX3_findLayer_43 : decode cX3_findLayer 43 = .ok (.iload_n 2, 1) := by decide +kernel
theorem dX3_findLayer_44 : decode cX3_findLayer 44 = .ok (.iload_n 1, 1) := by decide +kernel
theorem dX3_findLayer_45 : decode cX3_findLayer 45 = .ok (.invokestatic 35, 3) := by decide +kernel
theorem dX3_findLayer_48 : decode cX3_findLayer 48 = .ok (.aload_n 0, 1) := by decide +kernel
theorem dX3_findLayer_49 : decode cX3_findLayer 49 = .ok (.getfield 9, 3) := by decide +kernel
theorem dX3_findLayer_52 : decode cX3_findLayer 52 = .ok (.iload_n 3, 1) := by decide +kernel
theorem dX3_findLayer_53 : decode cX3_findLayer 53 = .ok (.iload_n 2, 1) := by decide +kernel
theorem dX3_findLayer_54 : decode cX3_findLayer 54 = .ok (.iload_n 1, 1) := by decide +kernel
theorem dX3_findLayer_55 : decode cX3_findLayer 55 = .ok (.invokevirtual 50, 3) := by decide +kernel
theorem dX3_findLayer_58 : decode cX3_findLayer 58 = .ok (.ifCond .eq 13, 3) := by decide +kernel
theorem dX3_findLayer_61 : decode cX3_findLayer 61 = .ok (.aload_n 0, 1) := by decide +kernel
theorem dX3_findLayer_62 : decode cX3_findLayer 62 = .ok (.iload_n 3, 1) := by decide +kernel
theorem dX3_findLayer_63 : decode cX3_findLayer 63 = .ok (.iload_n 2, 1) := by decide +kernel
theorem dX3_findLayer_64 : decode cX3_findLayer 64 = .ok (.iload_n 1, 1) := by decide +kernel
theorem dX3_findLayer_65 : decode cX3_findLayer 65 = .ok (.invokevirtual 55, 3) := by decide +kernel
theorem dX3_findLayer_68 : decode cX3_findLayer 68 = .ok (.goto 5, 3) := by decide +kernel
theorem dX3_findLayer_71 : decode cX3_findLayer 71 = .ok (.bipush 46, 2) := by decide +kernel
theorem dX3_findLayer_73 : decode cX3_findLayer 73 = .ok (.castore, 1) := by decide +kernel
theorem dX3_findLayer_74 : decode cX3_findLayer 74 = .ok (.iinc 3 1, 3) := by decide +kernel
theorem dX3_findLayer_77 : decode cX3_findLayer 77 = .ok (.goto (-45), 3) := by decide +kernel
theorem dX3_findLayer_80 : decode cX3_findLayer 80 = .ok (.iinc 2 1, 3) := by decide +kernel
theorem dX3_findLayer_83 : decode cX3_findLayer 83 = .ok (.goto (-59), 3) := by decide +kernel
theorem dX3_findLayer_86 : decode cX3_findLayer 86 = .ok (.aload_n 0, 1) := by decide +kernel
theorem dX3_findLayer_87 : decode cX3_findLayer 87 = .ok (.getfield 15, 3) := by decide +kernel
theorem dX3_findLayer_90 : decode cX3_findLayer 90 = .ok (.invokevirtual 59, 3) := by decide +kernel
theorem dX3_findLayer_93 : decode cX3_findLayer 93 = .ok (.ifCond .eq 8, 3) := by decide +kernel
theorem dX3_findLayer_96 : decode cX3_findLayer 96 = .ok (.aload_n 0, 1) := by decide +kernel
theorem dX3_findLayer_97 : decode cX3_findLayer 97 = .ok (.iload_n 1, 1) := by decide +kernel
theorem dX3_findLayer_98 : decode cX3_findLayer 98 = .ok (.invokevirtual 65, 3) := by decide +kernel
theorem dX3_findLayer_101 : decode cX3_findLayer 101 = .ok (.aload_n 0, 1) := by decide +kernel
theorem dX3_findLayer_102 : decode cX3_findLayer 102 = .ok (.getfield 23, 3) := by decide +kernel
theorem dX3_findLayer_105 : decode cX3_findLayer 105 = .ok (.iload_n 1, 1) := by decide +kernel
theorem dX3_findLayer_106 : decode cX3_findLayer 106 = .ok (.iconst 1, 1) := by decide +kernel
theorem dX3_findLayer_107 : decode cX3_findLayer 107 = .ok (.bastore, 1) := by decide +kernel
theorem dX3_findLayer_108 : decode cX3_findLayer 108 = .ok (.return_, 1) := by decide +kernel
theorem dX3_findWalls_0 : decode cX3_findWalls 0 = .ok (.aload_n 0, 1) := by decide +kernel
theorem dX3_findWalls_1 : decode cX3_findWalls 1 = .ok (.getfield 27, 3) := by decide +kernel
theorem dX3_findWalls_4 : decode cX3_findWalls 4 = .ok (.iconst 0, 1) := by decide +kernel
theorem dX3_findWalls_5 : decode cX3_findWalls 5 = .ok (.invokestatic 68, 3) := by decide +kernel
theorem dX3_findWalls_8 : decode cX3_findWalls 8 = .ok (.iconst 1, 1) := by decide +kernel
theorem dX3_findWalls_9 : decode cX3_findWalls 9 = .ok (.istore_n 2, 1) := by decide +kernel
theorem dX3_findWalls_10 : decode cX3_findWalls 10 = .ok (.iload_n 2, 1) := by decide +kernel
theorem dX3_findWalls_11 : decode cX3_findWalls 11 = .ok (.aload_n 0, 1) := by decide +kernel
theorem dX3_findWalls_12 : decode cX3_findWalls 12 = .ok (.getfield 15, 3) := by decide +kernel
theorem dX3_findWalls_15 : decode cX3_findWalls 15 = .ok (.invokevirtual 74, 3) := by decide +kernel
theorem dX3_findWalls_18 : decode cX3_findWalls 18 = .ok (.if_icmp .gt 90, 3) := by decide +kernel
theorem dX3_findWalls_21 : decode cX3_findWalls 21 = .ok (.iconst 0, 1) := by decide +kernel
theorem dX3_findWalls_22 : decode cX3_findWalls 22 = .ok (.istore_n 3, 1) := by decide +kernel
theorem dX3_findWalls_23 : decode cX3_findWalls 23 = .ok (.iload_n 3, 1) := by decide +kernel
theorem dX3_findWalls_24 : decode cX3_findWalls 24 = .ok (.bipush 12, 2) := by decide +kernel
theorem dX3_findWalls_26 : decode cX3_findWalls 26 = .ok (.if_icmp .ge 76, 3) := by decide +kernel
theorem dX3_findWalls_29 : decode cX3_findWalls 29 = .ok (.iconst 0, 1) := by decide +kernel
theorem dX3_findWalls_30 : decode cX3_findWalls 30 = .ok (.istore 4, 2) := by decide +kernel
theorem dX3_findWalls_32 : decode cX3_findWalls 32 = .ok (.iload 4, 2) := by decide +kernel
theorem dX3_findWalls_34 : decode cX3_findWalls 34 = .ok (.bipush 12, 2) := by decide +kernel
theorem dX3_findWalls_36 : decode cX3_findWalls 36 = .ok (.if_icmp .ge 60, 3) := by decide +kernel
theorem dX3_findWalls_39 : decode cX3_findWalls 39 = .ok (.aload_n 0, 1) := by decide +kernel
theorem dX3_findWalls_40 : decode cX3_findWalls 40 = .ok (.getfield 9, 3) := by decide +kernel
theorem dX3_findWalls_43 : decode cX3_findWalls 43 = .ok (.iload 4, 2) := by decide +kernel
theorem dX3_findWalls_45 : decode cX3_findWalls 45 = .ok (.iload_n 3, 1) := by decide +kernel
theorem dX3_findWalls_46 : decode cX3_findWalls 46 = .ok (.iload_n 1, 1) := by decide +kernel
theorem dX3_findWalls_47 : decode cX3_findWalls 47 = .ok (.invokevirtual 50, 3) := by decide +kernel
theorem dX3_findWalls_50 : decode cX3_findWalls 50 = .ok (.ifCond .eq 40, 3) := by decide +kernel
theorem dX3_findWalls_53 : decode cX3_findWalls 53 = .ok (.aload_n 0, 1) := by decide +kernel
theorem dX3_findWalls_54 : decode cX3_findWalls 54 = .ok (.iload 4, 2) := by decide +kernel
theorem dX3_findWalls_56 : decode cX3_findWalls 56 = .ok (.iload_n 3, 1) := by decide +kernel
theorem dX3_findWalls_57 : decode cX3_findWalls 57 = .ok (.invokevirtual 78, 3) := by decide +kernel
theorem dX3_findWalls_60 : decode cX3_findWalls 60 = .ok (.ifCond .ne 30, 3) := by decide +kernel
theorem dX3_findWalls_63 : decode cX3_findWalls 63 = .ok (.aload_n 0, 1) := by decide +kernel
theorem dX3_findWalls_64 : decode cX3_findWalls 64 = .ok (.iload 4, 2) := by decide +kernel
theorem dX3_findWalls_66 : decode cX3_findWalls 66 = .ok (.iload_n 3, 1) := by decide +kernel
theorem dX3_findWalls_67 : decode cX3_findWalls 67 = .ok (.iload_n 1, 1) := by decide +kernel
theorem dX3_findWalls_68 : decode cX3_findWalls 68 = .ok (.iload_n 2, 1) := by decide +kernel
theorem dX3_findWalls_69 : decode cX3_findWalls 69 = .ok (.iconst 1, 1) := by decide +kernel
theorem dX3_findWalls_70 : decode cX3_findWalls 70 = .ok (.isub, 1) := by decide +kernel
theorem dX3_findWalls_71 : decode cX3_findWalls 71 = .ok (.invokevirtual 82, 3) := by decide +kernel
theorem dX3_findWalls_74 : decode cX3_findWalls 74 = .ok (.ifCond .eq 16, 3) := by decide +kernel
theorem dX3_findWalls_77 : decode cX3_findWalls 77 = .ok (.aload_n 0, 1) := by decide +kernel
theorem dX3_findWalls_78 : decode cX3_findWalls 78 = .ok (.getfield 27, 3) := by decide +kernel
theorem dX3_findWalls_81 : decode cX3_findWalls 81 = .ok (.iload 4, 2) := by decide +kernel
theorem dX3_findWalls_83 : decode cX3_findWalls 83 = .ok (.iload_n 3, 1) := by decide +kernel
theorem dX3_findWalls_84 : decode cX3_findWalls 84 = .ok (.iconst 0, 1) := by decide +kernel
theorem dX3_findWalls_85 : decode cX3_findWalls 85 = .ok (.invokestatic 35, 3) := by decide +kernel
theorem dX3_findWalls_88 : decode cX3_findWalls 88 = .ok (.iload_n 2, 1) := by decide +kernel
theorem dX3_findWalls_89 : decode cX3_findWalls 89 = .ok (.iastore, 1) := by decide +kernel
theorem dX3_findWalls_90 : decode cX3_findWalls 90 = .ok (.iinc 4 1, 3) := by decide +kernel
theorem dX3_findWalls_93 : decode cX3_findWalls 93 = .ok (.goto (-61), 3) := by decide +kernel
theorem dX3_findWalls_96 : decode cX3_findWalls 96 = .ok (.iinc 3 1, 3) := by decide +kernel
theorem dX3_findWalls_99 : decode cX3_findWalls 99 = .ok (.goto (-76), 3) := by decide +kernel
theorem dX3_findWalls_102 : decode cX3_findWalls 102 = .ok (.iinc 2 1, 3) := by decide +kernel
theorem dX3_findWalls_105 : decode cX3_findWalls 105 = .ok (.goto (-95), 3) := by decide +kernel
theorem dX3_findWalls_108 : decode cX3_findWalls 108 = .ok (.return_, 1) := by decide +kernel
theorem dX3_touches_0 : decode cX3_touches 0 = .ok (.iconst 0, 1) := by decide +kernel
theorem dX3_touches_1 : decode cX3_touches 1 = .ok (.istore 5, 2) := by decide +kernel
theorem dX3_touches_3 : decode cX3_touches 3 = .ok (.iload 5, 2) := by decide +kernel
theorem dX3_touches_5 : decode cX3_touches 5 = .ok (.iconst 4, 1) := by decide +kernel
theorem dX3_touches_6 : decode cX3_touches 6 = .ok (.if_icmp .ge 67, 3) := by decide +kernel
theorem dX3_touches_9 : decode cX3_touches 9 = .ok (.iload_n 1, 1) := by decide +kernel
theorem dX3_touches_10 : decode cX3_touches 10 = .ok (.getstatic 86, 3) := by decide +kernel
theorem dX3_touches_13 : decode cX3_touches 13 = .ok (.iload 5, 2) := by decide +kernel
theorem dX3_touches_15 : decode cX3_touches 15 = .ok (.iaload, 1) := by decide +kernel
theorem dX3_touches_16 : decode cX3_touches 16 = .ok (.iadd, 1) := by decide +kernel
theorem dX3_touches_17 : decode cX3_touches 17 = .ok (.istore 6, 2) := by decide +kernel
theorem dX3_touches_19 : decode cX3_touches 19 = .ok (.iload_n 2, 1) := by decide +kernel
theorem dX3_touches_20 : decode cX3_touches 20 = .ok (.getstatic 89, 3) := by decide +kernel
theorem dX3_touches_23 : decode cX3_touches 23 = .ok (.iload 5, 2) := by decide +kernel
theorem dX3_touches_25 : decode cX3_touches 25 = .ok (.iaload, 1) := by decide +kernel
theorem dX3_touches_26 : decode cX3_touches 26 = .ok (.iadd, 1) := by decide +kernel
theorem dX3_touches_27 : decode cX3_touches 27 = .ok (.istore 7, 2) := by decide +kernel
theorem dX3_touches_29 : decode cX3_touches 29 = .ok (.iload 4, 2) := by decide +kernel
theorem dX3_touches_31 : decode cX3_touches 31 = .ok (.ifCond .ne 21, 3) := by decide +kernel
theorem dX3_touches_34 : decode cX3_touches 34 = .ok (.aload_n 0, 1) := by decide +kernel
theorem dX3_touches_35 : decode cX3_touches 35 = .ok (.getfield 9, 3) := by decide +kernel
theorem dX3_touches_38 : decode cX3_touches 38 = .ok (.iload 6, 2) := by decide +kernel
theorem dX3_touches_40 : decode cX3_touches 40 = .ok (.iload 7, 2) := by decide +kernel
theorem dX3_touches_42 : decode cX3_touches 42 = .ok (.iload_n 3, 1) := by decide +kernel
theorem dX3_touches_43 : decode cX3_touches 43 = .ok (.invokevirtual 50, 3) := by decide +kernel
theorem dX3_touches_46 : decode cX3_touches 46 = .ok (.ifCond .ne 21, 3) := by decide +kernel
theorem dX3_touches_49 : decode cX3_touches 49 = .ok (.goto 16, 3) := by decide +kernel
theorem dX3_touches_52 : decode cX3_touches 52 = .ok (.aload_n 0, 1) := by decide +kernel
theorem dX3_touches_53 : decode cX3_touches 53 = .ok (.iload 6, 2) := by decide +kernel
theorem dX3_touches_55 : decode cX3_touches 55 = .ok (.iload 7, 2) := by decide +kernel
theorem dX3_touches_57 : decode cX3_touches 57 = .ok (.invokevirtual 78, 3) := by decide +kernel
theorem dX3_touches_60 : decode cX3_touches 60 = .ok (.iload 4, 2) := by decide +kernel
theorem dX3_touches_62 : decode cX3_touches 62 = .ok (.if_icmp .ne 5, 3) := by decide +kernel
theorem dX3_touches_65 : decode cX3_touches 65 = .ok (.iconst 1, 1) := by decide +kernel
theorem dX3_touches_66 : decode cX3_touches 66 = .ok (.ireturn, 1) := by decide +kernel
theorem dX3_touches_67 : decode cX3_touches 67 = .ok (.iinc 5 1, 3) := by decide +kernel
theorem dX3_touches_70 : decode cX3_touches 70 = .ok (.goto (-67), 3) := by decide +kernel
theorem dX3_touches_73 : decode cX3_touches 73 = .ok (.iconst 0, 1) := by decide +kernel
theorem dX3_touches_74 : decode cX3_touches 74 = .ok (.ireturn, 1) := by decide +kernel
theorem dX3_wallAt_0 : decode cX3_wallAt 0 = .ok (.iload_n 1, 1) := by decide +kernel
theorem dX3_wallAt_1 : decode cX3_wallAt 1 = .ok (.iload_n 2, 1) := by decide +kernel
theorem dX3_wallAt_2 : decode cX3_wallAt 2 = .ok (.iconst 0, 1) := by decide +kernel
theorem dX3_wallAt_3 : decode cX3_wallAt 3 = .ok (.invokestatic 31, 3) := by decide +kernel
theorem dX3_wallAt_6 : decode cX3_wallAt 6 = .ok (.ifCond .eq 17, 3) := by decide +kernel
theorem dX3_wallAt_9 : decode cX3_wallAt 9 = .ok (.aload_n 0, 1) := by decide +kernel
theorem dX3_wallAt_10 : decode cX3_wallAt 10 = .ok (.getfield 27, 3) := by decide +kernel
theorem dX3_wallAt_13 : decode cX3_wallAt 13 = .ok (.iload_n 1, 1) := by decide +kernel
theorem dX3_wallAt_14 : decode cX3_wallAt 14 = .ok (.iload_n 2, 1) := by decide +kernel
theorem dX3_wallAt_15 : decode cX3_wallAt 15 = .ok (.iconst 0, 1) := by decide +kernel
theorem dX3_wallAt_16 : decode cX3_wallAt 16 = .ok (.invokestatic 35, 3) := by decide +kernel
theorem dX3_wallAt_19 : decode cX3_wallAt 19 = .ok (.iaload, 1) := by decide +kernel
theorem dX3_wallAt_20 : decode cX3_wallAt 20 = .ok (.goto 4, 3) := by decide +kernel
theorem dX3_wallAt_23 : decode cX3_wallAt 23 = .ok (.iconst 0, 1) := by decide +kernel
theorem dX3_wallAt_24 : decode cX3_wallAt 24 = .ok (.ireturn, 1) := by decide +kernel
theorem dX3_solidKind_0 : decode cX3_solidKind 0 = .ok (.aload_n 0, 1) := by decide +kernel
theorem dX3_solidKind_1 : decode cX3_solidKind 1 = .ok (.iload_n 1, 1) := by decide +kernel
theorem dX3_solidKind_2 : decode cX3_solidKind 2 = .ok (.iload_n 2, 1) := by decide +kernel
theorem dX3_solidKind_3 : decode cX3_solidKind 3 = .ok (.invokevirtual 78, 3) := by decide +kernel
theorem dX3_solidKind_6 : decode cX3_solidKind 6 = .ok (.ifCond .le 6, 3) := by decide +kernel
theorem dX3_solidKind_9 : decode cX3_solidKind 9 = .ok (.bipush 119, 2) := by decide +kernel
theorem dX3_solidKind_11 : decode cX3_solidKind 11 = .ok (.ireturn, 1) := by decide +kernel
theorem dX3_solidKind_12 : decode cX3_solidKind 12 = .ok (.aload_n 0, 1) := by decide +kernel
theorem dX3_solidKind_13 : decode cX3_solidKind 13 = .ok (.getfield 9, 3) := by decide +kernel
theorem dX3_solidKind_16 : decode cX3_solidKind 16 = .ok (.iload_n 1, 1) := by decide +kernel
theorem dX3_solidKind_17 : decode cX3_solidKind 17 = .ok (.iload_n 2, 1) := by decide +kernel
theorem dX3_solidKind_18 : decode cX3_solidKind 18 = .ok (.iload_n 3, 1) := by decide +kernel
theorem dX3_solidKind_19 : decode cX3_solidKind 19 = .ok (.iconst (-1), 1) := by decide +kernel
theorem dX3_solidKind_20 : decode cX3_solidKind 20 = .ok (.aload_n 0, 1) := by decide +kernel
theorem dX3_solidKind_21 : decode cX3_solidKind 21 = .ok (.getfield 15, 3) := by decide +kernel
theorem dX3_solidKind_24 : decode cX3_solidKind 24 = .ok (.invokevirtual 92, 3) := by decide +kernel
theorem dX3_solidKind_27 : decode cX3_solidKind 27 = .ok (.invokevirtual 95, 3) := by decide +kernel
theorem dX3_solidKind_30 : decode cX3_solidKind 30 = .ok (.ifCond .eq 6, 3) := by decide +kernel
theorem dX3_solidKind_33 : decode cX3_solidKind 33 = .ok (.bipush 98, 2) := by decide +kernel
theorem dX3_solidKind_35 : decode cX3_solidKind 35 = .ok (.ireturn, 1) := by decide +kernel
theorem dX3_solidKind_36 : decode cX3_solidKind 36 = .ok (.aload_n 0, 1) := by decide +kernel
theorem dX3_solidKind_37 : decode cX3_solidKind 37 = .ok (.getfield 9, 3) := by decide +kernel
theorem dX3_solidKind_40 : decode cX3_solidKind 40 = .ok (.iload_n 1, 1) := by decide +kernel
theorem dX3_solidKind_41 : decode cX3_solidKind 41 = .ok (.iload_n 2, 1) := by decide +kernel
theorem dX3_solidKind_42 : decode cX3_solidKind 42 = .ok (.iload_n 3, 1) := by decide +kernel
theorem dX3_solidKind_43 : decode cX3_solidKind 43 = .ok (.iconst 1, 1) := by decide +kernel
theorem dX3_solidKind_44 : decode cX3_solidKind 44 = .ok (.aload_n 0, 1) := by decide +kernel
theorem dX3_solidKind_45 : decode cX3_solidKind 45 = .ok (.getfield 15, 3) := by decide +kernel
theorem dX3_solidKind_48 : decode cX3_solidKind 48 = .ok (.invokevirtual 92, 3) := by decide +kernel
theorem dX3_solidKind_51 : decode cX3_solidKind 51 = .ok (.invokevirtual 95, 3) := by decide +kernel
theorem dX3_solidKind_54 : decode cX3_solidKind 54 = .ok (.ifCond .eq 6, 3) := by decide +kernel
theorem dX3_solidKind_57 : decode cX3_solidKind 57 = .ok (.bipush 116, 2) := by decide +kernel
theorem dX3_solidKind_59 : decode cX3_solidKind 59 = .ok (.ireturn, 1) := by decide +kernel
theorem dX3_solidKind_60 : decode cX3_solidKind 60 = .ok (.aload_n 0, 1) := by decide +kernel
theorem dX3_solidKind_61 : decode cX3_solidKind 61 = .ok (.getfield 15, 3) := by decide +kernel
theorem dX3_solidKind_64 : decode cX3_solidKind 64 = .ok (.iload_n 1, 1) := by decide +kernel
theorem dX3_solidKind_65 : decode cX3_solidKind 65 = .ok (.iload_n 2, 1) := by decide +kernel
theorem dX3_solidKind_66 : decode cX3_solidKind 66 = .ok (.iload_n 3, 1) := by decide +kernel
theorem dX3_solidKind_67 : decode cX3_solidKind 67 = .ok (.invokevirtual 99, 3) := by decide +kernel
theorem dX3_solidKind_70 : decode cX3_solidKind 70 = .ok (.ifCond .eq 8, 3) := by decide +kernel
theorem dX3_solidKind_73 : decode cX3_solidKind 73 = .ok (.bipush 105, 2) := by decide +kernel
theorem dX3_solidKind_75 : decode cX3_solidKind 75 = .ok (.goto 5, 3) := by decide +kernel
theorem dX3_solidKind_78 : decode cX3_solidKind 78 = .ok (.bipush 101, 2) := by decide +kernel
theorem dX3_solidKind_80 : decode cX3_solidKind 80 = .ok (.ireturn, 1) := by decide +kernel
theorem dX3_findSupports_0 : decode cX3_findSupports 0 = .ok (.iconst 0, 1) := by decide +kernel
theorem dX3_findSupports_1 : decode cX3_findSupports 1 = .ok (.istore_n 2, 1) := by decide +kernel
theorem dX3_findSupports_2 : decode cX3_findSupports 2 = .ok (.iload_n 2, 1) := by decide +kernel
theorem dX3_findSupports_3 : decode cX3_findSupports 3 = .ok (.bipush 12, 2) := by decide +kernel
theorem dX3_findSupports_5 : decode cX3_findSupports 5 = .ok (.if_icmp .ge 59, 3) := by decide +kernel
theorem dX3_findSupports_8 : decode cX3_findSupports 8 = .ok (.iconst 0, 1) := by decide +kernel
theorem dX3_findSupports_9 : decode cX3_findSupports 9 = .ok (.istore_n 3, 1) := by decide +kernel
theorem dX3_findSupports_10 : decode cX3_findSupports 10 = .ok (.iload_n 3, 1) := by decide +kernel
theorem dX3_findSupports_11 : decode cX3_findSupports 11 = .ok (.bipush 12, 2) := by decide +kernel
theorem dX3_findSupports_13 : decode cX3_findSupports 13 = .ok (.if_icmp .ge 45, 3) := by decide +kernel
theorem dX3_findSupports_16 : decode cX3_findSupports 16 = .ok (.aload_n 0, 1) := by decide +kernel
theorem dX3_findSupports_17 : decode cX3_findSupports 17 = .ok (.getfield 9, 3) := by decide +kernel
theorem dX3_findSupports_20 : decode cX3_findSupports 20 = .ok (.iload_n 3, 1) := by decide +kernel
theorem dX3_findSupports_21 : decode cX3_findSupports 21 = .ok (.iload_n 2, 1) := by decide +kernel
theorem dX3_findSupports_22 : decode cX3_findSupports 22 = .ok (.iload_n 1, 1) := by decide +kernel
theorem dX3_findSupports_23 : decode cX3_findSupports 23 = .ok (.invokevirtual 50, 3) := by decide +kernel
theorem dX3_findSupports_26 : decode cX3_findSupports 26 = .ok (.ifCond .ne 26, 3) := by decide +kernel
theorem dX3_findSupports_29 : decode cX3_findSupports 29 = .ok (.aload_n 0, 1) := by decide +kernel
theorem dX3_findSupports_30 : decode cX3_findSupports 30 = .ok (.iload_n 3, 1) := by decide +kernel
theorem dX3_findSupports_31 : decode cX3_findSupports 31 = .ok (.iload_n 2, 1) := by decide +kernel
theorem dX3_findSupports_32 : decode cX3_findSupports 32 = .ok (.iload_n 1, 1) := by decide +kernel
theorem dX3_findSupports_33 : decode cX3_findSupports 33 = .ok (.invokevirtual 102, 3) := by decide +kernel
theorem dX3_findSupports_36 : decode cX3_findSupports 36 = .ok (.ifCond .eq 16, 3) := by decide +kernel
theorem dX3_findSupports_39 : decode cX3_findSupports 39 = .ok (.aload_n 0, 1) := by decide +kernel
theorem dX3_findSupports_40 : decode cX3_findSupports 40 = .ok (.getfield 19, 3) := by decide +kernel
theorem dX3_findSupports_43 : decode cX3_findSupports 43 = .ok (.iload_n 3, 1) := by decide +kernel
theorem dX3_findSupports_44 : decode cX3_findSupports 44 = .ok (.iload_n 2, 1) := by decide +kernel
theorem dX3_findSupports_45 : decode cX3_findSupports 45 = .ok (.iload_n 1, 1) := by decide +kernel
theorem dX3_findSupports_46 : decode cX3_findSupports 46 = .ok (.invokestatic 35, 3) := by decide +kernel
theorem dX3_findSupports_49 : decode cX3_findSupports 49 = .ok (.bipush 115, 2) := by decide +kernel
theorem dX3_findSupports_51 : decode cX3_findSupports 51 = .ok (.castore, 1) := by decide +kernel
theorem dX3_findSupports_52 : decode cX3_findSupports 52 = .ok (.iinc 3 1, 3) := by decide +kernel
theorem dX3_findSupports_55 : decode cX3_findSupports 55 = .ok (.goto (-45), 3) := by decide +kernel
theorem dX3_findSupports_58 : decode cX3_findSupports 58 = .ok (.iinc 2 1, 3) := by decide +kernel
theorem dX3_findSupports_61 : decode cX3_findSupports 61 = .ok (.goto (-59), 3) := by decide +kernel
theorem dX3_findSupports_64 : decode cX3_findSupports 64 = .ok (.return_, 1) := by decide +kernel
theorem dX3_isSupport_0 : decode cX3_isSupport 0 = .ok (.aload_n 0, 1) := by decide +kernel
theorem dX3_isSupport_1 : decode cX3_isSupport 1 = .ok (.getfield 9, 3) := by decide +kernel
theorem dX3_isSupport_4 : decode cX3_isSupport 4 = .ok (.iload_n 1, 1) := by decide +kernel
theorem dX3_isSupport_5 : decode cX3_isSupport 5 = .ok (.iload_n 2, 1) := by decide +kernel
theorem dX3_isSupport_6 : decode cX3_isSupport 6 = .ok (.iload_n 3, 1) := by decide +kernel
theorem dX3_isSupport_7 : decode cX3_isSupport 7 = .ok (.invokevirtual 105, 3) := by decide +kernel
theorem dX3_isSupport_10 : decode cX3_isSupport 10 = .ok (.istore 4, 2) := by decide +kernel
theorem dX3_isSupport_12 : decode cX3_isSupport 12 = .ok (.iload 4, 2) := by decide +kernel
theorem dX3_isSupport_14 : decode cX3_isSupport 14 = .ok (.iload_n 3, 1) := by decide +kernel
theorem dX3_isSupport_15 : decode cX3_isSupport 15 = .ok (.isub, 1) := by decide +kernel
theorem dX3_isSupport_16 : decode cX3_isSupport 16 = .ok (.aload_n 0, 1) := by decide +kernel
theorem dX3_isSupport_17 : decode cX3_isSupport 17 = .ok (.getfield 15, 3) := by decide +kernel
theorem dX3_isSupport_20 : decode cX3_isSupport 20 = .ok (.invokevirtual 108, 3) := by decide +kernel
theorem dX3_isSupport_23 : decode cX3_isSupport 23 = .ok (.if_icmp .le 21, 3) := by decide +kernel
theorem dX3_isSupport_26 : decode cX3_isSupport 26 = .ok (.aload_n 0, 1) := by decide +kernel
theorem dX3_isSupport_27 : decode cX3_isSupport 27 = .ok (.getfield 9, 3) := by decide +kernel
theorem dX3_isSupport_30 : decode cX3_isSupport 30 = .ok (.iload_n 1, 1) := by decide +kernel
theorem dX3_isSupport_31 : decode cX3_isSupport 31 = .ok (.iload_n 2, 1) := by decide +kernel
theorem dX3_isSupport_32 : decode cX3_isSupport 32 = .ok (.iload 4, 2) := by decide +kernel
theorem dX3_isSupport_34 : decode cX3_isSupport 34 = .ok (.invokevirtual 111, 3) := by decide +kernel
theorem dX3_isSupport_37 : decode cX3_isSupport 37 = .ok (.ifCond .eq 7, 3) := by decide +kernel
theorem dX3_isSupport_40 : decode cX3_isSupport 40 = .ok (.iconst 1, 1) := by decide +kernel
theorem dX3_isSupport_41 : decode cX3_isSupport 41 = .ok (.goto 4, 3) := by decide +kernel
theorem dX3_isSupport_44 : decode cX3_isSupport 44 = .ok (.iconst 0, 1) := by decide +kernel
theorem dX3_isSupport_45 : decode cX3_isSupport 45 = .ok (.ireturn, 1) := by decide +kernel
theorem dX4_init_0 : decode cX4_init 0 = .ok (.aload_n 0, 1) := by decide +kernel
theorem dX4_init_1 : decode cX4_init 1 = .ok (.invokespecial 3, 3) := by decide +kernel
theorem dX4_init_4 : decode cX4_init 4 = .ok (.aload_n 0, 1) := by decide +kernel
theorem dX4_init_5 : decode cX4_init 5 = .ok (.aload_n 1, 1) := by decide +kernel
theorem dX4_init_6 : decode cX4_init 6 = .ok (.putfield 9, 3) := by decide +kernel
theorem dX4_init_9 : decode cX4_init 9 = .ok (.aload_n 0, 1) := by decide +kernel
theorem dX4_init_10 : decode cX4_init 10 = .ok (.aload_n 2, 1) := by decide +kernel
theorem dX4_init_11 : decode cX4_init 11 = .ok (.putfield 15, 3) := by decide +kernel
theorem dX4_init_14 : decode cX4_init 14 = .ok (.aload_n 0, 1) := by decide +kernel
theorem dX4_init_15 : decode cX4_init 15 = .ok (.bipush 105, 2) := by decide +kernel
theorem dX4_init_17 : decode cX4_init 17 = .ok (.putfield 19, 3) := by decide +kernel
theorem dX4_init_20 : decode cX4_init 20 = .ok (.aload_n 0, 1) := by decide +kernel
theorem dX4_init_21 : decode cX4_init 21 = .ok (.bipush 105, 2) := by decide +kernel
theorem dX4_init_23 : decode cX4_init 23 = .ok (.putfield 23, 3) := by decide +kernel
theorem dX4_init_26 : decode cX4_init 26 = .ok (.aload_n 0, 1) := by decide +kernel
theorem dX4_init_27 : decode cX4_init 27 = .ok (.iconst (-1), 1) := by decide +kernel
theorem dX4_init_28 : decode cX4_init 28 = .ok (.putfield 26, 3) := by decide +kernel
theorem dX4_init_31 : decode cX4_init 31 = .ok (.aload_n 0, 1) := by decide +kernel
theorem dX4_init_32 : decode cX4_init 32 = .ok (.sipush 1728, 3) := by decide +kernel
theorem dX4_init_35 : decode cX4_init 35 = .ok (.newarray .int, 2) := by decide +kernel
theorem dX4_init_37 : decode cX4_init 37 = .ok (.putfield 30, 3) := by decide +kernel
theorem dX4_init_40 : decode cX4_init 40 = .ok (.return_, 1) := by decide +kernel
theorem dX4_isBusy_0 : decode cX4_isBusy 0 = .ok (.aload_n 0, 1) := by decide +kernel
theorem dX4_isBusy_1 : decode cX4_isBusy 1 = .ok (.getfield 19, 3) := by decide +kernel
theorem dX4_isBusy_4 : decode cX4_isBusy 4 = .ok (.invokestatic 34, 3) := by decide +kernel
theorem dX4_isBusy_7 : decode cX4_isBusy 7 = .ok (.ifCond .ne 12, 3) := by decide +kernel
theorem dX4_isBusy_10 : decode cX4_isBusy 10 = .ok (.aload_n 0, 1) := by decide +kernel
theorem dX4_isBusy_11 : decode cX4_isBusy 11 = .ok (.getfield 19, 3) := by decide +kernel
theorem dX4_isBusy_14 : decode cX4_isBusy 14 = .ok (.bipush 102, 2) := by decide +kernel
theorem dX4_isBusy_16 : decode cX4_isBusy 16 = .ok (.if_icmp .ne 7, 3) := by decide +kernel
theorem dX4_isBusy_19 : decode cX4_isBusy 19 = .ok (.iconst 1, 1) := by decide +kernel
theorem dX4_isBusy_20 : decode cX4_isBusy 20 = .ok (.goto 4, 3) := by decide +kernel
theorem dX4_isBusy_23 : decode cX4_isBusy 23 = .ok (.iconst 0, 1) := by decide +kernel
theorem dX4_isBusy_24 : decode cX4_isBusy 24 = .ok (.ireturn, 1) := by decide +kernel
theorem dX4_isPrinting_0 : decode cX4_isPrinting 0 = .ok (.iload_n 0, 1) := by decide +kernel
theorem dX4_isPrinting_1 : decode cX4_isPrinting 1 = .ok (.bipush 114, 2) := by decide +kernel
theorem dX4_isPrinting_3 : decode cX4_isPrinting 3 = .ok (.if_icmp .eq 15, 3) := by decide +kernel
theorem dX4_isPrinting_6 : decode cX4_isPrinting 6 = .ok (.iload_n 0, 1) := by decide +kernel
theorem dX4_isPrinting_7 : decode cX4_isPrinting 7 = .ok (.bipush 119, 2) := by decide +kernel
theorem dX4_isPrinting_9 : decode cX4_isPrinting 9 = .ok (.if_icmp .eq 9, 3) := by decide +kernel
theorem dX4_isPrinting_12 : decode cX4_isPrinting 12 = .ok (.iload_n 0, 1) := by decide +kernel
theorem dX4_isPrinting_13 : decode cX4_isPrinting 13 = .ok (.bipush 112, 2) := by decide +kernel
theorem dX4_isPrinting_15 : decode cX4_isPrinting 15 = .ok (.if_icmp .ne 7, 3) := by decide +kernel
theorem dX4_isPrinting_18 : decode cX4_isPrinting 18 = .ok (.iconst 1, 1) := by decide +kernel
theorem dX4_isPrinting_19 : decode cX4_isPrinting 19 = .ok (.goto 4, 3) := by decide +kernel
theorem dX4_isPrinting_22 : decode cX4_isPrinting 22 = .ok (.iconst 0, 1) := by decide +kernel
theorem dX4_isPrinting_23 : decode cX4_isPrinting 23 = .ok (.ireturn, 1) := by decide +kernel
theorem dX4_rest_0 : decode cX4_rest 0 = .ok (.aload_n 0, 1) := by decide +kernel
theorem dX4_rest_1 : decode cX4_rest 1 = .ok (.bipush 105, 2) := by decide +kernel
theorem dX4_rest_3 : decode cX4_rest 3 = .ok (.putfield 19, 3) := by decide +kernel
theorem dX4_rest_6 : decode cX4_rest 6 = .ok (.aload_n 0, 1) := by decide +kernel
theorem dX4_rest_7 : decode cX4_rest 7 = .ok (.iconst 0, 1) := by decide +kernel
theorem dX4_rest_8 : decode cX4_rest 8 = .ok (.putfield 38, 3) := by decide +kernel
theorem dX4_rest_11 : decode cX4_rest 11 = .ok (.aload_n 0, 1) := by decide +kernel
theorem dX4_rest_12 : decode cX4_rest 12 = .ok (.iconst (-1), 1) := by decide +kernel
theorem dX4_rest_13 : decode cX4_rest 13 = .ok (.putfield 26, 3) := by decide +kernel
theorem dX4_rest_16 : decode cX4_rest 16 = .ok (.aload_n 0, 1) := by decide +kernel
theorem dX4_rest_17 : decode cX4_rest 17 = .ok (.iconst 0, 1) := by decide +kernel
theorem dX4_rest_18 : decode cX4_rest 18 = .ok (.invokevirtual 42, 3) := by decide +kernel
theorem dX4_rest_21 : decode cX4_rest 21 = .ok (.return_, 1) := by decide +kernel
theorem dX4_beginPrint_0 : decode cX4_beginPrint 0 = .ok (.aload_n 0, 1) := by decide +kernel
theorem dX4_beginPrint_1 : decode cX4_beginPrint 1 = .ok (.bipush 114, 2) := by decide +kernel
theorem dX4_beginPrint_3 : decode cX4_beginPrint 3 = .ok (.putfield 19, 3) := by decide +kernel
theorem dX4_beginPrint_6 : decode cX4_beginPrint 6 = .ok (.aload_n 0, 1) := by decide +kernel
theorem dX4_beginPrint_7 : decode cX4_beginPrint 7 = .ok (.iconst 0, 1) := by decide +kernel
theorem dX4_beginPrint_8 : decode cX4_beginPrint 8 = .ok (.putfield 38, 3) := by decide +kernel
theorem dX4_beginPrint_11 : decode cX4_beginPrint 11 = .ok (.aload_n 0, 1) := by decide +kernel
theorem dX4_beginPrint_12 : decode cX4_beginPrint 12 = .ok (.iconst (-1), 1) := by decide +kernel
theorem dX4_beginPrint_13 : decode cX4_beginPrint 13 = .ok (.putfield 26, 3) := by decide +kernel
theorem dX4_beginPrint_16 : decode cX4_beginPrint 16 = .ok (.aload_n 0, 1) := by decide +kernel
theorem dX4_beginPrint_17 : decode cX4_beginPrint 17 = .ok (.iconst 0, 1) := by decide +kernel
theorem dX4_beginPrint_18 : decode cX4_beginPrint 18 = .ok (.invokevirtual 42, 3) := by decide +kernel
theorem dX4_beginPrint_21 : decode cX4_beginPrint 21 = .ok (.aload_n 0, 1) := by decide +kernel
theorem dX4_beginPrint_22 : decode cX4_beginPrint 22 = .ok (.getfield 30, 3) := by decide +kernel
theorem dX4_beginPrint_25 : decode cX4_beginPrint 25 = .ok (.iconst 0, 1) := by decide +kernel
theorem dX4_beginPrint_26 : decode cX4_beginPrint 26 = .ok (.invokestatic 46, 3) := by decide +kernel
theorem dX4_beginPrint_29 : decode cX4_beginPrint 29 = .ok (.aload_n 0, 1) := by decide +kernel
theorem dX4_beginPrint_30 : decode cX4_beginPrint 30 = .ok (.lconst 0, 1) := by decide +kernel
theorem dX4_beginPrint_31 : decode cX4_beginPrint 31 = .ok (.putfield 52, 3) := by decide +kernel
theorem dX4_beginPrint_34 : decode cX4_beginPrint 34 = .ok (.return_, 1) := by decide +kernel
theorem dX4_goTo_0 : decode cX4_goTo 0 = .ok (.aload_n 0, 1) := by decide +kernel
theorem dX4_goTo_1 : decode cX4_goTo 1 = .ok (.iload_n 1, 1) := by decide +kernel
theorem dX4_goTo_2 : decode cX4_goTo 2 = .ok (.putfield 56, 3) := by decide +kernel
theorem dX4_goTo_5 : decode cX4_goTo 5 = .ok (.aload_n 0, 1) := by decide +kernel
theorem dX4_goTo_6 : decode cX4_goTo 6 = .ok (.iconst 0, 1) := by decide +kernel
theorem dX4_goTo_7 : decode cX4_goTo 7 = .ok (.putfield 59, 3) := by decide +kernel
theorem dX4_goTo_10 : decode cX4_goTo 10 = .ok (.aload_n 0, 1) := by decide +kernel
theorem dX4_goTo_11 : decode cX4_goTo 11 = .ok (.iconst 0, 1) := by decide +kernel
theorem dX4_goTo_12 : decode cX4_goTo 12 = .ok (.putfield 62, 3) := by decide +kernel
theorem dX4_goTo_15 : decode cX4_goTo 15 = .ok (.return_, 1) := by decide +kernel
theorem dX4_passTicks_0 : decode cX4_passTicks 0 = .ok (.iconst 0, 1) := by decide +kernel
theorem dX4_passTicks_1 : decode cX4_passTicks 1 = .ok (.istore_n 2, 1) := by decide +kernel
theorem dX4_passTicks_2 : decode cX4_passTicks 2 = .ok (.iconst 0, 1) := by decide +kernel
theorem dX4_passTicks_3 : decode cX4_passTicks 3 = .ok (.istore_n 3, 1) := by decide +kernel
theorem dX4_passTicks_4 : decode cX4_passTicks 4 = .ok (.iload_n 3, 1) := by decide +kernel
theorem dX4_passTicks_5 : decode cX4_passTicks 5 = .ok (.iload_n 1, 1) := by decide +kernel
theorem dX4_passTicks_6 : decode cX4_passTicks 6 = .ok (.if_icmp .ge 54, 3) := by decide +kernel
theorem dX4_passTicks_9 : decode cX4_passTicks 9 = .ok (.aload_n 0, 1) := by decide +kernel
theorem dX4_passTicks_10 : decode cX4_passTicks 10 = .ok (.dup, 1) := by decide +kernel
theorem dX4_passTicks_11 : decode cX4_passTicks 11 = .ok (.getfield 65, 3) := by decide +kernel
theorem dX4_passTicks_14 : decode cX4_passTicks 14 = .ok (.lconst 1, 1) := by decide +kernel
theorem dX4_passTicks_15 : decode cX4_passTicks 15 = .ok (.ladd, 1) := by decide +kernel
theorem dX4_passTicks_16 : decode cX4_passTicks 16 = .ok (.putfield 65, 3) := by decide +kernel
theorem dX4_passTicks_19 : decode cX4_passTicks 19 = .ok (.aload_n 0, 1) := by decide +kernel
theorem dX4_passTicks_20 : decode cX4_passTicks 20 = .ok (.getfield 15, 3) := by decide +kernel
theorem dX4_passTicks_23 : decode cX4_passTicks 23 = .ok (.invokevirtual 68, 3) := by decide +kernel
theorem dX4_passTicks_26 : decode cX4_passTicks 26 = .ok (.aload_n 0, 1) := by decide +kernel
theorem dX4_passTicks_27 : decode cX4_passTicks 27 = .ok (.getfield 19, 3) := by decide +kernel
theorem dX4_passTicks_30 : decode cX4_passTicks 30 = .ok (.bipush 114, 2) := by decide +kernel
theorem dX4_passTicks_32 : decode cX4_passTicks 32 = .ok (.if_icmp .eq 12, 3) := by decide +kernel
theorem dX4_passTicks_35 : decode cX4_passTicks 35 = .ok (.aload_n 0, 1) := by decide +kernel
theorem dX4_passTicks_36 : decode cX4_passTicks 36 = .ok (.getfield 19, 3) := by decide +kernel
theorem dX4_passTicks_39 : decode cX4_passTicks 39 = .ok (.bipush 119, 2) := by decide +kernel
theorem dX4_passTicks_41 : decode cX4_passTicks 41 = .ok (.if_icmp .ne 13, 3) := by decide +kernel
theorem dX4_passTicks_44 : decode cX4_passTicks 44 = .ok (.aload_n 0, 1) := by decide +kernel
theorem dX4_passTicks_45 : decode cX4_passTicks 45 = .ok (.invokevirtual 73, 3) := by decide +kernel
theorem dX4_passTicks_48 : decode cX4_passTicks 48 = .ok (.ifCond .eq 6, 3) := by decide +kernel
theorem dX4_passTicks_51 : decode cX4_passTicks 51 = .ok (.iinc 2 1, 3) := by decide +kernel
theorem dX4_passTicks_54 : decode cX4_passTicks 54 = .ok (.iinc 3 1, 3) := by decide +kernel
theorem dX4_passTicks_57 : decode cX4_passTicks 57 = .ok (.goto (-53), 3) := by decide +kernel
theorem dX4_passTicks_60 : decode cX4_passTicks 60 = .ok (.iload_n 2, 1) := by decide +kernel
theorem dX4_passTicks_61 : decode cX4_passTicks 61 = .ok (.ireturn, 1) := by decide +kernel
theorem dX4_doTick_0 : decode cX4_doTick 0 = .ok (.aload_n 0, 1) := by decide +kernel
theorem dX4_doTick_1 : decode cX4_doTick 1 = .ok (.getfield 9, 3) := by decide +kernel
theorem dX4_doTick_4 : decode cX4_doTick 4 = .ok (.aload_n 0, 1) := by decide +kernel
theorem dX4_doTick_5 : decode cX4_doTick 5 = .ok (.getfield 56, 3) := by decide +kernel
theorem dX4_doTick_8 : decode cX4_doTick 8 = .ok (.invokevirtual 77, 3) := by decide +kernel
theorem dX4_doTick_11 : decode cX4_doTick 11 = .ok (.bipush 100, 2) := by decide +kernel
theorem dX4_doTick_13 : decode cX4_doTick 13 = .ok (.if_icmp .ne 26, 3) := by decide +kernel
theorem dX4_doTick_16 : decode cX4_doTick 16 = .ok (.aload_n 0, 1) := by decide +kernel
theorem dX4_doTick_17 : decode cX4_doTick 17 = .ok (.getfield 15, 3) := by decide +kernel
theorem dX4_doTick_20 : decode cX4_doTick 20 = .ok (.invokevirtual 83, 3) := by decide +kernel
theorem dX4_doTick_23 : decode cX4_doTick 23 = .ok (.ifCond .ne 16, 3) := by decide +kernel
theorem dX4_doTick_26 : decode cX4_doTick 26 = .ok (.aload_n 0, 1) := by decide +kernel
theorem dX4_doTick_27 : decode cX4_doTick 27 = .ok (.bipush 119, 2) := by decide +kernel
theorem dX4_doTick_29 : decode cX4_doTick 29 = .ok (.putfield 19, 3) := by decide +kernel
theorem dX4_doTick_32 : decode cX4_doTick 32 = .ok (.aload_n 0, 1) := by decide +kernel
theorem dX4_doTick_33 : decode cX4_doTick 33 = .ok (.iconst 0, 1) := by decide +kernel
theorem dX4_doTick_34 : decode cX4_doTick 34 = .ok (.putfield 62, 3) := by decide +kernel
theorem dX4_doTick_37 : decode cX4_doTick 37 = .ok (.iconst 0, 1) := by decide +kernel
theorem dX4_doTick_38 : decode cX4_doTick 38 = .ok (.ireturn, 1) := by decide +kernel
theorem dX4_doTick_39 : decode cX4_doTick 39 = .ok (.aload_n 0, 1) := by decide +kernel
theorem dX4_doTick_40 : decode cX4_doTick 40 = .ok (.bipush 114, 2) := by decide +kernel
theorem dX4_doTick_42 : decode cX4_doTick 42 = .ok (.putfield 19, 3) := by decide +kernel
theorem dX4_doTick_45 : decode cX4_doTick 45 = .ok (.aload_n 0, 1) := by decide +kernel
theorem dX4_doTick_46 : decode cX4_doTick 46 = .ok (.getfield 9, 3) := by decide +kernel
theorem dX4_doTick_49 : decode cX4_doTick 49 = .ok (.aload_n 0, 1) := by decide +kernel
theorem dX4_doTick_50 : decode cX4_doTick 50 = .ok (.getfield 56, 3) := by decide +kernel
theorem dX4_doTick_53 : decode cX4_doTick 53 = .ok (.invokevirtual 86, 3) := by decide +kernel
theorem dX4_doTick_56 : decode cX4_doTick 56 = .ok (.aload_n 0, 1) := by decide +kernel
theorem dX4_doTick_57 : decode cX4_doTick 57 = .ok (.getfield 59, 3) := by decide +kernel
theorem dX4_doTick_60 : decode cX4_doTick 60 = .ok (.isub, 1) := by decide +kernel
theorem dX4_doTick_61 : decode cX4_doTick 61 = .ok (.istore_n 1, 1) := by decide +kernel
theorem dX4_doTick_62 : decode cX4_doTick 62 = .ok (.iload_n 1, 1) := by decide +kernel
theorem dX4_doTick_63 : decode cX4_doTick 63 = .ok (.ifCond .le 25, 3) := by decide +kernel
theorem dX4_doTick_66 : decode cX4_doTick 66 = .ok (.aload_n 0, 1) := by decide +kernel
theorem dX4_doTick_67 : decode cX4_doTick 67 = .ok (.aload_n 0, 1) := by decide +kernel
theorem dX4_doTick_68 : decode cX4_doTick 68 = .ok (.iload_n 1, 1) := by decide +kernel
theorem dX4_doTick_69 : decode cX4_doTick 69 = .ok (.invokevirtual 90, 3) := by decide +kernel
theorem dX4_doTick_72 : decode cX4_doTick 72 = .ok (.putfield 62, 3) := by decide +kernel
theorem dX4_doTick_75 : decode cX4_doTick 75 = .ok (.aload_n 0, 1) := by decide +kernel
theorem dX4_doTick_76 : decode cX4_doTick 76 = .ok (.dup, 1) := by decide +kernel
theorem dX4_doTick_77 : decode cX4_doTick 77 = .ok (.getfield 59, 3) := by decide +kernel
theorem dX4_doTick_80 : decode cX4_doTick 80 = .ok (.aload_n 0, 1) := by decide +kernel
theorem dX4_doTick_81 : decode cX4_doTick 81 = .ok (.getfield 62, 3) := by decide +kernel
theorem dX4_doTick_84 : decode cX4_doTick 84 = .ok (.iadd, 1) := by decide +kernel
theorem dX4_doTick_85 : decode cX4_doTick 85 = .ok (.putfield 59, 3) := by decide +kernel
theorem dX4_doTick_88 : decode cX4_doTick 88 = .ok (.iload_n 1, 1) := by decide +kernel
theorem dX4_doTick_89 : decode cX4_doTick 89 = .ok (.aload_n 0, 1) := by decide +kernel
theorem dX4_doTick_90 : decode cX4_doTick 90 = .ok (.getfield 62, 3) := by decide +kernel
theorem dX4_doTick_93 : decode cX4_doTick 93 = .ok (.if_icmp .le 5, 3) := by decide +kernel
theorem dX4_doTick_96 : decode cX4_doTick 96 = .ok (.iconst 0, 1) := by decide +kernel
theorem dX4_doTick_97 : decode cX4_doTick 97 = .ok (.ireturn, 1) := by decide +kernel
theorem dX4_doTick_98 : decode cX4_doTick 98 = .ok (.aload_n 0, 1) := by decide +kernel
theorem dX4_doTick_99 : decode cX4_doTick 99 = .ok (.invokevirtual 93, 3) := by decide +kernel
theorem dX4_doTick_102 : decode cX4_doTick 102 = .ok (.iconst 1, 1) := by decide +kernel
theorem dX4_doTick_103 : decode cX4_doTick 103 = .ok (.ireturn, 1) := by decide +kernel
theorem dX4_speedFor_0 : decode cX4_speedFor 0 = .ok (.aload_n 0, 1) := by decide +kernel
theorem dX4_speedFor_1 : decode cX4_speedFor 1 = .ok (.getfield 9, 3) := by decide +kernel
theorem dX4_speedFor_4 : decode cX4_speedFor 4 = .ok (.aload_n 0, 1) := by decide +kernel
theorem dX4_speedFor_5 : decode cX4_speedFor 5 = .ok (.getfield 56, 3) := by decide +kernel
theorem dX4_speedFor_8 : decode cX4_speedFor 8 = .ok (.invokevirtual 96, 3) := by decide +kernel
theorem dX4_speedFor_11 : decode cX4_speedFor 11 = .ok (.istore_n 2, 1) := by decide +kernel
theorem dX4_speedFor_12 : decode cX4_speedFor 12 = .ok (.aload_n 0, 1) := by decide +kernel
theorem dX4_speedFor_13 : decode cX4_speedFor 13 = .ok (.getfield 62, 3) := by decide +kernel
theorem dX4_speedFor_16 : decode cX4_speedFor 16 = .ok (.iconst 1, 1) := by decide +kernel
theorem dX4_speedFor_17 : decode cX4_speedFor 17 = .ok (.iadd, 1) := by decide +kernel
theorem dX4_speedFor_18 : decode cX4_speedFor 18 = .ok (.aload_n 0, 1) := by decide +kernel
theorem dX4_speedFor_19 : decode cX4_speedFor 19 = .ok (.getfield 9, 3) := by decide +kernel
theorem dX4_speedFor_22 : decode cX4_speedFor 22 = .ok (.aload_n 0, 1) := by decide +kernel
theorem dX4_speedFor_23 : decode cX4_speedFor 23 = .ok (.getfield 56, 3) := by decide +kernel
theorem dX4_speedFor_26 : decode cX4_speedFor 26 = .ok (.invokevirtual 99, 3) := by decide +kernel
theorem dX4_speedFor_29 : decode cX4_speedFor 29 = .ok (.iload_n 1, 1) := by decide +kernel
theorem dX4_speedFor_30 : decode cX4_speedFor 30 = .ok (.invokestatic 102, 3) := by decide +kernel
theorem dX4_speedFor_33 : decode cX4_speedFor 33 = .ok (.invokestatic 102, 3) := by decide +kernel
theorem dX4_speedFor_36 : decode cX4_speedFor 36 = .ok (.istore_n 3, 1) := by decide +kernel
theorem dX4_speedFor_37 : decode cX4_speedFor 37 = .ok (.iload_n 3, 1) := by decide +kernel
theorem dX4_speedFor_38 : decode cX4_speedFor 38 = .ok (.iconst 1, 1) := by decide +kernel
theorem dX4_speedFor_39 : decode cX4_speedFor 39 = .ok (.if_icmp .le 20, 3) := by decide +kernel
theorem dX4_speedFor_42 : decode cX4_speedFor 42 = .ok (.iload_n 3, 1) := by decide +kernel
theorem dX4_speedFor_43 : decode cX4_speedFor 43 = .ok (.iload_n 1, 1) := by decide +kernel
theorem dX4_speedFor_44 : decode cX4_speedFor 44 = .ok (.iload_n 3, 1) := by decide +kernel
theorem dX4_speedFor_45 : decode cX4_speedFor 45 = .ok (.isub, 1) := by decide +kernel
theorem dX4_speedFor_46 : decode cX4_speedFor 46 = .ok (.iload_n 2, 1) := by decide +kernel
theorem dX4_speedFor_47 : decode cX4_speedFor 47 = .ok (.invokestatic 108, 3) := by decide +kernel
theorem dX4_speedFor_50 : decode cX4_speedFor 50 = .ok (.ifCond .ne 9, 3) := by decide +kernel
theorem dX4_speedFor_53 : decode cX4_speedFor 53 = .ok (.iinc 3 (-1), 3) := by decide +kernel
theorem dX4_speedFor_56 : decode cX4_speedFor 56 = .ok (.goto (-19), 3) := by decide +kernel
theorem dX4_speedFor_59 : decode cX4_speedFor 59 = .ok (.iload_n 3, 1) := by decide +kernel
theorem dX4_speedFor_60 : decode cX4_speedFor 60 = .ok (.iconst 1, 1) := by decide +kernel
theorem dX4_speedFor_61 : decode cX4_speedFor 61 = .ok (.invokestatic 112, 3) := by decide +kernel
theorem dX4_speedFor_64 : decode cX4_speedFor 64 = .ok (.ireturn, 1) := by decide +kernel
theorem dX4_canEnd_0 : decode cX4_canEnd 0 = .ok (.iconst 0, 1) := by decide +kernel
theorem dX4_canEnd_1 : decode cX4_canEnd 1 = .ok (.istore_n 3, 1) := by decide +kernel
theorem dX4_canEnd_2 : decode cX4_canEnd 2 = .ok (.iload_n 2, 1) := by decide +kernel
theorem dX4_canEnd_3 : decode cX4_canEnd 3 = .ok (.istore 4, 2) := by decide +kernel
theorem dX4_canEnd_5 : decode cX4_canEnd 5 = .ok (.iload 4, 2) := by decide +kernel
theorem dX4_canEnd_7 : decode cX4_canEnd 7 = .ok (.iload_n 0, 1) := by decide +kernel
theorem dX4_canEnd_8 : decode cX4_canEnd 8 = .ok (.if_icmp .ge 14, 3) := by decide +kernel
theorem dX4_canEnd_11 : decode cX4_canEnd 11 = .ok (.iload_n 3, 1) := by decide +kernel
theorem dX4_canEnd_12 : decode cX4_canEnd 12 = .ok (.iload 4, 2) := by decide +kernel
theorem dX4_canEnd_14 : decode cX4_canEnd 14 = .ok (.iadd, 1) := by decide +kernel
theorem dX4_canEnd_15 : decode cX4_canEnd 15 = .ok (.istore_n 3, 1) := by decide +kernel
theorem dX4_canEnd_16 : decode cX4_canEnd 16 = .ok (.iinc 4 1, 3) := by decide +kernel
theorem dX4_canEnd_19 : decode cX4_canEnd 19 = .ok (.goto (-14), 3) := by decide +kernel
theorem dX4_canEnd_22 : decode cX4_canEnd 22 = .ok (.iload_n 1, 1) := by decide +kernel
theorem dX4_canEnd_23 : decode cX4_canEnd 23 = .ok (.iload_n 3, 1) := by decide +kernel
theorem dX4_canEnd_24 : decode cX4_canEnd 24 = .ok (.if_icmp .lt 7, 3) := by decide +kernel
theorem dX4_canEnd_27 : decode cX4_canEnd 27 = .ok (.iconst 1, 1) := by decide +kernel
theorem dX4_canEnd_28 : decode cX4_canEnd 28 = .ok (.goto 4, 3) := by decide +kernel
theorem dX4_canEnd_31 : decode cX4_canEnd 31 = .ok (.iconst 0, 1) := by decide +kernel
theorem dX4_canEnd_32 : decode cX4_canEnd 32 = .ok (.ireturn, 1) := by decide +kernel
theorem dX4_endCommand_0 : decode cX4_endCommand 0 = .ok (.aload_n 0, 1) := by decide +kernel
theorem dX4_endCommand_1 : decode cX4_endCommand 1 = .ok (.getfield 9, 3) := by decide +kernel
theorem dX4_endCommand_4 : decode cX4_endCommand 4 = .ok (.aload_n 0, 1) := by decide +kernel
theorem dX4_endCommand_5 : decode cX4_endCommand 5 = .ok (.getfield 56, 3) := by decide +kernel
theorem dX4_endCommand_8 : decode cX4_endCommand 8 = .ok (.invokevirtual 77, 3) := by decide +kernel
theorem dX4_endCommand_11 : decode cX4_endCommand 11 = .ok (.istore_n 1, 1) := by decide +kernel
theorem dX4_endCommand_12 : decode cX4_endCommand 12 = .ok (.aload_n 0, 1) := by decide +kernel
theorem dX4_endCommand_13 : decode cX4_endCommand 13 = .ok (.aload_n 0, 1) := by decide +kernel
theorem dX4_endCommand_14 : decode cX4_endCommand 14 = .ok (.getfield 9, 3) := by decide +kernel
theorem dX4_endCommand_17 : decode cX4_endCommand 17 = .ok (.aload_n 0, 1) := by decide +kernel
theorem dX4_endCommand_18 : decode cX4_endCommand 18 = .ok (.getfield 56, 3) := by decide +kernel
theorem dX4_endCommand_21 : decode cX4_endCommand 21 = .ok (.invokevirtual 115, 3) := by decide +kernel
theorem dX4_endCommand_24 : decode cX4_endCommand 24 = .ok (.ifCond .eq 26, 3) := by decide +kernel
theorem dX4_endCommand_27 : decode cX4_endCommand 27 = .ok (.aload_n 0, 1) := by decide +kernel
theorem dX4_endCommand_28 : decode cX4_endCommand 28 = .ok (.getfield 62, 3) := by decide +kernel
theorem dX4_endCommand_31 : decode cX4_endCommand 31 = .ok (.aload_n 0, 1) := by decide +kernel
theorem dX4_endCommand_32 : decode cX4_endCommand 32 = .ok (.getfield 9, 3) := by decide +kernel
theorem dX4_endCommand_35 : decode cX4_endCommand 35 = .ok (.aload_n 0, 1) := by decide +kernel
theorem dX4_endCommand_36 : decode cX4_endCommand 36 = .ok (.getfield 56, 3) := by decide +kernel
theorem dX4_endCommand_39 : decode cX4_endCommand 39 = .ok (.iconst 1, 1) := by decide +kernel
theorem dX4_endCommand_40 : decode cX4_endCommand 40 = .ok (.iadd, 1) := by decide +kernel
theorem dX4_endCommand_41 : decode cX4_endCommand 41 = .ok (.invokevirtual 99, 3) := by decide +kernel
theorem dX4_endCommand_44 : decode cX4_endCommand 44 = .ok (.invokestatic 102, 3) := by decide +kernel
theorem dX4_endCommand_47 : decode cX4_endCommand 47 = .ok (.goto 4, 3) := by decide +kernel
theorem dX4_endCommand_50 : decode cX4_endCommand 50 = .ok (.iconst 0, 1) := by decide +kernel
theorem dX4_endCommand_51 : decode cX4_endCommand 51 = .ok (.putfield 62, 3) := by decide +kernel
theorem dX4_endCommand_54 : decode cX4_endCommand 54 = .ok (.iload_n 1, 1) := by decide +kernel
theorem dX4_endCommand_55 : decode cX4_endCommand 55 = .ok (.bipush 100, 2) := by decide +kernel
theorem dX4_endCommand_57 : decode cX4_endCommand 57 = .ok (.if_icmp .ne 14, 3) := by decide +kernel
theorem dX4_endCommand_60 : decode cX4_endCommand 60 = .ok (.aload_n 0, 1) := by decide +kernel
theorem dX4_endCommand_61 : decode cX4_endCommand 61 = .ok (.aload_n 0, 1) := by decide +kernel
theorem dX4_endCommand_62 : decode cX4_endCommand 62 = .ok (.getfield 56, 3) := by decide +kernel
theorem dX4_endCommand_65 : decode cX4_endCommand 65 = .ok (.invokevirtual 119, 3) := by decide +kernel
theorem dX4_endCommand_68 : decode cX4_endCommand 68 = .ok (.goto 32, 3) := by decide +kernel
theorem dX4_endCommand_71 : decode cX4_endCommand 71 = .ok (.iload_n 1, 1) := by decide +kernel
theorem dX4_endCommand_72 : decode cX4_endCommand 72 = .ok (.bipush 122, 2) := by decide +kernel
theorem dX4_endCommand_74 : decode cX4_endCommand 74 = .ok (.if_icmp .ne 14, 3) := by decide +kernel
theorem dX4_endCommand_77 : decode cX4_endCommand 77 = .ok (.aload_n 0, 1) := by decide +kernel
theorem dX4_endCommand_78 : decode cX4_endCommand 78 = .ok (.aload_n 0, 1) := by decide +kernel
theorem dX4_endCommand_79 : decode cX4_endCommand 79 = .ok (.getfield 56, 3) := by decide +kernel
theorem dX4_endCommand_82 : decode cX4_endCommand 82 = .ok (.putfield 26, 3) := by decide +kernel
theorem dX4_endCommand_85 : decode cX4_endCommand 85 = .ok (.goto 15, 3) := by decide +kernel
theorem dX4_endCommand_88 : decode cX4_endCommand 88 = .ok (.iload_n 1, 1) := by decide +kernel
theorem dX4_endCommand_89 : decode cX4_endCommand 89 = .ok (.bipush 112, 2) := by decide +kernel
theorem dX4_endCommand_91 : decode cX4_endCommand 91 = .ok (.if_icmp .ne 9, 3) := by decide +kernel
theorem dX4_endCommand_94 : decode cX4_endCommand 94 = .ok (.aload_n 0, 1) := by decide +kernel
theorem dX4_endCommand_95 : decode cX4_endCommand 95 = .ok (.bipush 112, 2) := by decide +kernel
theorem dX4_endCommand_97 : decode cX4_endCommand 97 = .ok (.putfield 19, 3) := by decide +kernel
theorem dX4_endCommand_100 : decode cX4_endCommand 100 = .ok (.aload_n 0, 1) := by decide +kernel
theorem dX4_endCommand_101 : decode cX4_endCommand 101 = .ok (.iconst 0, 1) := by decide +kernel
theorem dX4_endCommand_102 : decode cX4_endCommand 102 = .ok (.putfield 59, 3) := by decide +kernel
theorem dX4_endCommand_105 : decode cX4_endCommand 105 = .ok (.aload_n 0, 1) := by decide +kernel
theorem dX4_endCommand_106 : decode cX4_endCommand 106 = .ok (.dup, 1) := by decide +kernel
theorem dX4_endCommand_107 : decode cX4_endCommand 107 = .ok (.getfield 56, 3) := by decide +kernel
theorem dX4_endCommand_110 : decode cX4_endCommand 110 = .ok (.iconst 1, 1) := by decide +kernel
theorem dX4_endCommand_111 : decode cX4_endCommand 111 = .ok (.iadd, 1) := by decide +kernel
theorem dX4_endCommand_112 : decode cX4_endCommand 112 = .ok (.putfield 56, 3) := by decide +kernel
theorem dX4_endCommand_115 : decode cX4_endCommand 115 = .ok (.aload_n 0, 1) := by decide +kernel
theorem dX4_endCommand_116 : decode cX4_endCommand 116 = .ok (.getfield 56, 3) := by decide +kernel
theorem dX4_endCommand_119 : decode cX4_endCommand 119 = .ok (.aload_n 0, 1) := by decide +kernel
theorem dX4_endCommand_120 : decode cX4_endCommand 120 = .ok (.getfield 9, 3) := by decide +kernel
theorem dX4_endCommand_123 : decode cX4_endCommand 123 = .ok (.invokevirtual 122, 3) := by decide +kernel
theorem dX4_endCommand_126 : decode cX4_endCommand 126 = .ok (.if_icmp .lt 9, 3) := by decide +kernel
theorem dX4_endCommand_129 : decode cX4_endCommand 129 = .ok (.aload_n 0, 1) := by decide +kernel
theorem dX4_endCommand_130 : decode cX4_endCommand 130 = .ok (.bipush 100, 2) := by decide +kernel
theorem dX4_endCommand_132 : decode cX4_endCommand 132 = .ok (.putfield 19, 3) := by decide +kernel
theorem dX4_endCommand_135 : decode cX4_endCommand 135 = .ok (.return_, 1) := by decide +kernel
theorem dX4_lay_0 : decode cX4_lay 0 = .ok (.aload_n 0, 1) := by decide +kernel
theorem dX4_lay_1 : decode cX4_lay 1 = .ok (.getfield 9, 3) := by decide +kernel
theorem dX4_lay_4 : decode cX4_lay 4 = .ok (.iload_n 1, 1) := by decide +kernel
theorem dX4_lay_5 : decode cX4_lay 5 = .ok (.invokevirtual 126, 3) := by decide +kernel
theorem dX4_lay_8 : decode cX4_lay 8 = .ok (.istore_n 2, 1) := by decide +kernel
theorem dX4_lay_9 : decode cX4_lay 9 = .ok (.aload_n 0, 1) := by decide +kernel
theorem dX4_lay_10 : decode cX4_lay 10 = .ok (.getfield 9, 3) := by decide +kernel
theorem dX4_lay_13 : decode cX4_lay 13 = .ok (.iload_n 1, 1) := by decide +kernel
theorem dX4_lay_14 : decode cX4_lay 14 = .ok (.invokevirtual 129, 3) := by decide +kernel
theorem dX4_lay_17 : decode cX4_lay 17 = .ok (.istore_n 3, 1) := by decide +kernel
theorem dX4_lay_18 : decode cX4_lay 18 = .ok (.aload_n 0, 1) := by decide +kernel
theorem dX4_lay_19 : decode cX4_lay 19 = .ok (.getfield 9, 3) := by decide +kernel
theorem dX4_lay_22 : decode cX4_lay 22 = .ok (.iload_n 1, 1) := by decide +kernel
theorem dX4_lay_23 : decode cX4_lay 23 = .ok (.invokevirtual 132, 3) := by decide +kernel
theorem dX4_lay_26 : decode cX4_lay 26 = .ok (.istore 4, 2) := by decide +kernel
theorem dX4_lay_28 : decode cX4_lay 28 = .ok (.aload_n 0, 1) := by decide +kernel
theorem dX4_lay_29 : decode cX4_lay 29 = .ok (.getfield 9, 3) := by decide +kernel
theorem dX4_lay_32 : decode cX4_lay 32 = .ok (.iload_n 1, 1) := by decide +kernel
theorem dX4_lay_33 : decode cX4_lay 33 = .ok (.invokevirtual 135, 3) := by decide +kernel
theorem dX4_lay_36 : decode cX4_lay 36 = .ok (.invokestatic 138, 3) := by decide +kernel
theorem dX4_lay_39 : decode cX4_lay 39 = .ok (.istore 5, 2) := by decide +kernel
theorem dX4_lay_41 : decode cX4_lay 41 = .ok (.aload_n 0, 1) := by decide +kernel
theorem dX4_lay_42 : decode cX4_lay 42 = .ok (.getfield 9, 3) := by decide +kernel
theorem dX4_lay_45 : decode cX4_lay 45 = .ok (.iload_n 1, 1) := by decide +kernel
theorem dX4_lay_46 : decode cX4_lay 46 = .ok (.invokevirtual 141, 3) := by decide +kernel
theorem dX4_lay_49 : decode cX4_lay 49 = .ok (.invokestatic 138, 3) := by decide +kernel
theorem dX4_lay_52 : decode cX4_lay 52 = .ok (.istore 6, 2) := by decide +kernel
theorem dX4_lay_54 : decode cX4_lay 54 = .ok (.aload_n 0, 1) := by decide +kernel
theorem dX4_lay_55 : decode cX4_lay 55 = .ok (.getfield 9, 3) := by decide +kernel
theorem dX4_lay_58 : decode cX4_lay 58 = .ok (.iload_n 1, 1) := by decide +kernel
theorem dX4_lay_59 : decode cX4_lay 59 = .ok (.invokevirtual 144, 3) := by decide +kernel
theorem dX4_lay_62 : decode cX4_lay 62 = .ok (.istore 7, 2) := by decide +kernel
theorem dX4_lay_64 : decode cX4_lay 64 = .ok (.iconst 0, 1) := by decide +kernel
theorem dX4_lay_65 : decode cX4_lay 65 = .ok (.istore 8, 2) := by decide +kernel
theorem dX4_lay_67 : decode cX4_lay 67 = .ok (.iload 8, 2) := by decide +kernel
theorem dX4_lay_69 : decode cX4_lay 69 = .ok (.aload_n 0, 1) := by decide +kernel
theorem dX4_lay_70 : decode cX4_lay 70 = .ok (.getfield 9, 3) := by decide +kernel
theorem dX4_lay_73 : decode cX4_lay 73 = .ok (.iload_n 1, 1) := by decide +kernel
theorem dX4_lay_74 : decode cX4_lay 74 = .ok (.invokevirtual 147, 3) := by decide +kernel
theorem dX4_lay_77 : decode cX4_lay 77 = .ok (.if_icmp .ge 58, 3) := by decide +kernel
theorem dX4_lay_80 : decode cX4_lay 80 = .ok (.iload_n 2, 1) := by decide +kernel
theorem dX4_lay_81 : decode cX4_lay 81 = .ok (.iload_n 3, 1) := by decide +kernel
theorem dX4_lay_82 : decode cX4_lay 82 = .ok (.iload 4, 2) := by decide +kernel
theorem dX4_lay_84 : decode cX4_lay 84 = .ok (.invokestatic 150, 3) := by decide +kernel
theorem dX4_lay_87 : decode cX4_lay 87 = .ok (.ifCond .eq 32, 3) := by decide +kernel
theorem dX4_lay_90 : decode cX4_lay 90 = .ok (.aload_n 0, 1) := by decide +kernel
theorem dX4_lay_91 : decode cX4_lay 91 = .ok (.getfield 30, 3) := by decide +kernel
theorem dX4_lay_94 : decode cX4_lay 94 = .ok (.iload_n 2, 1) := by decide +kernel
theorem dX4_lay_95 : decode cX4_lay 95 = .ok (.iload_n 3, 1) := by decide +kernel
theorem dX4_lay_96 : decode cX4_lay 96 = .ok (.iload 4, 2) := by decide +kernel
theorem dX4_lay_98 : decode cX4_lay 98 = .ok (.invokestatic 153, 3) := by decide +kernel
theorem dX4_lay_101 : decode cX4_lay 101 = .ok (.dup2, 1) := by decide +kernel
theorem dX4_lay_102 : decode cX4_lay 102 = .ok (.iaload, 1) := by decide +kernel
theorem dX4_lay_103 : decode cX4_lay 103 = .ok (.iload 7, 2) := by decide +kernel
theorem dX4_lay_105 : decode cX4_lay 105 = .ok (.iadd, 1) := by decide +kernel
theorem dX4_lay_106 : decode cX4_lay 106 = .ok (.iastore, 1) := by decide +kernel
theorem dX4_lay_107 : decode cX4_lay 107 = .ok (.aload_n 0, 1) := by decide +kernel
theorem dX4_lay_108 : decode cX4_lay 108 = .ok (.dup, 1) := by decide +kernel
theorem dX4_lay_109 : decode cX4_lay 109 = .ok (.getfield 52, 3) := by decide +kernel
theorem dX4_lay_112 : decode cX4_lay 112 = .ok (.iload 7, 2) := by decide +kernel
theorem dX4_lay_114 : decode cX4_lay 114 = .ok (.i2l, 1) := by decide +kernel
theorem dX4_lay_115 : decode cX4_lay 115 = .ok (.ladd, 1) := by decide +kernel
theorem dX4_lay_116 : decode cX4_lay 116 = .ok (.putfield 52, 3) := by decide +kernel
theorem dX4_lay_119 : decode cX4_lay 119 = .ok (.iload_n 2, 1) := by decide +kernel
theorem dX4_lay_120 : decode cX4_lay 120 = .ok (.iload 5, 2) := by decide +kernel
theorem dX4_lay_122 : decode cX4_lay 122 = .ok (.isub, 1) := by decide +kernel
theorem dX4_lay_123 : decode cX4_lay 123 = .ok (.istore_n 2, 1) := by decide +kernel
theorem dX4_lay_124 : decode cX4_lay 124 = .ok (.iload_n 3, 1) := by decide +kernel
theorem dX4_lay_125 : decode cX4_lay 125 = .ok (.iload 6, 2) := by decide +kernel
theorem dX4_lay_127 : decode cX4_lay 127 = .ok (.isub, 1) := by decide +kernel
theorem dX4_lay_128 : decode cX4_lay 128 = .ok (.istore_n 3, 1) := by decide +kernel
theorem dX4_lay_129 : decode cX4_lay 129 = .ok (.iinc 8 1, 3) := by decide +kernel
theorem dX4_lay_132 : decode cX4_lay 132 = .ok (.goto (-65), 3) := by decide +kernel
theorem dX4_lay_135 : decode cX4_lay 135 = .ok (.return_, 1) := by decide +kernel
theorem dX4_endPause_0 : decode cX4_endPause 0 = .ok (.aload_n 0, 1) := by decide +kernel
theorem dX4_endPause_1 : decode cX4_endPause 1 = .ok (.bipush 114, 2) := by decide +kernel
theorem dX4_endPause_3 : decode cX4_endPause 3 = .ok (.putfield 19, 3) := by decide +kernel
theorem dX4_endPause_6 : decode cX4_endPause 6 = .ok (.return_, 1) := by decide +kernel
theorem dX4_beginFailure_0 : decode cX4_beginFailure 0 = .ok (.aload_n 0, 1) := by decide +kernel
theorem dX4_beginFailure_1 : decode cX4_beginFailure 1 = .ok (.aload_n 0, 1) := by decide +kernel
theorem dX4_beginFailure_2 : decode cX4_beginFailure 2 = .ok (.getfield 19, 3) := by decide +kernel
theorem dX4_beginFailure_5 : decode cX4_beginFailure 5 = .ok (.putfield 23, 3) := by decide +kernel
theorem dX4_beginFailure_8 : decode cX4_beginFailure 8 = .ok (.aload_n 0, 1) := by decide +kernel
theorem dX4_beginFailure_9 : decode cX4_beginFailure 9 = .ok (.bipush 102, 2) := by decide +kernel
theorem dX4_beginFailure_11 : decode cX4_beginFailure 11 = .ok (.putfield 19, 3) := by decide +kernel
theorem dX4_beginFailure_14 : decode cX4_beginFailure 14 = .ok (.aload_n 0, 1) := by decide +kernel
theorem dX4_beginFailure_15 : decode cX4_beginFailure 15 = .ok (.getfield 15, 3) := by decide +kernel
theorem dX4_beginFailure_18 : decode cX4_beginFailure 18 = .ok (.iconst 0, 1) := by decide +kernel
theorem dX4_beginFailure_19 : decode cX4_beginFailure 19 = .ok (.invokevirtual 157, 3) := by decide +kernel
theorem dX4_beginFailure_22 : decode cX4_beginFailure 22 = .ok (.pop, 1) := by decide +kernel
theorem dX4_beginFailure_23 : decode cX4_beginFailure 23 = .ok (.aload_n 0, 1) := by decide +kernel
theorem dX4_beginFailure_24 : decode cX4_beginFailure 24 = .ok (.iconst 0, 1) := by decide +kernel
theorem dX4_beginFailure_25 : decode cX4_beginFailure 25 = .ok (.putfield 62, 3) := by decide +kernel
theorem dX4_beginFailure_28 : decode cX4_beginFailure 28 = .ok (.aload_n 0, 1) := by decide +kernel
theorem dX4_beginFailure_29 : decode cX4_beginFailure 29 = .ok (.getfield 23, 3) := by decide +kernel
theorem dX4_beginFailure_32 : decode cX4_beginFailure 32 = .ok (.ireturn, 1) := by decide +kernel
theorem dX4_endFailure_0 : decode cX4_endFailure 0 = .ok (.aload_n 0, 1) := by decide +kernel
theorem dX4_endFailure_1 : decode cX4_endFailure 1 = .ok (.aload_n 0, 1) := by decide +kernel
theorem dX4_endFailure_2 : decode cX4_endFailure 2 = .ok (.getfield 23, 3) := by decide +kernel
theorem dX4_endFailure_5 : decode cX4_endFailure 5 = .ok (.putfield 19, 3) := by decide +kernel
theorem dX4_endFailure_8 : decode cX4_endFailure 8 = .ok (.aload_n 0, 1) := by decide +kernel
theorem dX4_endFailure_9 : decode cX4_endFailure 9 = .ok (.getfield 19, 3) := by decide +kernel
theorem dX4_endFailure_12 : decode cX4_endFailure 12 = .ok (.ireturn, 1) := by decide +kernel
theorem dX4_cutPower_0 : decode cX4_cutPower 0 = .ok (.aload_n 0, 1) := by decide +kernel
theorem dX4_cutPower_1 : decode cX4_cutPower 1 = .ok (.getfield 19, 3) := by decide +kernel
theorem dX4_cutPower_4 : decode cX4_cutPower 4 = .ok (.istore_n 1, 1) := by decide +kernel
theorem dX4_cutPower_5 : decode cX4_cutPower 5 = .ok (.iload_n 1, 1) := by decide +kernel
theorem dX4_cutPower_6 : decode cX4_cutPower 6 = .ok (.invokestatic 34, 3) := by decide +kernel
theorem dX4_cutPower_9 : decode cX4_cutPower 9 = .ok (.ifCond .ne 19, 3) := by decide +kernel
theorem dX4_cutPower_12 : decode cX4_cutPower 12 = .ok (.iload_n 1, 1) := by decide +kernel
theorem dX4_cutPower_13 : decode cX4_cutPower 13 = .ok (.bipush 102, 2) := by decide +kernel
theorem dX4_cutPower_15 : decode cX4_cutPower 15 = .ok (.if_icmp .ne 18, 3) := by decide +kernel
theorem dX4_cutPower_18 : decode cX4_cutPower 18 = .ok (.aload_n 0, 1) := by decide +kernel
theorem dX4_cutPower_19 : decode cX4_cutPower 19 = .ok (.getfield 23, 3) := by decide +kernel
theorem dX4_cutPower_22 : decode cX4_cutPower 22 = .ok (.invokestatic 34, 3) := by decide +kernel
theorem dX4_cutPower_25 : decode cX4_cutPower 25 = .ok (.ifCond .eq 8, 3) := by decide +kernel
theorem dX4_cutPower_28 : decode cX4_cutPower 28 = .ok (.aload_n 0, 1) := by decide +kernel
theorem dX4_cutPower_29 : decode cX4_cutPower 29 = .ok (.iconst 1, 1) := by decide +kernel
theorem dX4_cutPower_30 : decode cX4_cutPower 30 = .ok (.putfield 38, 3) := by decide +kernel
theorem dX4_cutPower_33 : decode cX4_cutPower 33 = .ok (.aload_n 0, 1) := by decide +kernel
theorem dX4_cutPower_34 : decode cX4_cutPower 34 = .ok (.bipush 105, 2) := by decide +kernel
theorem dX4_cutPower_36 : decode cX4_cutPower 36 = .ok (.putfield 19, 3) := by decide +kernel
theorem dX4_cutPower_39 : decode cX4_cutPower 39 = .ok (.aload_n 0, 1) := by decide +kernel
theorem dX4_cutPower_40 : decode cX4_cutPower 40 = .ok (.getfield 15, 3) := by decide +kernel
theorem dX4_cutPower_43 : decode cX4_cutPower 43 = .ok (.invokevirtual 160, 3) := by decide +kernel
theorem dX4_cutPower_46 : decode cX4_cutPower 46 = .ok (.aload_n 0, 1) := by decide +kernel
theorem dX4_cutPower_47 : decode cX4_cutPower 47 = .ok (.iconst 0, 1) := by decide +kernel
theorem dX4_cutPower_48 : decode cX4_cutPower 48 = .ok (.putfield 62, 3) := by decide +kernel
theorem dX4_cutPower_51 : decode cX4_cutPower 51 = .ok (.iload_n 1, 1) := by decide +kernel
theorem dX4_cutPower_52 : decode cX4_cutPower 52 = .ok (.ireturn, 1) := by decide +kernel
theorem dX4_canResume_0 : decode cX4_canResume 0 = .ok (.aload_n 0, 1) := by decide +kernel
theorem dX4_canResume_1 : decode cX4_canResume 1 = .ok (.getfield 19, 3) := by decide +kernel
theorem dX4_canResume_4 : decode cX4_canResume 4 = .ok (.bipush 105, 2) := by decide +kernel
theorem dX4_canResume_6 : decode cX4_canResume 6 = .ok (.if_icmp .ne 14, 3) := by decide +kernel
theorem dX4_canResume_9 : decode cX4_canResume 9 = .ok (.aload_n 0, 1) := by decide +kernel
theorem dX4_canResume_10 : decode cX4_canResume 10 = .ok (.getfield 38, 3) := by decide +kernel
theorem dX4_canResume_13 : decode cX4_canResume 13 = .ok (.ifCond .eq 7, 3) := by decide +kernel
theorem dX4_canResume_16 : decode cX4_canResume 16 = .ok (.iconst 1, 1) := by decide +kernel
theorem dX4_canResume_17 : decode cX4_canResume 17 = .ok (.goto 4, 3) := by decide +kernel
theorem dX4_canResume_20 : decode cX4_canResume 20 = .ok (.iconst 0, 1) := by decide +kernel
theorem dX4_canResume_21 : decode cX4_canResume 21 = .ok (.ireturn, 1) := by decide +kernel
theorem dX4_resumePrint_0 : decode cX4_resumePrint 0 = .ok (.aload_n 0, 1) := by decide +kernel
theorem dX4_resumePrint_1 : decode cX4_resumePrint 1 = .ok (.bipush 114, 2) := by decide +kernel
theorem dX4_resumePrint_3 : decode cX4_resumePrint 3 = .ok (.putfield 19, 3) := by decide +kernel
theorem dX4_resumePrint_6 : decode cX4_resumePrint 6 = .ok (.aload_n 0, 1) := by decide +kernel
theorem dX4_resumePrint_7 : decode cX4_resumePrint 7 = .ok (.aload_n 0, 1) := by decide +kernel
theorem dX4_resumePrint_8 : decode cX4_resumePrint 8 = .ok (.getfield 26, 3) := by decide +kernel
theorem dX4_resumePrint_11 : decode cX4_resumePrint 11 = .ok (.iconst (-1), 1) := by decide +kernel
theorem dX4_resumePrint_12 : decode cX4_resumePrint 12 = .ok (.if_icmp .ne 7, 3) := by decide +kernel
theorem dX4_resumePrint_15 : decode cX4_resumePrint 15 = .ok (.iconst 0, 1) := by decide +kernel
theorem dX4_resumePrint_16 : decode cX4_resumePrint 16 = .ok (.goto 7, 3) := by decide +kernel
theorem dX4_resumePrint_19 : decode cX4_resumePrint 19 = .ok (.aload_n 0, 1) := by decide +kernel
theorem dX4_resumePrint_20 : decode cX4_resumePrint 20 = .ok (.getfield 26, 3) := by decide +kernel
theorem dX4_resumePrint_23 : decode cX4_resumePrint 23 = .ok (.invokevirtual 42, 3) := by decide +kernel
theorem dX4_resumePrint_26 : decode cX4_resumePrint 26 = .ok (.aload_n 0, 1) := by decide +kernel
theorem dX4_resumePrint_27 : decode cX4_resumePrint 27 = .ok (.getfield 56, 3) := by decide +kernel
theorem dX4_resumePrint_30 : decode cX4_resumePrint 30 = .ok (.ireturn, 1) := by decide +kernel
theorem dX4_currentState_0 : decode cX4_currentState 0 = .ok (.aload_n 0, 1) := by decide +kernel
theorem dX4_currentState_1 : decode cX4_currentState 1 = .ok (.getfield 19, 3) := by decide +kernel
theorem dX4_currentState_4 : decode cX4_currentState 4 = .ok (.ireturn, 1) := by decide +kernel
theorem dX4_nextCommand_0 : decode cX4_nextCommand 0 = .ok (.aload_n 0, 1) := by decide +kernel
theorem dX4_nextCommand_1 : decode cX4_nextCommand 1 = .ok (.getfield 56, 3) := by decide +kernel
theorem dX4_nextCommand_4 : decode cX4_nextCommand 4 = .ok (.ireturn, 1) := by decide +kernel
theorem dX4_currentSpeed_0 : decode cX4_currentSpeed 0 = .ok (.aload_n 0, 1) := by decide +kernel
theorem dX4_currentSpeed_1 : decode cX4_currentSpeed 1 = .ok (.getfield 62, 3) := by decide +kernel
theorem dX4_currentSpeed_4 : decode cX4_currentSpeed 4 = .ok (.ireturn, 1) := by decide +kernel
theorem dX4_ticksPassed_0 : decode cX4_ticksPassed 0 = .ok (.aload_n 0, 1) := by decide +kernel
theorem dX4_ticksPassed_1 : decode cX4_ticksPassed 1 = .ok (.getfield 65, 3) := by decide +kernel
theorem dX4_ticksPassed_4 : decode cX4_ticksPassed 4 = .ok (.lreturn, 1) := by decide +kernel
theorem dX4_laidIn_0 : decode cX4_laidIn 0 = .ok (.iload_n 1, 1) := by decide +kernel
theorem dX4_laidIn_1 : decode cX4_laidIn 1 = .ok (.iload_n 2, 1) := by decide +kernel
theorem dX4_laidIn_2 : decode cX4_laidIn 2 = .ok (.iload_n 3, 1) := by decide +kernel
theorem dX4_laidIn_3 : decode cX4_laidIn 3 = .ok (.invokestatic 150, 3) := by decide +kernel
theorem dX4_laidIn_6 : decode cX4_laidIn 6 = .ok (.ifCond .eq 17, 3) := by decide +kernel
theorem dX4_laidIn_9 : decode cX4_laidIn 9 = .ok (.aload_n 0, 1) := by decide +kernel
theorem dX4_laidIn_10 : decode cX4_laidIn 10 = .ok (.getfield 30, 3) := by decide +kernel
theorem dX4_laidIn_13 : decode cX4_laidIn 13 = .ok (.iload_n 1, 1) := by decide +kernel
theorem dX4_laidIn_14 : decode cX4_laidIn 14 = .ok (.iload_n 2, 1) := by decide +kernel
theorem dX4_laidIn_15 : decode cX4_laidIn 15 = .ok (.iload_n 3, 1) := by decide +kernel
theorem dX4_laidIn_16 : decode cX4_laidIn 16 = .ok (.invokestatic 153, 3) := by decide +kernel
theorem dX4_laidIn_19 : decode cX4_laidIn 19 = .ok (.iaload, 1) := by decide +kernel
theorem dX4_laidIn_20 : decode cX4_laidIn 20 = .ok (.goto 4, 3) := by decide +kernel
theorem dX4_laidIn_23 : decode cX4_laidIn 23 = .ok (.iconst 0, 1) := by decide +kernel
theorem dX4_laidIn_24 : decode cX4_laidIn 24 = .ok (.ireturn, 1) := by decide +kernel
theorem dX4_sumOfLaid_0 : decode cX4_sumOfLaid 0 = .ok (.aload_n 0, 1) := by decide +kernel
theorem dX4_sumOfLaid_1 : decode cX4_sumOfLaid 1 = .ok (.getfield 52, 3) := by decide +kernel
theorem dX4_sumOfLaid_4 : decode cX4_sumOfLaid 4 = .ok (.lreturn, 1) := by decide +kernel
theorem dX5_init_0 : decode cX5_init 0 = .ok (.aload_n 0, 1) := by decide +kernel
theorem dX5_init_1 : decode cX5_init 1 = .ok (.invokespecial 5, 3) := by decide +kernel
theorem dX5_init_4 : decode cX5_init 4 = .ok (.aload_n 0, 1) := by decide +kernel
theorem dX5_init_5 : decode cX5_init 5 = .ok (.aload_n 1, 1) := by decide +kernel
theorem dX5_init_6 : decode cX5_init 6 = .ok (.putfield 11, 3) := by decide +kernel
theorem dX5_init_9 : decode cX5_init 9 = .ok (.aload_n 0, 1) := by decide +kernel
theorem dX5_init_10 : decode cX5_init 10 = .ok (.sipush 144, 3) := by decide +kernel
theorem dX5_init_13 : decode cX5_init 13 = .ok (.newarray .boolean, 2) := by decide +kernel
theorem dX5_init_15 : decode cX5_init 15 = .ok (.putfield 15, 3) := by decide +kernel
theorem dX5_init_18 : decode cX5_init 18 = .ok (.aload_n 0, 1) := by decide +kernel
theorem dX5_init_19 : decode cX5_init 19 = .ok (.sipush 144, 3) := by decide +kernel
theorem dX5_init_22 : decode cX5_init 22 = .ok (.newarray .int, 2) := by decide +kernel
theorem dX5_init_24 : decode cX5_init 24 = .ok (.putfield 19, 3) := by decide +kernel
theorem dX5_init_27 : decode cX5_init 27 = .ok (.aload_n 0, 1) := by decide +kernel
theorem dX5_init_28 : decode cX5_init 28 = .ok (.sipush 676, 3) := by decide +kernel
theorem dX5_init_31 : decode cX5_init 31 = .ok (.newarray .boolean, 2) := by decide +kernel
theorem dX5_init_33 : decode cX5_init 33 = .ok (.putfield 23, 3) := by decide +kernel
theorem dX5_init_36 : decode cX5_init 36 = .ok (.return_, 1) := by decide +kernel
theorem dX5_countSets_0 : decode cX5_countSets 0 = .ok (.aload_n 0, 1) := by decide +kernel
theorem dX5_countSets_1 : decode cX5_countSets 1 = .ok (.invokevirtual 26, 3) := by decide +kernel
theorem dX5_countSets_4 : decode cX5_countSets 4 = .ok (.iconst 0, 1) := by decide +kernel
theorem dX5_countSets_5 : decode cX5_countSets 5 = .ok (.istore_n 3, 1) := by decide +kernel
theorem dX5_countSets_6 : decode cX5_countSets 6 = .ok (.iconst 0, 1) := by decide +kernel
theorem dX5_countSets_7 : decode cX5_countSets 7 = .ok (.istore 4, 2) := by decide +kernel
theorem dX5_countSets_9 : decode cX5_countSets 9 = .ok (.iload 4, 2) := by decide +kernel
theorem dX5_countSets_11 : decode cX5_countSets 11 = .ok (.sipush 144, 3) := by decide +kernel
theorem dX5_countSets_14 : decode cX5_countSets 14 = .ok (.if_icmp .ge 53, 3) := by decide +kernel
theorem dX5_countSets_17 : decode cX5_countSets 17 = .ok (.aload_n 0, 1) := by decide +kernel
theorem dX5_countSets_18 : decode cX5_countSets 18 = .ok (.iconst 0, 1) := by decide +kernel
theorem dX5_countSets_19 : decode cX5_countSets 19 = .ok (.putfield 29, 3) := by decide +kernel
theorem dX5_countSets_22 : decode cX5_countSets 22 = .ok (.aload_n 0, 1) := by decide +kernel
theorem dX5_countSets_23 : decode cX5_countSets 23 = .ok (.iload 4, 2) := by decide +kernel
theorem dX5_countSets_25 : decode cX5_countSets 25 = .ok (.bipush 12, 2) := by decide +kernel
theorem dX5_countSets_27 : decode cX5_countSets 27 = .ok (.irem, 1) := by decide +kernel
theorem dX5_countSets_28 : decode cX5_countSets 28 = .ok (.iload 4, 2) := by decide +kernel
theorem dX5_countSets_30 : decode cX5_countSets 30 = .ok (.bipush 12, 2) := by decide +kernel
theorem dX5_countSets_32 : decode cX5_countSets 32 = .ok (.idiv, 1) := by decide +kernel
theorem dX5_countSets_33 : decode cX5_countSets 33 = .ok (.iload_n 1, 1) := by decide +kernel
theorem dX5_countSets_34 : decode cX5_countSets 34 = .ok (.iload_n 2, 1) := by decide +kernel
theorem dX5_countSets_35 : decode cX5_countSets 35 = .ok (.invokevirtual 33, 3) := by decide +kernel
theorem dX5_countSets_38 : decode cX5_countSets 38 = .ok (.ifCond .eq 23, 3) := by decide +kernel
theorem dX5_countSets_41 : decode cX5_countSets 41 = .ok (.aload_n 0, 1) := by decide +kernel
theorem dX5_countSets_42 : decode cX5_countSets 42 = .ok (.iload_n 1, 1) := by decide +kernel
theorem dX5_countSets_43 : decode cX5_countSets 43 = .ok (.iload_n 2, 1) := by decide +kernel
theorem dX5_countSets_44 : decode cX5_countSets 44 = .ok (.invokevirtual 37, 3) := by decide +kernel
theorem dX5_countSets_47 : decode cX5_countSets 47 = .ok (.istore 5, 2) := by decide +kernel
theorem dX5_countSets_49 : decode cX5_countSets 49 = .ok (.iload_n 2, 1) := by decide +kernel
theorem dX5_countSets_50 : decode cX5_countSets 50 = .ok (.ifCond .ne 8, 3) := by decide +kernel
theorem dX5_countSets_53 : decode cX5_countSets 53 = .ok (.iload 5, 2) := by decide +kernel
theorem dX5_countSets_55 : decode cX5_countSets 55 = .ok (.ifCond .ne 6, 3) := by decide +kernel
theorem dX5_countSets_58 : decode cX5_countSets 58 = .ok (.iinc 3 1, 3) := by decide +kernel
theorem dX5_countSets_61 : decode cX5_countSets 61 = .ok (.iinc 4 1, 3) := by decide +kernel
theorem dX5_countSets_64 : decode cX5_countSets 64 = .ok (.goto (-55), 3) := by decide +kernel
theorem dX5_countSets_67 : decode cX5_countSets 67 = .ok (.iload_n 3, 1) := by decide +kernel
theorem dX5_countSets_68 : decode cX5_countSets 68 = .ok (.ireturn, 1) := by decide +kernel
theorem dX5_forgetSeen_0 : decode cX5_forgetSeen 0 = .ok (.iconst 0, 1) := by decide +kernel
theorem dX5_forgetSeen_1 : decode cX5_forgetSeen 1 = .ok (.istore_n 1, 1) := by decide +kernel
theorem dX5_forgetSeen_2 : decode cX5_forgetSeen 2 = .ok (.iload_n 1, 1) := by decide +kernel
theorem dX5_forgetSeen_3 : decode cX5_forgetSeen 3 = .ok (.aload_n 0, 1) := by decide +kernel
theorem dX5_forgetSeen_4 : decode cX5_forgetSeen 4 = .ok (.getfield 15, 3) := by decide +kernel
theorem dX5_forgetSeen_7 : decode cX5_forgetSeen 7 = .ok (.arraylength, 1) := by decide +kernel
theorem dX5_forgetSeen_8 : decode cX5_forgetSeen 8 = .ok (.if_icmp .ge 16, 3) := by decide +kernel
theorem dX5_forgetSeen_11 : decode cX5_forgetSeen 11 = .ok (.aload_n 0, 1) := by decide +kernel
theorem dX5_forgetSeen_12 : decode cX5_forgetSeen 12 = .ok (.getfield 15, 3) := by decide +kernel
theorem dX5_forgetSeen_15 : decode cX5_forgetSeen 15 = .ok (.iload_n 1, 1) := by decide +kernel
theorem dX5_forgetSeen_16 : decode cX5_forgetSeen 16 = .ok (.iconst 0, 1) := by decide +kernel
theorem dX5_forgetSeen_17 : decode cX5_forgetSeen 17 = .ok (.bastore, 1) := by decide +kernel
theorem dX5_forgetSeen_18 : decode cX5_forgetSeen 18 = .ok (.iinc 1 1, 3) := by decide +kernel
theorem dX5_forgetSeen_21 : decode cX5_forgetSeen 21 = .ok (.goto (-19), 3) := by decide +kernel
theorem dX5_forgetSeen_24 : decode cX5_forgetSeen 24 = .ok (.return_, 1) := by decide +kernel
theorem dX5_note_0 : decode cX5_note 0 = .ok (.iload_n 1, 1) := by decide +kernel
theorem dX5_note_1 : decode cX5_note 1 = .ok (.iload_n 2, 1) := by decide +kernel
theorem dX5_note_2 : decode cX5_note 2 = .ok (.iload_n 3, 1) := by decide +kernel
theorem dX5_note_3 : decode cX5_note 3 = .ok (.invokestatic 41, 3) := by decide +kernel
theorem dX5_note_6 : decode cX5_note 6 = .ok (.ifCond .eq 18, 3) := by decide +kernel
theorem dX5_note_9 : decode cX5_note 9 = .ok (.aload_n 0, 1) := by decide +kernel
theorem dX5_note_10 : decode cX5_note 10 = .ok (.getfield 11, 3) := by decide +kernel
theorem dX5_note_13 : decode cX5_note 13 = .ok (.iload_n 1, 1) := by decide +kernel
theorem dX5_note_14 : decode cX5_note 14 = .ok (.iload_n 2, 1) := by decide +kernel
theorem dX5_note_15 : decode cX5_note 15 = .ok (.iload_n 3, 1) := by decide +kernel
theorem dX5_note_16 : decode cX5_note 16 = .ok (.invokevirtual 45, 3) := by decide +kernel
theorem dX5_note_19 : decode cX5_note 19 = .ok (.iload 4, 2) := by decide +kernel
theorem dX5_note_21 : decode cX5_note 21 = .ok (.if_icmp .eq 5, 3) := by decide +kernel
theorem dX5_note_24 : decode cX5_note 24 = .ok (.iconst 0, 1) := by decide +kernel
theorem dX5_note_25 : decode cX5_note 25 = .ok (.ireturn, 1) := by decide +kernel
theorem dX5_note_26 : decode cX5_note 26 = .ok (.iload_n 1, 1) := by decide +kernel
theorem dX5_note_27 : decode cX5_note 27 = .ok (.iload_n 2, 1) := by decide +kernel
theorem dX5_note_28 : decode cX5_note 28 = .ok (.iconst 0, 1) := by decide +kernel
theorem dX5_note_29 : decode cX5_note 29 = .ok (.invokestatic 50, 3) := by decide +kernel
theorem dX5_note_32 : decode cX5_note 32 = .ok (.istore 5, 2) := by decide +kernel
theorem dX5_note_34 : decode cX5_note 34 = .ok (.aload_n 0, 1) := by decide +kernel
theorem dX5_note_35 : decode cX5_note 35 = .ok (.getfield 15, 3) := by decide +kernel
theorem dX5_note_38 : decode cX5_note 38 = .ok (.iload 5, 2) := by decide +kernel
theorem dX5_note_40 : decode cX5_note 40 = .ok (.baload, 1) := by decide +kernel
theorem dX5_note_41 : decode cX5_note 41 = .ok (.ifCond .ne 15, 3) := by decide +kernel
theorem dX5_note_44 : decode cX5_note 44 = .ok (.aload_n 0, 1) := by decide +kernel
theorem dX5_note_45 : decode cX5_note 45 = .ok (.getfield 29, 3) := by decide +kernel
theorem dX5_note_48 : decode cX5_note 48 = .ok (.aload_n 0, 1) := by decide +kernel
theorem dX5_note_49 : decode cX5_note 49 = .ok (.getfield 19, 3) := by decide +kernel
theorem dX5_note_52 : decode cX5_note 52 = .ok (.arraylength, 1) := by decide +kernel
theorem dX5_note_53 : decode cX5_note 53 = .ok (.if_icmp .lt 5, 3) := by decide +kernel
theorem dX5_note_56 : decode cX5_note 56 = .ok (.iconst 0, 1) := by decide +kernel
theorem dX5_note_57 : decode cX5_note 57 = .ok (.ireturn, 1) := by decide +kernel
theorem dX5_note_58 : decode cX5_note 58 = .ok (.aload_n 0, 1) := by decide +kernel
theorem dX5_note_59 : decode cX5_note 59 = .ok (.getfield 15, 3) := by decide +kernel
theorem dX5_note_62 : decode cX5_note 62 = .ok (.iload 5, 2) := by decide +kernel
theorem dX5_note_64 : decode cX5_note 64 = .ok (.iconst 1, 1) := by decide +kernel
theorem dX5_note_65 : decode cX5_note 65 = .ok (.bastore, 1) := by decide +kernel
theorem dX5_note_66 : decode cX5_note 66 = .ok (.aload_n 0, 1) := by decide +kernel
theorem dX5_note_67 : decode cX5_note 67 = .ok (.getfield 19, 3) := by decide +kernel
theorem dX5_note_70 : decode cX5_note 70 = .ok (.aload_n 0, 1) := by decide +kernel
theorem dX5_note_71 : decode cX5_note 71 = .ok (.getfield 29, 3) := by decide +kernel
theorem dX5_note_74 : decode cX5_note 74 = .ok (.iload 5, 2) := by decide +kernel
theorem dX5_note_76 : decode cX5_note 76 = .ok (.iastore, 1) := by decide +kernel
theorem dX5_note_77 : decode cX5_note 77 = .ok (.aload_n 0, 1) := by decide +kernel
theorem dX5_note_78 : decode cX5_note 78 = .ok (.dup, 1) := by decide +kernel
theorem dX5_note_79 : decode cX5_note 79 = .ok (.getfield 29, 3) := by decide +kernel
theorem dX5_note_82 : decode cX5_note 82 = .ok (.iconst 1, 1) := by decide +kernel
theorem dX5_note_83 : decode cX5_note 83 = .ok (.iadd, 1) := by decide +kernel
theorem dX5_note_84 : decode cX5_note 84 = .ok (.putfield 29, 3) := by decide +kernel
theorem dX5_note_87 : decode cX5_note 87 = .ok (.iconst 1, 1) := by decide +kernel
theorem dX5_note_88 : decode cX5_note 88 = .ok (.ireturn, 1) := by decide +kernel
theorem dX5_completeSet_0 : decode cX5_completeSet 0 = .ok (.iconst 0, 1) := by decide +kernel
theorem dX5_completeSet_1 : decode cX5_completeSet 1 = .ok (.istore_n 3, 1) := by decide +kernel
theorem dX5_completeSet_2 : decode cX5_completeSet 2 = .ok (.iconst 0, 1) := by decide +kernel
theorem dX5_completeSet_3 : decode cX5_completeSet 3 = .ok (.istore 4, 2) := by decide +kernel
theorem dX5_completeSet_5 : decode cX5_completeSet 5 = .ok (.iload 4, 2) := by decide +kernel
theorem dX5_completeSet_7 : decode cX5_completeSet 7 = .ok (.aload_n 0, 1) := by decide +kernel
theorem dX5_completeSet_8 : decode cX5_completeSet 8 = .ok (.getfield 29, 3) := by decide +kernel
theorem dX5_completeSet_11 : decode cX5_completeSet 11 = .ok (.if_icmp .ge 79, 3) := by decide +kernel
theorem dX5_completeSet_14 : decode cX5_completeSet 14 = .ok (.iload 4, 2) := by decide +kernel
theorem dX5_completeSet_16 : decode cX5_completeSet 16 = .ok (.aload_n 0, 1) := by decide +kernel
theorem dX5_completeSet_17 : decode cX5_completeSet 17 = .ok (.getfield 19, 3) := by decide +kernel
theorem dX5_completeSet_20 : decode cX5_completeSet 20 = .ok (.arraylength, 1) := by decide +kernel
theorem dX5_completeSet_21 : decode cX5_completeSet 21 = .ok (.if_icmp .ge 69, 3) := by decide +kernel
theorem dX5_completeSet_24 : decode cX5_completeSet 24 = .ok (.aload_n 0, 1) := by decide +kernel
theorem dX5_completeSet_25 : decode cX5_completeSet 25 = .ok (.getfield 19, 3) := by decide +kernel
theorem dX5_completeSet_28 : decode cX5_completeSet 28 = .ok (.iload 4, 2) := by decide +kernel
theorem dX5_completeSet_30 : decode cX5_completeSet 30 = .ok (.iaload, 1) := by decide +kernel
theorem dX5_completeSet_31 : decode cX5_completeSet 31 = .ok (.bipush 12, 2) := by decide +kernel
theorem dX5_completeSet_33 : decode cX5_completeSet 33 = .ok (.irem, 1) := by decide +kernel
theorem dX5_completeSet_34 : decode cX5_completeSet 34 = .ok (.istore 5, 2) := by decide +kernel
theorem dX5_completeSet_36 : decode cX5_completeSet 36 = .ok (.aload_n 0, 1) := by decide +kernel
theorem dX5_completeSet_37 : decode cX5_completeSet 37 = .ok (.getfield 19, 3) := by decide +kernel
theorem dX5_completeSet_40 : decode cX5_completeSet 40 = .ok (.iload 4, 2) := by decide +kernel
theorem dX5_completeSet_42 : decode cX5_completeSet 42 = .ok (.iaload, 1) := by decide +kernel
theorem dX5_completeSet_43 : decode cX5_completeSet 43 = .ok (.bipush 12, 2) := by decide +kernel
theorem dX5_completeSet_45 : decode cX5_completeSet 45 = .ok (.idiv, 1) := by decide +kernel
theorem dX5_completeSet_46 : decode cX5_completeSet 46 = .ok (.istore 6, 2) := by decide +kernel
theorem dX5_completeSet_48 : decode cX5_completeSet 48 = .ok (.iload_n 3, 1) := by decide +kernel
theorem dX5_completeSet_49 : decode cX5_completeSet 49 = .ok (.ifCond .ne 19, 3) := by decide +kernel
theorem dX5_completeSet_52 : decode cX5_completeSet 52 = .ok (.iload 5, 2) := by decide +kernel
theorem dX5_completeSet_54 : decode cX5_completeSet 54 = .ok (.invokestatic 54, 3) := by decide +kernel
theorem dX5_completeSet_57 : decode cX5_completeSet 57 = .ok (.ifCond .ne 11, 3) := by decide +kernel
theorem dX5_completeSet_60 : decode cX5_completeSet 60 = .ok (.iload 6, 2) := by decide +kernel
theorem dX5_completeSet_62 : decode cX5_completeSet 62 = .ok (.invokestatic 54, 3) := by decide +kernel
theorem dX5_completeSet_65 : decode cX5_completeSet 65 = .ok (.ifCond .eq 7, 3) := by decide +kernel
theorem dX5_completeSet_68 : decode cX5_completeSet 68 = .ok (.iconst 1, 1) := by decide +kernel
theorem dX5_completeSet_69 : decode cX5_completeSet 69 = .ok (.goto 4, 3) := by decide +kernel
theorem dX5_completeSet_72 : decode cX5_completeSet 72 = .ok (.iconst 0, 1) := by decide +kernel
theorem dX5_completeSet_73 : decode cX5_completeSet 73 = .ok (.istore_n 3, 1) := by decide +kernel
theorem dX5_completeSet_74 : decode cX5_completeSet 74 = .ok (.aload_n 0, 1) := by decide +kernel
theorem dX5_completeSet_75 : decode cX5_completeSet 75 = .ok (.iload 5, 2) := by decide +kernel
theorem dX5_completeSet_77 : decode cX5_completeSet 77 = .ok (.iload 6, 2) := by decide +kernel
theorem dX5_completeSet_79 : decode cX5_completeSet 79 = .ok (.iload_n 1, 1) := by decide +kernel
theorem dX5_completeSet_80 : decode cX5_completeSet 80 = .ok (.iload_n 2, 1) := by decide +kernel
theorem dX5_completeSet_81 : decode cX5_completeSet 81 = .ok (.invokevirtual 58, 3) := by decide +kernel
theorem dX5_completeSet_84 : decode cX5_completeSet 84 = .ok (.iinc 4 1, 3) := by decide +kernel
theorem dX5_completeSet_87 : decode cX5_completeSet 87 = .ok (.goto (-82), 3) := by decide +kernel
theorem dX5_completeSet_90 : decode cX5_completeSet 90 = .ok (.iload_n 3, 1) := by decide +kernel
theorem dX5_completeSet_91 : decode cX5_completeSet 91 = .ok (.ireturn, 1) := by decide +kernel
theorem dX5_isAtEnd_0 : decode cX5_isAtEnd 0 = .ok (.iload_n 0, 1) := by decide +kernel
theorem dX5_isAtEnd_1 : decode cX5_isAtEnd 1 = .ok (.ifCond .eq 9, 3) := by decide +kernel
theorem dX5_isAtEnd_4 : decode cX5_isAtEnd 4 = .ok (.iload_n 0, 1) := by decide +kernel
theorem dX5_isAtEnd_5 : decode cX5_isAtEnd 5 = .ok (.bipush 11, 2) := by decide +kernel
theorem dX5_isAtEnd_7 : decode cX5_isAtEnd 7 = .ok (.if_icmp .ne 7, 3) := by decide +kernel
theorem dX5_isAtEnd_10 : decode cX5_isAtEnd 10 = .ok (.iconst 1, 1) := by decide +kernel
theorem dX5_isAtEnd_11 : decode cX5_isAtEnd 11 = .ok (.goto 4, 3) := by decide +kernel
theorem dX5_isAtEnd_14 : decode cX5_isAtEnd 14 = .ok (.iconst 0, 1) := by decide +kernel
theorem dX5_isAtEnd_15 : decode cX5_isAtEnd 15 = .ok (.ireturn, 1) := by decide +kernel
theorem dX5_noteAround_0 : decode cX5_noteAround 0 = .ok (.iconst 0, 1) := by decide +kernel
theorem dX5_noteAround_1 : decode cX5_noteAround 1 = .ok (.istore 5, 2) := by decide +kernel
theorem dX5_noteAround_3 : decode cX5_noteAround 3 = .ok (.iload 5, 2) := by decide +kernel
theorem dX5_noteAround_5 : decode cX5_noteAround 5 = .ok (.iconst 4, 1) := by decide +kernel
theorem dX5_noteAround_6 : decode cX5_noteAround 6 = .ok (.if_icmp .ge 79, 3) := by decide +kernel
theorem dX5_noteAround_9 : decode cX5_noteAround 9 = .ok (.iload_n 1, 1) := by decide +kernel
theorem dX5_noteAround_10 : decode cX5_noteAround 10 = .ok (.getstatic 62, 3) := by decide +kernel
theorem dX5_noteAround_13 : decode cX5_noteAround 13 = .ok (.iload 5, 2) := by decide +kernel
theorem dX5_noteAround_15 : decode cX5_noteAround 15 = .ok (.iaload, 1) := by decide +kernel
theorem dX5_noteAround_16 : decode cX5_noteAround 16 = .ok (.iadd, 1) := by decide +kernel
theorem dX5_noteAround_17 : decode cX5_noteAround 17 = .ok (.istore 6, 2) := by decide +kernel
theorem dX5_noteAround_19 : decode cX5_noteAround 19 = .ok (.iload_n 2, 1) := by decide +kernel
theorem dX5_noteAround_20 : decode cX5_noteAround 20 = .ok (.getstatic 65, 3) := by decide +kernel
theorem dX5_noteAround_23 : decode cX5_noteAround 23 = .ok (.iload 5, 2) := by decide +kernel
theorem dX5_noteAround_25 : decode cX5_noteAround 25 = .ok (.iaload, 1) := by decide +kernel
theorem dX5_noteAround_26 : decode cX5_noteAround 26 = .ok (.iadd, 1) := by decide +kernel
theorem dX5_noteAround_27 : decode cX5_noteAround 27 = .ok (.istore 7, 2) := by decide +kernel
theorem dX5_noteAround_29 : decode cX5_noteAround 29 = .ok (.aload_n 0, 1) := by decide +kernel
theorem dX5_noteAround_30 : decode cX5_noteAround 30 = .ok (.iload 6, 2) := by decide +kernel
theorem dX5_noteAround_32 : decode cX5_noteAround 32 = .ok (.iload 7, 2) := by decide +kernel
theorem dX5_noteAround_34 : decode cX5_noteAround 34 = .ok (.iload_n 3, 1) := by decide +kernel
theorem dX5_noteAround_35 : decode cX5_noteAround 35 = .ok (.iload 4, 2) := by decide +kernel
theorem dX5_noteAround_37 : decode cX5_noteAround 37 = .ok (.invokevirtual 33, 3) := by decide +kernel
theorem dX5_noteAround_40 : decode cX5_noteAround 40 = .ok (.pop, 1) := by decide +kernel
theorem dX5_noteAround_41 : decode cX5_noteAround 41 = .ok (.iload 4, 2) := by decide +kernel
theorem dX5_noteAround_43 : decode cX5_noteAround 43 = .ok (.ifCond .ne 36, 3) := by decide +kernel
theorem dX5_noteAround_46 : decode cX5_noteAround 46 = .ok (.iload 5, 2) := by decide +kernel
theorem dX5_noteAround_48 : decode cX5_noteAround 48 = .ok (.iconst 1, 1) := by decide +kernel
theorem dX5_noteAround_49 : decode cX5_noteAround 49 = .ok (.invokestatic 68, 3) := by decide +kernel
theorem dX5_noteAround_52 : decode cX5_noteAround 52 = .ok (.istore 8, 2) := by decide +kernel
theorem dX5_noteAround_54 : decode cX5_noteAround 54 = .ok (.aload_n 0, 1) := by decide +kernel
theorem dX5_noteAround_55 : decode cX5_noteAround 55 = .ok (.iload 6, 2) := by decide +kernel
theorem dX5_noteAround_57 : decode cX5_noteAround 57 = .ok (.getstatic 62, 3) := by decide +kernel
theorem dX5_noteAround_60 : decode cX5_noteAround 60 = .ok (.iload 8, 2) := by decide +kernel
theorem dX5_noteAround_62 : decode cX5_noteAround 62 = .ok (.iaload, 1) := by decide +kernel
theorem dX5_noteAround_63 : decode cX5_noteAround 63 = .ok (.iadd, 1) := by decide +kernel
theorem dX5_noteAround_64 : decode cX5_noteAround 64 = .ok (.iload 7, 2) := by decide +kernel
theorem dX5_noteAround_66 : decode cX5_noteAround 66 = .ok (.getstatic 65, 3) := by decide +kernel
theorem dX5_noteAround_69 : decode cX5_noteAround 69 = .ok (.iload 8, 2) := by decide +kernel
theorem dX5_noteAround_71 : decode cX5_noteAround 71 = .ok (.iaload, 1) := by decide +kernel
theorem dX5_noteAround_72 : decode cX5_noteAround 72 = .ok (.iadd, 1) := by decide +kernel
theorem dX5_noteAround_73 : decode cX5_noteAround 73 = .ok (.iload_n 3, 1) := by decide +kernel
theorem dX5_noteAround_74 : decode cX5_noteAround 74 = .ok (.iconst 0, 1) := by decide +kernel
theorem dX5_noteAround_75 : decode cX5_noteAround 75 = .ok (.invokevirtual 33, 3) := by decide +kernel
theorem dX5_noteAround_78 : decode cX5_noteAround 78 = .ok (.pop, 1) := by decide +kernel
theorem dX5_noteAround_79 : decode cX5_noteAround 79 = .ok (.iinc 5 1, 3) := by decide +kernel
theorem dX5_noteAround_82 : decode cX5_noteAround 82 = .ok (.goto (-79), 3) := by decide +kernel
theorem dX5_noteAround_85 : decode cX5_noteAround 85 = .ok (.return_, 1) := by decide +kernel
theorem dX5_countEdges_0 : decode cX5_countEdges 0 = .ok (.iconst 0, 1) := by decide +kernel
theorem dX5_countEdges_1 : decode cX5_countEdges 1 = .ok (.istore_n 2, 1) := by decide +kernel
theorem dX5_countEdges_2 : decode cX5_countEdges 2 = .ok (.iconst 0, 1) := by decide +kernel
theorem dX5_countEdges_3 : decode cX5_countEdges 3 = .ok (.istore_n 3, 1) := by decide +kernel
theorem dX5_countEdges_4 : decode cX5_countEdges 4 = .ok (.iload_n 3, 1) := by decide +kernel
theorem dX5_countEdges_5 : decode cX5_countEdges 5 = .ok (.sipush 676, 3) := by decide +kernel
theorem dX5_countEdges_8 : decode cX5_countEdges 8 = .ok (.if_icmp .ge 32, 3) := by decide +kernel
theorem dX5_countEdges_11 : decode cX5_countEdges 11 = .ok (.aload_n 0, 1) := by decide +kernel
theorem dX5_countEdges_12 : decode cX5_countEdges 12 = .ok (.iload_n 3, 1) := by decide +kernel
theorem dX5_countEdges_13 : decode cX5_countEdges 13 = .ok (.invokestatic 72, 3) := by decide +kernel
theorem dX5_countEdges_16 : decode cX5_countEdges 16 = .ok (.iload_n 3, 1) := by decide +kernel
theorem dX5_countEdges_17 : decode cX5_countEdges 17 = .ok (.invokestatic 76, 3) := by decide +kernel
theorem dX5_countEdges_20 : decode cX5_countEdges 20 = .ok (.iload_n 3, 1) := by decide +kernel
theorem dX5_countEdges_21 : decode cX5_countEdges 21 = .ok (.invokestatic 79, 3) := by decide +kernel
theorem dX5_countEdges_24 : decode cX5_countEdges 24 = .ok (.iload_n 1, 1) := by decide +kernel
theorem dX5_countEdges_25 : decode cX5_countEdges 25 = .ok (.invokevirtual 82, 3) := by decide +kernel
theorem dX5_countEdges_28 : decode cX5_countEdges 28 = .ok (.ifCond .eq 6, 3) := by decide +kernel
theorem dX5_countEdges_31 : decode cX5_countEdges 31 = .ok (.iinc 2 1, 3) := by decide +kernel
theorem dX5_countEdges_34 : decode cX5_countEdges 34 = .ok (.iinc 3 1, 3) := by decide +kernel
theorem dX5_countEdges_37 : decode cX5_countEdges 37 = .ok (.goto (-33), 3) := by decide +kernel
theorem dX5_countEdges_40 : decode cX5_countEdges 40 = .ok (.iload_n 2, 1) := by decide +kernel
theorem dX5_countEdges_41 : decode cX5_countEdges 41 = .ok (.ireturn, 1) := by decide +kernel
theorem dX5_countRounds_0 : decode cX5_countRounds 0 = .ok (.iconst 0, 1) := by decide +kernel
theorem dX5_countRounds_1 : decode cX5_countRounds 1 = .ok (.istore_n 2, 1) := by decide +kernel
theorem dX5_countRounds_2 : decode cX5_countRounds 2 = .ok (.iload_n 2, 1) := by decide +kernel
theorem dX5_countRounds_3 : decode cX5_countRounds 3 = .ok (.aload_n 0, 1) := by decide +kernel
theorem dX5_countRounds_4 : decode cX5_countRounds 4 = .ok (.getfield 23, 3) := by decide +kernel
theorem dX5_countRounds_7 : decode cX5_countRounds 7 = .ok (.arraylength, 1) := by decide +kernel
theorem dX5_countRounds_8 : decode cX5_countRounds 8 = .ok (.if_icmp .ge 16, 3) := by decide +kernel
theorem dX5_countRounds_11 : decode cX5_countRounds 11 = .ok (.aload_n 0, 1) := by decide +kernel
theorem dX5_countRounds_12 : decode cX5_countRounds 12 = .ok (.getfield 23, 3) := by decide +kernel
theorem dX5_countRounds_15 : decode cX5_countRounds 15 = .ok (.iload_n 2, 1) := by decide +kernel
theorem dX5_countRounds_16 : decode cX5_countRounds 16 = .ok (.iconst 0, 1) := by decide +kernel
theorem dX5_countRounds_17 : decode cX5_countRounds 17 = .ok (.bastore, 1) := by decide +kernel
theorem dX5_countRounds_18 : decode cX5_countRounds 18 = .ok (.iinc 2 1, 3) := by decide +kernel
theorem dX5_countRounds_21 : decode cX5_countRounds 21 = .ok (.goto (-19), 3) := by decide +kernel
theorem dX5_countRounds_24 : decode cX5_countRounds 24 = .ok (.iconst 0, 1) := by decide +kernel
theorem dX5_countRounds_25 : decode cX5_countRounds 25 = .ok (.istore_n 2, 1) := by decide +kernel
theorem dX5_countRounds_26 : decode cX5_countRounds 26 = .ok (.iconst 0, 1) := by decide +kernel
theorem dX5_countRounds_27 : decode cX5_countRounds 27 = .ok (.istore_n 3, 1) := by decide +kernel
theorem dX5_countRounds_28 : decode cX5_countRounds 28 = .ok (.iload_n 3, 1) := by decide +kernel
theorem dX5_countRounds_29 : decode cX5_countRounds 29 = .ok (.aload_n 0, 1) := by decide +kernel
theorem dX5_countRounds_30 : decode cX5_countRounds 30 = .ok (.getfield 23, 3) := by decide +kernel
theorem dX5_countRounds_33 : decode cX5_countRounds 33 = .ok (.arraylength, 1) := by decide +kernel
theorem dX5_countRounds_34 : decode cX5_countRounds 34 = .ok (.if_icmp .ge 47, 3) := by decide +kernel
theorem dX5_countRounds_37 : decode cX5_countRounds 37 = .ok (.aload_n 0, 1) := by decide +kernel
theorem dX5_countRounds_38 : decode cX5_countRounds 38 = .ok (.getfield 23, 3) := by decide +kernel
theorem dX5_countRounds_41 : decode cX5_countRounds 41 = .ok (.iload_n 3, 1) := by decide +kernel
theorem dX5_countRounds_42 : decode cX5_countRounds 42 = .ok (.baload, 1) := by decide +kernel
theorem dX5_countRounds_43 : decode cX5_countRounds 43 = .ok (.ifCond .ne 32, 3) := by decide +kernel
theorem dX5_countRounds_46 : decode cX5_countRounds 46 = .ok (.aload_n 0, 1) := by decide +kernel
theorem dX5_countRounds_47 : decode cX5_countRounds 47 = .ok (.iload_n 3, 1) := by decide +kernel
theorem dX5_countRounds_48 : decode cX5_countRounds 48 = .ok (.invokestatic 72, 3) := by decide +kernel
theorem dX5_countRounds_51 : decode cX5_countRounds 51 = .ok (.iload_n 3, 1) := by decide +kernel
theorem dX5_countRounds_52 : decode cX5_countRounds 52 = .ok (.invokestatic 76, 3) := by decide +kernel
theorem dX5_countRounds_55 : decode cX5_countRounds 55 = .ok (.iload_n 3, 1) := by decide +kernel
theorem dX5_countRounds_56 : decode cX5_countRounds 56 = .ok (.invokestatic 79, 3) := by decide +kernel
theorem dX5_countRounds_59 : decode cX5_countRounds 59 = .ok (.iload_n 1, 1) := by decide +kernel
theorem dX5_countRounds_60 : decode cX5_countRounds 60 = .ok (.invokevirtual 82, 3) := by decide +kernel
theorem dX5_countRounds_63 : decode cX5_countRounds 63 = .ok (.ifCond .eq 12, 3) := by decide +kernel
theorem dX5_countRounds_66 : decode cX5_countRounds 66 = .ok (.aload_n 0, 1) := by decide +kernel
theorem dX5_countRounds_67 : decode cX5_countRounds 67 = .ok (.iload_n 3, 1) := by decide +kernel
theorem dX5_countRounds_68 : decode cX5_countRounds 68 = .ok (.iload_n 1, 1) := by decide +kernel
theorem dX5_countRounds_69 : decode cX5_countRounds 69 = .ok (.invokevirtual 86, 3) := by decide +kernel
theorem dX5_countRounds_72 : decode cX5_countRounds 72 = .ok (.iinc 2 1, 3) := by decide +kernel
theorem dX5_countRounds_75 : decode cX5_countRounds 75 = .ok (.iinc 3 1, 3) := by decide +kernel
theorem dX5_countRounds_78 : decode cX5_countRounds 78 = .ok (.goto (-50), 3) := by decide +kernel
theorem dX5_countRounds_81 : decode cX5_countRounds 81 = .ok (.iload_n 2, 1) := by decide +kernel
theorem dX5_countRounds_82 : decode cX5_countRounds 82 = .ok (.ireturn, 1) := by decide +kernel
theorem dX5_goRound_0 : decode cX5_goRound 0 = .ok (.iload_n 1, 1) := by decide +kernel
theorem dX5_goRound_1 : decode cX5_goRound 1 = .ok (.invokestatic 72, 3) := by decide +kernel
theorem dX5_goRound_4 : decode cX5_goRound 4 = .ok (.istore_n 3, 1) := by decide +kernel
theorem dX5_goRound_5 : decode cX5_goRound 5 = .ok (.iload_n 1, 1) := by decide +kernel
theorem dX5_goRound_6 : decode cX5_goRound 6 = .ok (.invokestatic 76, 3) := by decide +kernel
theorem dX5_goRound_9 : decode cX5_goRound 9 = .ok (.istore 4, 2) := by decide +kernel
theorem dX5_goRound_11 : decode cX5_goRound 11 = .ok (.iload_n 1, 1) := by decide +kernel
theorem dX5_goRound_12 : decode cX5_goRound 12 = .ok (.invokestatic 79, 3) := by decide +kernel
theorem dX5_goRound_15 : decode cX5_goRound 15 = .ok (.istore 5, 2) := by decide +kernel
theorem dX5_goRound_17 : decode cX5_goRound 17 = .ok (.iconst 0, 1) := by decide +kernel
theorem dX5_goRound_18 : decode cX5_goRound 18 = .ok (.istore 6, 2) := by decide +kernel
theorem dX5_goRound_20 : decode cX5_goRound 20 = .ok (.iload 6, 2) := by decide +kernel
theorem dX5_goRound_22 : decode cX5_goRound 22 = .ok (.sipush 676, 3) := by decide +kernel
theorem dX5_goRound_25 : decode cX5_goRound 25 = .ok (.if_icmp .ge 85, 3) := by decide +kernel
theorem dX5_goRound_28 : decode cX5_goRound 28 = .ok (.iload_n 3, 1) := by decide +kernel
theorem dX5_goRound_29 : decode cX5_goRound 29 = .ok (.iload 4, 2) := by decide +kernel
theorem dX5_goRound_31 : decode cX5_goRound 31 = .ok (.iload 5, 2) := by decide +kernel
theorem dX5_goRound_33 : decode cX5_goRound 33 = .ok (.invokestatic 90, 3) := by decide +kernel
theorem dX5_goRound_36 : decode cX5_goRound 36 = .ok (.istore 7, 2) := by decide +kernel
theorem dX5_goRound_38 : decode cX5_goRound 38 = .ok (.iload 7, 2) := by decide +kernel
theorem dX5_goRound_40 : decode cX5_goRound 40 = .ok (.ifCond .lt 23, 3) := by decide +kernel
theorem dX5_goRound_43 : decode cX5_goRound 43 = .ok (.iload 7, 2) := by decide +kernel
theorem dX5_goRound_45 : decode cX5_goRound 45 = .ok (.aload_n 0, 1) := by decide +kernel
theorem dX5_goRound_46 : decode cX5_goRound 46 = .ok (.getfield 23, 3) := by decide +kernel
theorem dX5_goRound_49 : decode cX5_goRound 49 = .ok (.arraylength, 1) := by decide +kernel
theorem dX5_goRound_50 : decode cX5_goRound 50 = .ok (.if_icmp .ge 13, 3) := by decide +kernel
theorem dX5_goRound_53 : decode cX5_goRound 53 = .ok (.aload_n 0, 1) := by decide +kernel
theorem dX5_goRound_54 : decode cX5_goRound 54 = .ok (.getfield 23, 3) := by decide +kernel
theorem dX5_goRound_57 : decode cX5_goRound 57 = .ok (.iload 7, 2) := by decide +kernel
theorem dX5_goRound_59 : decode cX5_goRound 59 = .ok (.baload, 1) := by decide +kernel
theorem dX5_goRound_60 : decode cX5_goRound 60 = .ok (.ifCond .eq 4, 3) := by decide +kernel
theorem dX5_goRound_63 : decode cX5_goRound 63 = .ok (.return_, 1) := by decide +kernel
theorem dX5_goRound_64 : decode cX5_goRound 64 = .ok (.aload_n 0, 1) := by decide +kernel
theorem dX5_goRound_65 : decode cX5_goRound 65 = .ok (.getfield 23, 3) := by decide +kernel
theorem dX5_goRound_68 : decode cX5_goRound 68 = .ok (.iload 7, 2) := by decide +kernel
theorem dX5_goRound_70 : decode cX5_goRound 70 = .ok (.iconst 1, 1) := by decide +kernel
theorem dX5_goRound_71 : decode cX5_goRound 71 = .ok (.bastore, 1) := by decide +kernel
theorem dX5_goRound_72 : decode cX5_goRound 72 = .ok (.iload_n 3, 1) := by decide +kernel
theorem dX5_goRound_73 : decode cX5_goRound 73 = .ok (.getstatic 62, 3) := by decide +kernel
theorem dX5_goRound_76 : decode cX5_goRound 76 = .ok (.iload 5, 2) := by decide +kernel
theorem dX5_goRound_78 : decode cX5_goRound 78 = .ok (.iaload, 1) := by decide +kernel
theorem dX5_goRound_79 : decode cX5_goRound 79 = .ok (.iadd, 1) := by decide +kernel
theorem dX5_goRound_80 : decode cX5_goRound 80 = .ok (.istore_n 3, 1) := by decide +kernel
theorem dX5_goRound_81 : decode cX5_goRound 81 = .ok (.iload 4, 2) := by decide +kernel
theorem dX5_goRound_83 : decode cX5_goRound 83 = .ok (.getstatic 65, 3) := by decide +kernel
theorem dX5_goRound_86 : decode cX5_goRound 86 = .ok (.iload 5, 2) := by decide +kernel
theorem dX5_goRound_88 : decode cX5_goRound 88 = .ok (.iaload, 1) := by decide +kernel
theorem dX5_goRound_89 : decode cX5_goRound 89 = .ok (.iadd, 1) := by decide +kernel
theorem dX5_goRound_90 : decode cX5_goRound 90 = .ok (.istore 4, 2) := by decide +kernel
theorem dX5_goRound_92 : decode cX5_goRound 92 = .ok (.aload_n 0, 1) := by decide +kernel
theorem dX5_goRound_93 : decode cX5_goRound 93 = .ok (.iload_n 3, 1) := by decide +kernel
theorem dX5_goRound_94 : decode cX5_goRound 94 = .ok (.iload 4, 2) := by decide +kernel
theorem dX5_goRound_96 : decode cX5_goRound 96 = .ok (.iload 5, 2) := by decide +kernel
theorem dX5_goRound_98 : decode cX5_goRound 98 = .ok (.iload_n 2, 1) := by decide +kernel
theorem dX5_goRound_99 : decode cX5_goRound 99 = .ok (.invokevirtual 93, 3) := by decide +kernel
theorem dX5_goRound_102 : decode cX5_goRound 102 = .ok (.istore 5, 2) := by decide +kernel
theorem dX5_goRound_104 : decode cX5_goRound 104 = .ok (.iinc 6 1, 3) := by decide +kernel
theorem dX5_goRound_107 : decode cX5_goRound 107 = .ok (.goto (-87), 3) := by decide +kernel
theorem dX5_goRound_110 : decode cX5_goRound 110 = .ok (.return_, 1) := by decide +kernel
theorem dX5_wayOn_0 : decode cX5_wayOn 0 = .ok (.iconst 1, 1) := by decide +kernel
theorem dX5_wayOn_1 : decode cX5_wayOn 1 = .ok (.istore 5, 2) := by decide +kernel
theorem dX5_wayOn_3 : decode cX5_wayOn 3 = .ok (.iload 5, 2) := by decide +kernel
theorem dX5_wayOn_5 : decode cX5_wayOn 5 = .ok (.iconst (-1), 1) := by decide +kernel
theorem dX5_wayOn_6 : decode cX5_wayOn 6 = .ok (.if_icmp .lt 33, 3) := by decide +kernel
theorem dX5_wayOn_9 : decode cX5_wayOn 9 = .ok (.iload_n 3, 1) := by decide +kernel
theorem dX5_wayOn_10 : decode cX5_wayOn 10 = .ok (.iload 5, 2) := by decide +kernel
theorem dX5_wayOn_12 : decode cX5_wayOn 12 = .ok (.invokestatic 68, 3) := by decide +kernel
theorem dX5_wayOn_15 : decode cX5_wayOn 15 = .ok (.istore 6, 2) := by decide +kernel
theorem dX5_wayOn_17 : decode cX5_wayOn 17 = .ok (.aload_n 0, 1) := by decide +kernel
theorem dX5_wayOn_18 : decode cX5_wayOn 18 = .ok (.iload_n 1, 1) := by decide +kernel
theorem dX5_wayOn_19 : decode cX5_wayOn 19 = .ok (.iload_n 2, 1) := by decide +kernel
theorem dX5_wayOn_20 : decode cX5_wayOn 20 = .ok (.iload 6, 2) := by decide +kernel
theorem dX5_wayOn_22 : decode cX5_wayOn 22 = .ok (.iload 4, 2) := by decide +kernel
theorem dX5_wayOn_24 : decode cX5_wayOn 24 = .ok (.invokevirtual 82, 3) := by decide +kernel
theorem dX5_wayOn_27 : decode cX5_wayOn 27 = .ok (.ifCond .eq 6, 3) := by decide +kernel
theorem dX5_wayOn_30 : decode cX5_wayOn 30 = .ok (.iload 6, 2) := by decide +kernel
theorem dX5_wayOn_32 : decode cX5_wayOn 32 = .ok (.ireturn, 1) := by decide +kernel
theorem dX5_wayOn_33 : decode cX5_wayOn 33 = .ok (.iinc 5 (-1), 3) := by decide +kernel
theorem dX5_wayOn_36 : decode cX5_wayOn 36 = .ok (.goto (-33), 3) := by decide +kernel
theorem dX5_wayOn_39 : decode cX5_wayOn 39 = .ok (.iload_n 3, 1) := by decide +kernel
theorem dX5_wayOn_40 : decode cX5_wayOn 40 = .ok (.ireturn, 1) := by decide +kernel
theorem dX5_isEdge_0 : decode cX5_isEdge 0 = .ok (.iload_n 3, 1) := by decide +kernel
theorem dX5_isEdge_1 : decode cX5_isEdge 1 = .ok (.invokestatic 97, 3) := by decide +kernel
theorem dX5_isEdge_4 : decode cX5_isEdge 4 = .ok (.ifCond .ne 5, 3) := by decide +kernel
theorem dX5_isEdge_7 : decode cX5_isEdge 7 = .ok (.iconst 0, 1) := by decide +kernel
theorem dX5_isEdge_8 : decode cX5_isEdge 8 = .ok (.ireturn, 1) := by decide +kernel
theorem dX5_isEdge_9 : decode cX5_isEdge 9 = .ok (.iload_n 3, 1) := by decide +kernel
theorem dX5_isEdge_10 : decode cX5_isEdge 10 = .ok (.iconst (-1), 1) := by decide +kernel
theorem dX5_isEdge_11 : decode cX5_isEdge 11 = .ok (.invokestatic 68, 3) := by decide +kernel
theorem dX5_isEdge_14 : decode cX5_isEdge 14 = .ok (.istore 5, 2) := by decide +kernel
theorem dX5_isEdge_16 : decode cX5_isEdge 16 = .ok (.aload_n 0, 1) := by decide +kernel
theorem dX5_isEdge_17 : decode cX5_isEdge 17 = .ok (.getfield 11, 3) := by decide +kernel
theorem dX5_isEdge_20 : decode cX5_isEdge 20 = .ok (.iload_n 1, 1) := by decide +kernel
theorem dX5_isEdge_21 : decode cX5_isEdge 21 = .ok (.getstatic 100, 3) := by decide +kernel
theorem dX5_isEdge_24 : decode cX5_isEdge 24 = .ok (.iload_n 3, 1) := by decide +kernel
theorem dX5_isEdge_25 : decode cX5_isEdge 25 = .ok (.iaload, 1) := by decide +kernel
theorem dX5_isEdge_26 : decode cX5_isEdge 26 = .ok (.iadd, 1) := by decide +kernel
theorem dX5_isEdge_27 : decode cX5_isEdge 27 = .ok (.iload_n 2, 1) := by decide +kernel
theorem dX5_isEdge_28 : decode cX5_isEdge 28 = .ok (.getstatic 103, 3) := by decide +kernel
theorem dX5_isEdge_31 : decode cX5_isEdge 31 = .ok (.iload_n 3, 1) := by decide +kernel
theorem dX5_isEdge_32 : decode cX5_isEdge 32 = .ok (.iaload, 1) := by decide +kernel
theorem dX5_isEdge_33 : decode cX5_isEdge 33 = .ok (.iadd, 1) := by decide +kernel
theorem dX5_isEdge_34 : decode cX5_isEdge 34 = .ok (.iload 4, 2) := by decide +kernel
theorem dX5_isEdge_36 : decode cX5_isEdge 36 = .ok (.invokevirtual 45, 3) := by decide +kernel
theorem dX5_isEdge_39 : decode cX5_isEdge 39 = .ok (.ifCond .eq 35, 3) := by decide +kernel
theorem dX5_isEdge_42 : decode cX5_isEdge 42 = .ok (.aload_n 0, 1) := by decide +kernel
theorem dX5_isEdge_43 : decode cX5_isEdge 43 = .ok (.getfield 11, 3) := by decide +kernel
theorem dX5_isEdge_46 : decode cX5_isEdge 46 = .ok (.iload_n 1, 1) := by decide +kernel
theorem dX5_isEdge_47 : decode cX5_isEdge 47 = .ok (.getstatic 100, 3) := by decide +kernel
theorem dX5_isEdge_50 : decode cX5_isEdge 50 = .ok (.iload 5, 2) := by decide +kernel
theorem dX5_isEdge_52 : decode cX5_isEdge 52 = .ok (.iaload, 1) := by decide +kernel
theorem dX5_isEdge_53 : decode cX5_isEdge 53 = .ok (.iadd, 1) := by decide +kernel
theorem dX5_isEdge_54 : decode cX5_isEdge 54 = .ok (.iload_n 2, 1) := by decide +kernel
theorem dX5_isEdge_55 : decode cX5_isEdge 55 = .ok (.getstatic 103, 3) := by decide +kernel
theorem dX5_isEdge_58 : decode cX5_isEdge 58 = .ok (.iload 5, 2) := by decide +kernel
theorem dX5_isEdge_60 : decode cX5_isEdge 60 = .ok (.iaload, 1) := by decide +kernel
theorem dX5_isEdge_61 : decode cX5_isEdge 61 = .ok (.iadd, 1) := by decide +kernel
theorem dX5_isEdge_62 : decode cX5_isEdge 62 = .ok (.iload 4, 2) := by decide +kernel
theorem dX5_isEdge_64 : decode cX5_isEdge 64 = .ok (.invokevirtual 45, 3) := by decide +kernel
theorem dX5_isEdge_67 : decode cX5_isEdge 67 = .ok (.ifCond .ne 7, 3) := by decide +kernel
theorem dX5_isEdge_70 : decode cX5_isEdge 70 = .ok (.iconst 1, 1) := by decide +kernel
theorem dX5_isEdge_71 : decode cX5_isEdge 71 = .ok (.goto 4, 3) := by decide +kernel
theorem dX5_isEdge_74 : decode cX5_isEdge 74 = .ok (.iconst 0, 1) := by decide +kernel
theorem dX5_isEdge_75 : decode cX5_isEdge 75 = .ok (.ireturn, 1) := by decide +kernel
theorem dX5_turned_0 : decode cX5_turned 0 = .ok (.iload_n 0, 1) := by decide +kernel
theorem dX5_turned_1 : decode cX5_turned 1 = .ok (.iload_n 1, 1) := by decide +kernel
theorem dX5_turned_2 : decode cX5_turned 2 = .ok (.iadd, 1) := by decide +kernel
theorem dX5_turned_3 : decode cX5_turned 3 = .ok (.iconst 3, 1) := by decide +kernel
theorem dX5_turned_4 : decode cX5_turned 4 = .ok (.iand, 1) := by decide +kernel
theorem dX5_turned_5 : decode cX5_turned 5 = .ok (.ireturn, 1) := by decide +kernel
theorem dX5_edgeOf_0 : decode cX5_edgeOf 0 = .ok (.iload_n 0, 1) := by decide +kernel
theorem dX5_edgeOf_1 : decode cX5_edgeOf 1 = .ok (.ifCond .lt 26, 3) := by decide +kernel
theorem dX5_edgeOf_4 : decode cX5_edgeOf 4 = .ok (.iload_n 0, 1) := by decide +kernel
theorem dX5_edgeOf_5 : decode cX5_edgeOf 5 = .ok (.bipush 13, 2) := by decide +kernel
theorem dX5_edgeOf_7 : decode cX5_edgeOf 7 = .ok (.if_icmp .ge 20, 3) := by decide +kernel
theorem dX5_edgeOf_10 : decode cX5_edgeOf 10 = .ok (.iload_n 1, 1) := by decide +kernel
theorem dX5_edgeOf_11 : decode cX5_edgeOf 11 = .ok (.ifCond .lt 16, 3) := by decide +kernel
theorem dX5_edgeOf_14 : decode cX5_edgeOf 14 = .ok (.iload_n 1, 1) := by decide +kernel
theorem dX5_edgeOf_15 : decode cX5_edgeOf 15 = .ok (.bipush 13, 2) := by decide +kernel
theorem dX5_edgeOf_17 : decode cX5_edgeOf 17 = .ok (.if_icmp .ge 10, 3) := by decide +kernel
theorem dX5_edgeOf_20 : decode cX5_edgeOf 20 = .ok (.iload_n 2, 1) := by decide +kernel
theorem dX5_edgeOf_21 : decode cX5_edgeOf 21 = .ok (.invokestatic 97, 3) := by decide +kernel
theorem dX5_edgeOf_24 : decode cX5_edgeOf 24 = .ok (.ifCond .ne 5, 3) := by decide +kernel
theorem dX5_edgeOf_27 : decode cX5_edgeOf 27 = .ok (.iconst (-1), 1) := by decide +kernel
theorem dX5_edgeOf_28 : decode cX5_edgeOf 28 = .ok (.ireturn, 1) := by decide +kernel
theorem dX5_edgeOf_29 : decode cX5_edgeOf 29 = .ok (.iload_n 1, 1) := by decide +kernel
theorem dX5_edgeOf_30 : decode cX5_edgeOf 30 = .ok (.bipush 13, 2) := by decide +kernel
theorem dX5_edgeOf_32 : decode cX5_edgeOf 32 = .ok (.imul, 1) := by decide +kernel
theorem dX5_edgeOf_33 : decode cX5_edgeOf 33 = .ok (.iload_n 0, 1) := by decide +kernel
theorem dX5_edgeOf_34 : decode cX5_edgeOf 34 = .ok (.iadd, 1) := by decide +kernel
theorem dX5_edgeOf_35 : decode cX5_edgeOf 35 = .ok (.iconst 4, 1) := by decide +kernel
theorem dX5_edgeOf_36 : decode cX5_edgeOf 36 = .ok (.imul, 1) := by decide +kernel
theorem dX5_edgeOf_37 : decode cX5_edgeOf 37 = .ok (.iload_n 2, 1) := by decide +kernel
theorem dX5_edgeOf_38 : decode cX5_edgeOf 38 = .ok (.iadd, 1) := by decide +kernel
theorem dX5_edgeOf_39 : decode cX5_edgeOf 39 = .ok (.ireturn, 1) := by decide +kernel
theorem dX5_isWay_0 : decode cX5_isWay 0 = .ok (.iload_n 0, 1) := by decide +kernel
theorem dX5_isWay_1 : decode cX5_isWay 1 = .ok (.ifCond .lt 12, 3) := by decide +kernel
theorem dX5_isWay_4 : decode cX5_isWay 4 = .ok (.iload_n 0, 1) := by decide +kernel
theorem dX5_isWay_5 : decode cX5_isWay 5 = .ok (.iconst 4, 1) := by decide +kernel
theorem dX5_isWay_6 : decode cX5_isWay 6 = .ok (.if_icmp .ge 7, 3) := by decide +kernel
theorem dX5_isWay_9 : decode cX5_isWay 9 = .ok (.iconst 1, 1) := by decide +kernel
theorem dX5_isWay_10 : decode cX5_isWay 10 = .ok (.goto 4, 3) := by decide +kernel
theorem dX5_isWay_13 : decode cX5_isWay 13 = .ok (.iconst 0, 1) := by decide +kernel
theorem dX5_isWay_14 : decode cX5_isWay 14 = .ok (.ireturn, 1) := by decide +kernel
theorem dX5_cornerX_0 : decode cX5_cornerX 0 = .ok (.iload_n 0, 1) := by decide +kernel
theorem dX5_cornerX_1 : decode cX5_cornerX 1 = .ok (.iconst 4, 1) := by decide +kernel
theorem dX5_cornerX_2 : decode cX5_cornerX 2 = .ok (.idiv, 1) := by decide +kernel
theorem dX5_cornerX_3 : decode cX5_cornerX 3 = .ok (.bipush 13, 2) := by decide +kernel
theorem dX5_cornerX_5 : decode cX5_cornerX 5 = .ok (.irem, 1) := by decide +kernel
theorem dX5_cornerX_6 : decode cX5_cornerX 6 = .ok (.ireturn, 1) := by decide +kernel
theorem dX5_cornerY_0 : decode cX5_cornerY 0 = .ok (.iload_n 0, 1) := by decide +kernel
theorem dX5_cornerY_1 : decode cX5_cornerY 1 = .ok (.iconst 4, 1) := by decide +kernel
theorem dX5_cornerY_2 : decode cX5_cornerY 2 = .ok (.idiv, 1) := by decide +kernel
theorem dX5_cornerY_3 : decode cX5_cornerY 3 = .ok (.bipush 13, 2) := by decide +kernel
theorem dX5_cornerY_5 : decode cX5_cornerY 5 = .ok (.idiv, 1) := by decide +kernel
theorem dX5_cornerY_6 : decode cX5_cornerY 6 = .ok (.ireturn, 1) := by decide +kernel
theorem dX5_wayOf_0 : decode cX5_wayOf 0 = .ok (.iload_n 0, 1) := by decide +kernel
theorem dX5_wayOf_1 : decode cX5_wayOf 1 = .ok (.iconst 3, 1) := by decide +kernel
theorem dX5_wayOf_2 : decode cX5_wayOf 2 = .ok (.iand, 1) := by decide +kernel
theorem dX5_wayOf_3 : decode cX5_wayOf 3 = .ok (.ireturn, 1) := by decide +kernel
theorem dX6_init_0 : decode cX6_init 0 = .ok (.aload_n 0, 1) := by decide +kernel
theorem dX6_init_1 : decode cX6_init 1 = .ok (.invokespecial 3, 3) := by decide +kernel
theorem dX6_init_4 : decode cX6_init 4 = .ok (.aload_n 0, 1) := by decide +kernel
theorem dX6_init_5 : decode cX6_init 5 = .ok (.aload_n 1, 1) := by decide +kernel
theorem dX6_init_6 : decode cX6_init 6 = .ok (.putfield 9, 3) := by decide +kernel
theorem dX6_init_9 : decode cX6_init 9 = .ok (.aload_n 0, 1) := by decide +kernel
theorem dX6_init_10 : decode cX6_init 10 = .ok (.aload_n 2, 1) := by decide +kernel
theorem dX6_init_11 : decode cX6_init 11 = .ok (.putfield 15, 3) := by decide +kernel
theorem dX6_init_14 : decode cX6_init 14 = .ok (.aload_n 0, 1) := by decide +kernel
theorem dX6_init_15 : decode cX6_init 15 = .ok (.aload_n 3, 1) := by decide +kernel
theorem dX6_init_16 : decode cX6_init 16 = .ok (.putfield 19, 3) := by decide +kernel
theorem dX6_init_19 : decode cX6_init 19 = .ok (.aload_n 0, 1) := by decide +kernel
theorem dX6_init_20 : decode cX6_init 20 = .ok (.sipush 144, 3) := by decide +kernel
theorem dX6_init_23 : decode cX6_init 23 = .ok (.newarray .boolean, 2) := by decide +kernel
theorem dX6_init_25 : decode cX6_init 25 = .ok (.putfield 23, 3) := by decide +kernel
theorem dX6_init_28 : decode cX6_init 28 = .ok (.return_, 1) := by decide +kernel
theorem dX6_makeCommands_0 : decode cX6_makeCommands 0 = .ok (.aload_n 0, 1) := by decide +kernel
theorem dX6_makeCommands_1 : decode cX6_makeCommands 1 = .ok (.getfield 19, 3) := by decide +kernel
theorem dX6_makeCommands_4 : decode cX6_makeCommands 4 = .ok (.invokevirtual 27, 3) := by decide +kernel
theorem dX6_makeCommands_7 : decode cX6_makeCommands 7 = .ok (.aload_n 0, 1) := by decide +kernel
theorem dX6_makeCommands_8 : decode cX6_makeCommands 8 = .ok (.iconst 0, 1) := by decide +kernel
theorem dX6_makeCommands_9 : decode cX6_makeCommands 9 = .ok (.putfield 32, 3) := by decide +kernel
theorem dX6_makeCommands_12 : decode cX6_makeCommands 12 = .ok (.aload_n 0, 1) := by decide +kernel
theorem dX6_makeCommands_13 : decode cX6_makeCommands 13 = .ok (.iconst 0, 1) := by decide +kernel
theorem dX6_makeCommands_14 : decode cX6_makeCommands 14 = .ok (.putfield 36, 3) := by decide +kernel
theorem dX6_makeCommands_17 : decode cX6_makeCommands 17 = .ok (.iconst 0, 1) := by decide +kernel
theorem dX6_makeCommands_18 : decode cX6_makeCommands 18 = .ok (.istore_n 1, 1) := by decide +kernel
theorem dX6_makeCommands_19 : decode cX6_makeCommands 19 = .ok (.iload_n 1, 1) := by decide +kernel
theorem dX6_makeCommands_20 : decode cX6_makeCommands 20 = .ok (.bipush 12, 2) := by decide +kernel
theorem dX6_makeCommands_22 : decode cX6_makeCommands 22 = .ok (.if_icmp .ge 51, 3) := by decide +kernel
theorem dX6_makeCommands_25 : decode cX6_makeCommands 25 = .ok (.aload_n 0, 1) := by decide +kernel
theorem dX6_makeCommands_26 : decode cX6_makeCommands 26 = .ok (.getfield 19, 3) := by decide +kernel
theorem dX6_makeCommands_29 : decode cX6_makeCommands 29 = .ok (.iload_n 1, 1) := by decide +kernel
theorem dX6_makeCommands_30 : decode cX6_makeCommands 30 = .ok (.bipush 10, 2) := by decide +kernel
theorem dX6_makeCommands_32 : decode cX6_makeCommands 32 = .ok (.aload_n 0, 1) := by decide +kernel
theorem dX6_makeCommands_33 : decode cX6_makeCommands 33 = .ok (.getfield 9, 3) := by decide +kernel
theorem dX6_makeCommands_36 : decode cX6_makeCommands 36 = .ok (.iload_n 1, 1) := by decide +kernel
theorem dX6_makeCommands_37 : decode cX6_makeCommands 37 = .ok (.invokevirtual 39, 3) := by decide +kernel
theorem dX6_makeCommands_40 : decode cX6_makeCommands 40 = .ok (.imul, 1) := by decide +kernel
theorem dX6_makeCommands_41 : decode cX6_makeCommands 41 = .ok (.invokevirtual 45, 3) := by decide +kernel
theorem dX6_makeCommands_44 : decode cX6_makeCommands 44 = .ok (.aload_n 0, 1) := by decide +kernel
theorem dX6_makeCommands_45 : decode cX6_makeCommands 45 = .ok (.getfield 15, 3) := by decide +kernel
theorem dX6_makeCommands_48 : decode cX6_makeCommands 48 = .ok (.iload_n 1, 1) := by decide +kernel
theorem dX6_makeCommands_49 : decode cX6_makeCommands 49 = .ok (.invokevirtual 49, 3) := by decide +kernel
theorem dX6_makeCommands_52 : decode cX6_makeCommands 52 = .ok (.aload_n 0, 1) := by decide +kernel
theorem dX6_makeCommands_53 : decode cX6_makeCommands 53 = .ok (.getfield 15, 3) := by decide +kernel
theorem dX6_makeCommands_56 : decode cX6_makeCommands 56 = .ok (.invokevirtual 55, 3) := by decide +kernel
theorem dX6_makeCommands_59 : decode cX6_makeCommands 59 = .ok (.ifCond .le 8, 3) := by decide +kernel
theorem dX6_makeCommands_62 : decode cX6_makeCommands 62 = .ok (.aload_n 0, 1) := by decide +kernel
theorem dX6_makeCommands_63 : decode cX6_makeCommands 63 = .ok (.iload_n 1, 1) := by decide +kernel
theorem dX6_makeCommands_64 : decode cX6_makeCommands 64 = .ok (.invokevirtual 59, 3) := by decide +kernel
theorem dX6_makeCommands_67 : decode cX6_makeCommands 67 = .ok (.iinc 1 1, 3) := by decide +kernel
theorem dX6_makeCommands_70 : decode cX6_makeCommands 70 = .ok (.goto (-51), 3) := by decide +kernel
theorem dX6_makeCommands_73 : decode cX6_makeCommands 73 = .ok (.return_, 1) := by decide +kernel
theorem dX6_planLayer_0 : decode cX6_planLayer 0 = .ok (.aload_n 0, 1) := by decide +kernel
theorem dX6_planLayer_1 : decode cX6_planLayer 1 = .ok (.getfield 19, 3) := by decide +kernel
theorem dX6_planLayer_4 : decode cX6_planLayer 4 = .ok (.bipush 122, 2) := by decide +kernel
theorem dX6_planLayer_6 : decode cX6_planLayer 6 = .ok (.aload_n 0, 1) := by decide +kernel
theorem dX6_planLayer_7 : decode cX6_planLayer 7 = .ok (.getfield 32, 3) := by decide +kernel
theorem dX6_planLayer_10 : decode cX6_planLayer 10 = .ok (.aload_n 0, 1) := by decide +kernel
theorem dX6_planLayer_11 : decode cX6_planLayer 11 = .ok (.getfield 36, 3) := by decide +kernel
theorem dX6_planLayer_14 : decode cX6_planLayer 14 = .ok (.iload_n 1, 1) := by decide +kernel
theorem dX6_planLayer_15 : decode cX6_planLayer 15 = .ok (.invokevirtual 62, 3) := by decide +kernel
theorem dX6_planLayer_18 : decode cX6_planLayer 18 = .ok (.aload_n 0, 1) := by decide +kernel
theorem dX6_planLayer_19 : decode cX6_planLayer 19 = .ok (.getfield 9, 3) := by decide +kernel
theorem dX6_planLayer_22 : decode cX6_planLayer 22 = .ok (.iload_n 1, 1) := by decide +kernel
theorem dX6_planLayer_23 : decode cX6_planLayer 23 = .ok (.invokevirtual 66, 3) := by decide +kernel
theorem dX6_planLayer_26 : decode cX6_planLayer 26 = .ok (.ifCond .eq 21, 3) := by decide +kernel
theorem dX6_planLayer_29 : decode cX6_planLayer 29 = .ok (.aload_n 0, 1) := by decide +kernel
theorem dX6_planLayer_30 : decode cX6_planLayer 30 = .ok (.getfield 19, 3) := by decide +kernel
theorem dX6_planLayer_33 : decode cX6_planLayer 33 = .ok (.bipush 112, 2) := by decide +kernel
theorem dX6_planLayer_35 : decode cX6_planLayer 35 = .ok (.aload_n 0, 1) := by decide +kernel
theorem dX6_planLayer_36 : decode cX6_planLayer 36 = .ok (.getfield 32, 3) := by decide +kernel
theorem dX6_planLayer_39 : decode cX6_planLayer 39 = .ok (.aload_n 0, 1) := by decide +kernel
theorem dX6_planLayer_40 : decode cX6_planLayer 40 = .ok (.getfield 36, 3) := by decide +kernel
theorem dX6_planLayer_43 : decode cX6_planLayer 43 = .ok (.iload_n 1, 1) := by decide +kernel
theorem dX6_planLayer_44 : decode cX6_planLayer 44 = .ok (.invokevirtual 62, 3) := by decide +kernel
theorem dX6_planLayer_47 : decode cX6_planLayer 47 = .ok (.iconst 0, 1) := by decide +kernel
theorem dX6_planLayer_48 : decode cX6_planLayer 48 = .ok (.istore_n 2, 1) := by decide +kernel
theorem dX6_planLayer_49 : decode cX6_planLayer 49 = .ok (.iload_n 2, 1) := by decide +kernel
theorem dX6_planLayer_50 : decode cX6_planLayer 50 = .ok (.aload_n 0, 1) := by decide +kernel
theorem dX6_planLayer_51 : decode cX6_planLayer 51 = .ok (.getfield 23, 3) := by decide +kernel
theorem dX6_planLayer_54 : decode cX6_planLayer 54 = .ok (.arraylength, 1) := by decide +kernel
theorem dX6_planLayer_55 : decode cX6_planLayer 55 = .ok (.if_icmp .ge 16, 3) := by decide +kernel
theorem dX6_planLayer_58 : decode cX6_planLayer 58 = .ok (.aload_n 0, 1) := by decide +kernel
theorem dX6_planLayer_59 : decode cX6_planLayer 59 = .ok (.getfield 23, 3) := by decide +kernel
theorem dX6_planLayer_62 : decode cX6_planLayer 62 = .ok (.iload_n 2, 1) := by decide +kernel
theorem dX6_planLayer_63 : decode cX6_planLayer 63 = .ok (.iconst 0, 1) := by decide +kernel
theorem dX6_planLayer_64 : decode cX6_planLayer 64 = .ok (.bastore, 1) := by decide +kernel
theorem dX6_planLayer_65 : decode cX6_planLayer 65 = .ok (.iinc 2 1, 3) := by decide +kernel
theorem dX6_planLayer_68 : decode cX6_planLayer 68 = .ok (.goto (-19), 3) := by decide +kernel
theorem dX6_planLayer_71 : decode cX6_planLayer 71 = .ok (.iconst 0, 1) := by decide +kernel
theorem dX6_planLayer_72 : decode cX6_planLayer 72 = .ok (.istore_n 2, 1) := by decide +kernel
theorem dX6_planLayer_73 : decode cX6_planLayer 73 = .ok (.iload_n 2, 1) := by decide +kernel
theorem dX6_planLayer_74 : decode cX6_planLayer 74 = .ok (.aload_n 0, 1) := by decide +kernel
theorem dX6_planLayer_75 : decode cX6_planLayer 75 = .ok (.getfield 15, 3) := by decide +kernel
theorem dX6_planLayer_78 : decode cX6_planLayer 78 = .ok (.invokevirtual 55, 3) := by decide +kernel
theorem dX6_planLayer_81 : decode cX6_planLayer 81 = .ok (.if_icmp .ge 40, 3) := by decide +kernel
theorem dX6_planLayer_84 : decode cX6_planLayer 84 = .ok (.aload_n 0, 1) := by decide +kernel
theorem dX6_planLayer_85 : decode cX6_planLayer 85 = .ok (.invokevirtual 70, 3) := by decide +kernel
theorem dX6_planLayer_88 : decode cX6_planLayer 88 = .ok (.istore_n 3, 1) := by decide +kernel
theorem dX6_planLayer_89 : decode cX6_planLayer 89 = .ok (.iload_n 3, 1) := by decide +kernel
theorem dX6_planLayer_90 : decode cX6_planLayer 90 = .ok (.ifCond .lt 25, 3) := by decide +kernel
theorem dX6_planLayer_93 : decode cX6_planLayer 93 = .ok (.iload_n 3, 1) := by decide +kernel
theorem dX6_planLayer_94 : decode cX6_planLayer 94 = .ok (.aload_n 0, 1) := by decide +kernel
theorem dX6_planLayer_95 : decode cX6_planLayer 95 = .ok (.getfield 23, 3) := by decide +kernel
theorem dX6_planLayer_98 : decode cX6_planLayer 98 = .ok (.arraylength, 1) := by decide +kernel
theorem dX6_planLayer_99 : decode cX6_planLayer 99 = .ok (.if_icmp .ge 16, 3) := by decide +kernel
theorem dX6_planLayer_102 : decode cX6_planLayer 102 = .ok (.aload_n 0, 1) := by decide +kernel
theorem dX6_planLayer_103 : decode cX6_planLayer 103 = .ok (.getfield 23, 3) := by decide +kernel
theorem dX6_planLayer_106 : decode cX6_planLayer 106 = .ok (.iload_n 3, 1) := by decide +kernel
theorem dX6_planLayer_107 : decode cX6_planLayer 107 = .ok (.iconst 1, 1) := by decide +kernel
theorem dX6_planLayer_108 : decode cX6_planLayer 108 = .ok (.bastore, 1) := by decide +kernel
theorem dX6_planLayer_109 : decode cX6_planLayer 109 = .ok (.aload_n 0, 1) := by decide +kernel
theorem dX6_planLayer_110 : decode cX6_planLayer 110 = .ok (.iload_n 3, 1) := by decide +kernel
theorem dX6_planLayer_111 : decode cX6_planLayer 111 = .ok (.iload_n 1, 1) := by decide +kernel
theorem dX6_planLayer_112 : decode cX6_planLayer 112 = .ok (.invokevirtual 73, 3) := by decide +kernel
theorem dX6_planLayer_115 : decode cX6_planLayer 115 = .ok (.iinc 2 1, 3) := by decide +kernel
theorem dX6_planLayer_118 : decode cX6_planLayer 118 = .ok (.goto (-45), 3) := by decide +kernel
theorem dX6_planLayer_121 : decode cX6_planLayer 121 = .ok (.return_, 1) := by decide +kernel
theorem dX6_nearestStroke_0 : decode cX6_nearestStroke 0 = .ok (.iconst (-1), 1) := by decide +kernel
theorem dX6_nearestStroke_1 : decode cX6_nearestStroke 1 = .ok (.istore_n 1, 1) := by decide +kernel
theorem dX6_nearestStroke_2 : decode cX6_nearestStroke 2 = .ok (.iconst 0, 1) := by decide +kernel
theorem dX6_nearestStroke_3 : decode cX6_nearestStroke 3 = .ok (.istore_n 2, 1) := by decide +kernel
theorem dX6_nearestStroke_4 : decode cX6_nearestStroke 4 = .ok (.iconst 0, 1) := by decide +kernel
theorem dX6_nearestStroke_5 : decode cX6_nearestStroke 5 = .ok (.istore_n 3, 1) := by decide +kernel
theorem dX6_nearestStroke_6 : decode cX6_nearestStroke 6 = .ok (.iload_n 3, 1) := by decide +kernel
theorem dX6_nearestStroke_7 : decode cX6_nearestStroke 7 = .ok (.aload_n 0, 1) := by decide +kernel
theorem dX6_nearestStroke_8 : decode cX6_nearestStroke 8 = .ok (.getfield 15, 3) := by decide +kernel
theorem dX6_nearestStroke_11 : decode cX6_nearestStroke 11 = .ok (.invokevirtual 55, 3) := by decide +kernel
theorem dX6_nearestStroke_14 : decode cX6_nearestStroke 14 = .ok (.if_icmp .ge 78, 3) := by decide +kernel
theorem dX6_nearestStroke_17 : decode cX6_nearestStroke 17 = .ok (.iload_n 3, 1) := by decide +kernel
theorem dX6_nearestStroke_18 : decode cX6_nearestStroke 18 = .ok (.aload_n 0, 1) := by decide +kernel
theorem dX6_nearestStroke_19 : decode cX6_nearestStroke 19 = .ok (.getfield 23, 3) := by decide +kernel
theorem dX6_nearestStroke_22 : decode cX6_nearestStroke 22 = .ok (.arraylength, 1) := by decide +kernel
theorem dX6_nearestStroke_23 : decode cX6_nearestStroke 23 = .ok (.if_icmp .ge 69, 3) := by decide +kernel
theorem dX6_nearestStroke_26 : decode cX6_nearestStroke 26 = .ok (.aload_n 0, 1) := by decide +kernel
theorem dX6_nearestStroke_27 : decode cX6_nearestStroke 27 = .ok (.getfield 23, 3) := by decide +kernel
theorem dX6_nearestStroke_30 : decode cX6_nearestStroke 30 = .ok (.iload_n 3, 1) := by decide +kernel
theorem dX6_nearestStroke_31 : decode cX6_nearestStroke 31 = .ok (.baload, 1) := by decide +kernel
theorem dX6_nearestStroke_32 : decode cX6_nearestStroke 32 = .ok (.ifCond .eq 6, 3) := by decide +kernel
theorem dX6_nearestStroke_35 : decode cX6_nearestStroke 35 = .ok (.goto 51, 3) := by decide +kernel
theorem dX6_nearestStroke_38 : decode cX6_nearestStroke 38 = .ok (.iload_n 1, 1) := by decide +kernel
theorem dX6_nearestStroke_39 : decode cX6_nearestStroke 39 = .ok (.ifCond .lt 25, 3) := by decide +kernel
theorem dX6_nearestStroke_42 : decode cX6_nearestStroke 42 = .ok (.aload_n 0, 1) := by decide +kernel
theorem dX6_nearestStroke_43 : decode cX6_nearestStroke 43 = .ok (.getfield 15, 3) := by decide +kernel
theorem dX6_nearestStroke_46 : decode cX6_nearestStroke 46 = .ok (.iload_n 3, 1) := by decide +kernel
theorem dX6_nearestStroke_47 : decode cX6_nearestStroke 47 = .ok (.invokevirtual 76, 3) := by decide +kernel
theorem dX6_nearestStroke_50 : decode cX6_nearestStroke 50 = .ok (.aload_n 0, 1) := by decide +kernel
theorem dX6_nearestStroke_51 : decode cX6_nearestStroke 51 = .ok (.getfield 15, 3) := by decide +kernel
theorem dX6_nearestStroke_54 : decode cX6_nearestStroke 54 = .ok (.iload_n 1, 1) := by decide +kernel
theorem dX6_nearestStroke_55 : decode cX6_nearestStroke 55 = .ok (.invokevirtual 76, 3) := by decide +kernel
theorem dX6_nearestStroke_58 : decode cX6_nearestStroke 58 = .ok (.if_icmp .eq 6, 3) := by decide +kernel
theorem dX6_nearestStroke_61 : decode cX6_nearestStroke 61 = .ok (.goto 31, 3) := by decide +kernel
theorem dX6_nearestStroke_64 : decode cX6_nearestStroke 64 = .ok (.aload_n 0, 1) := by decide +kernel
theorem dX6_nearestStroke_65 : decode cX6_nearestStroke 65 = .ok (.iload_n 3, 1) := by decide +kernel
theorem dX6_nearestStroke_66 : decode cX6_nearestStroke 66 = .ok (.invokevirtual 80, 3) := by decide +kernel
theorem dX6_nearestStroke_69 : decode cX6_nearestStroke 69 = .ok (.istore 4, 2) := by decide +kernel
theorem dX6_nearestStroke_71 : decode cX6_nearestStroke 71 = .ok (.iload_n 1, 1) := by decide +kernel
theorem dX6_nearestStroke_72 : decode cX6_nearestStroke 72 = .ok (.ifCond .lt 9, 3) := by decide +kernel
theorem dX6_nearestStroke_75 : decode cX6_nearestStroke 75 = .ok (.iload 4, 2) := by decide +kernel
theorem dX6_nearestStroke_77 : decode cX6_nearestStroke 77 = .ok (.iload_n 2, 1) := by decide +kernel
theorem dX6_nearestStroke_78 : decode cX6_nearestStroke 78 = .ok (.if_icmp .ge 8, 3) := by decide +kernel
theorem dX6_nearestStroke_81 : decode cX6_nearestStroke 81 = .ok (.iload_n 3, 1) := by decide +kernel
theorem dX6_nearestStroke_82 : decode cX6_nearestStroke 82 = .ok (.istore_n 1, 1) := by decide +kernel
theorem dX6_nearestStroke_83 : decode cX6_nearestStroke 83 = .ok (.iload 4, 2) := by decide +kernel
theorem dX6_nearestStroke_85 : decode cX6_nearestStroke 85 = .ok (.istore_n 2, 1) := by decide +kernel
theorem dX6_nearestStroke_86 : decode cX6_nearestStroke 86 = .ok (.iinc 3 1, 3) := by decide +kernel
theorem dX6_nearestStroke_89 : decode cX6_nearestStroke 89 = .ok (.goto (-83), 3) := by decide +kernel
theorem dX6_nearestStroke_92 : decode cX6_nearestStroke 92 = .ok (.iload_n 1, 1) := by decide +kernel
theorem dX6_nearestStroke_93 : decode cX6_nearestStroke 93 = .ok (.ireturn, 1) := by decide +kernel
theorem dX6_distanceOf_0 : decode cX6_distanceOf 0 = .ok (.aload_n 0, 1) := by decide +kernel
theorem dX6_distanceOf_1 : decode cX6_distanceOf 1 = .ok (.iload_n 1, 1) := by decide +kernel
theorem dX6_distanceOf_2 : decode cX6_distanceOf 2 = .ok (.iconst 1, 1) := by decide +kernel
theorem dX6_distanceOf_3 : decode cX6_distanceOf 3 = .ok (.invokevirtual 83, 3) := by decide +kernel
theorem dX6_distanceOf_6 : decode cX6_distanceOf 6 = .ok (.aload_n 0, 1) := by decide +kernel
theorem dX6_distanceOf_7 : decode cX6_distanceOf 7 = .ok (.iload_n 1, 1) := by decide +kernel
theorem dX6_distanceOf_8 : decode cX6_distanceOf 8 = .ok (.iconst 0, 1) := by decide +kernel
theorem dX6_distanceOf_9 : decode cX6_distanceOf 9 = .ok (.invokevirtual 83, 3) := by decide +kernel
theorem dX6_distanceOf_12 : decode cX6_distanceOf 12 = .ok (.invokestatic 87, 3) := by decide +kernel
theorem dX6_distanceOf_15 : decode cX6_distanceOf 15 = .ok (.ireturn, 1) := by decide +kernel
theorem dX6_distanceOfEnd_0 : decode cX6_distanceOfEnd 0 = .ok (.aload_n 0, 1) := by decide +kernel
theorem dX6_distanceOfEnd_1 : decode cX6_distanceOfEnd 1 = .ok (.getfield 32, 3) := by decide +kernel
theorem dX6_distanceOfEnd_4 : decode cX6_distanceOfEnd 4 = .ok (.aload_n 0, 1) := by decide +kernel
theorem dX6_distanceOfEnd_5 : decode cX6_distanceOfEnd 5 = .ok (.getfield 36, 3) := by decide +kernel
theorem dX6_distanceOfEnd_8 : decode cX6_distanceOfEnd 8 = .ok (.aload_n 0, 1) := by decide +kernel
theorem dX6_distanceOfEnd_9 : decode cX6_distanceOfEnd 9 = .ok (.getfield 15, 3) := by decide +kernel
theorem dX6_distanceOfEnd_12 : decode cX6_distanceOfEnd 12 = .ok (.iload_n 1, 1) := by decide +kernel
theorem dX6_distanceOfEnd_13 : decode cX6_distanceOfEnd 13 = .ok (.iload_n 2, 1) := by decide +kernel
theorem dX6_distanceOfEnd_14 : decode cX6_distanceOfEnd 14 = .ok (.invokevirtual 93, 3) := by decide +kernel
theorem dX6_distanceOfEnd_17 : decode cX6_distanceOfEnd 17 = .ok (.aload_n 0, 1) := by decide +kernel
theorem dX6_distanceOfEnd_18 : decode cX6_distanceOfEnd 18 = .ok (.getfield 15, 3) := by decide +kernel
theorem dX6_distanceOfEnd_21 : decode cX6_distanceOfEnd 21 = .ok (.iload_n 1, 1) := by decide +kernel
theorem dX6_distanceOfEnd_22 : decode cX6_distanceOfEnd 22 = .ok (.iload_n 2, 1) := by decide +kernel
theorem dX6_distanceOfEnd_23 : decode cX6_distanceOfEnd 23 = .ok (.invokevirtual 96, 3) := by decide +kernel
theorem dX6_distanceOfEnd_26 : decode cX6_distanceOfEnd 26 = .ok (.invokestatic 99, 3) := by decide +kernel
theorem dX6_distanceOfEnd_29 : decode cX6_distanceOfEnd 29 = .ok (.ireturn, 1) := by decide +kernel
theorem dX6_planStroke_0 : decode cX6_planStroke 0 = .ok (.aload_n 0, 1) := by decide +kernel
theorem dX6_planStroke_1 : decode cX6_planStroke 1 = .ok (.iload_n 1, 1) := by decide +kernel
theorem dX6_planStroke_2 : decode cX6_planStroke 2 = .ok (.iconst 1, 1) := by decide +kernel
theorem dX6_planStroke_3 : decode cX6_planStroke 3 = .ok (.invokevirtual 83, 3) := by decide +kernel
theorem dX6_planStroke_6 : decode cX6_planStroke 6 = .ok (.aload_n 0, 1) := by decide +kernel
theorem dX6_planStroke_7 : decode cX6_planStroke 7 = .ok (.iload_n 1, 1) := by decide +kernel
theorem dX6_planStroke_8 : decode cX6_planStroke 8 = .ok (.iconst 0, 1) := by decide +kernel
theorem dX6_planStroke_9 : decode cX6_planStroke 9 = .ok (.invokevirtual 83, 3) := by decide +kernel
theorem dX6_planStroke_12 : decode cX6_planStroke 12 = .ok (.if_icmp .gt 7, 3) := by decide +kernel
theorem dX6_planStroke_15 : decode cX6_planStroke 15 = .ok (.iconst 1, 1) := by decide +kernel
theorem dX6_planStroke_16 : decode cX6_planStroke 16 = .ok (.goto 4, 3) := by decide +kernel
theorem dX6_planStroke_19 : decode cX6_planStroke 19 = .ok (.iconst 0, 1) := by decide +kernel
theorem dX6_planStroke_20 : decode cX6_planStroke 20 = .ok (.istore_n 3, 1) := by decide +kernel
theorem dX6_planStroke_21 : decode cX6_planStroke 21 = .ok (.aload_n 0, 1) := by decide +kernel
theorem dX6_planStroke_22 : decode cX6_planStroke 22 = .ok (.iload_n 1, 1) := by decide +kernel
theorem dX6_planStroke_23 : decode cX6_planStroke 23 = .ok (.invokevirtual 80, 3) := by decide +kernel
theorem dX6_planStroke_26 : decode cX6_planStroke 26 = .ok (.istore 4, 2) := by decide +kernel
theorem dX6_planStroke_28 : decode cX6_planStroke 28 = .ok (.iload 4, 2) := by decide +kernel
theorem dX6_planStroke_30 : decode cX6_planStroke 30 = .ok (.aload_n 0, 1) := by decide +kernel
theorem dX6_planStroke_31 : decode cX6_planStroke 31 = .ok (.getfield 9, 3) := by decide +kernel
theorem dX6_planStroke_34 : decode cX6_planStroke 34 = .ok (.invokevirtual 103, 3) := by decide +kernel
theorem dX6_planStroke_37 : decode cX6_planStroke 37 = .ok (.if_icmp .le 7, 3) := by decide +kernel
theorem dX6_planStroke_40 : decode cX6_planStroke 40 = .ok (.iconst 1, 1) := by decide +kernel
theorem dX6_planStroke_41 : decode cX6_planStroke 41 = .ok (.goto 4, 3) := by decide +kernel
theorem dX6_planStroke_44 : decode cX6_planStroke 44 = .ok (.iconst 0, 1) := by decide +kernel
theorem dX6_planStroke_45 : decode cX6_planStroke 45 = .ok (.istore 5, 2) := by decide +kernel
theorem dX6_planStroke_47 : decode cX6_planStroke 47 = .ok (.iload 5, 2) := by decide +kernel
theorem dX6_planStroke_49 : decode cX6_planStroke 49 = .ok (.ifCond .eq 21, 3) := by decide +kernel
theorem dX6_planStroke_52 : decode cX6_planStroke 52 = .ok (.aload_n 0, 1) := by decide +kernel
theorem dX6_planStroke_53 : decode cX6_planStroke 53 = .ok (.getfield 19, 3) := by decide +kernel
theorem dX6_planStroke_56 : decode cX6_planStroke 56 = .ok (.bipush 114, 2) := by decide +kernel
theorem dX6_planStroke_58 : decode cX6_planStroke 58 = .ok (.aload_n 0, 1) := by decide +kernel
theorem dX6_planStroke_59 : decode cX6_planStroke 59 = .ok (.getfield 32, 3) := by decide +kernel
theorem dX6_planStroke_62 : decode cX6_planStroke 62 = .ok (.aload_n 0, 1) := by decide +kernel
theorem dX6_planStroke_63 : decode cX6_planStroke 63 = .ok (.getfield 36, 3) := by decide +kernel
theorem dX6_planStroke_66 : decode cX6_planStroke 66 = .ok (.iload_n 2, 1) := by decide +kernel
theorem dX6_planStroke_67 : decode cX6_planStroke 67 = .ok (.invokevirtual 62, 3) := by decide +kernel
theorem dX6_planStroke_70 : decode cX6_planStroke 70 = .ok (.iload 4, 2) := by decide +kernel
theorem dX6_planStroke_72 : decode cX6_planStroke 72 = .ok (.ifCond .le 47, 3) := by decide +kernel
theorem dX6_planStroke_75 : decode cX6_planStroke 75 = .ok (.aload_n 0, 1) := by decide +kernel
theorem dX6_planStroke_76 : decode cX6_planStroke 76 = .ok (.aload_n 0, 1) := by decide +kernel
theorem dX6_planStroke_77 : decode cX6_planStroke 77 = .ok (.getfield 15, 3) := by decide +kernel
theorem dX6_planStroke_80 : decode cX6_planStroke 80 = .ok (.iload_n 1, 1) := by decide +kernel
theorem dX6_planStroke_81 : decode cX6_planStroke 81 = .ok (.iload_n 3, 1) := by decide +kernel
theorem dX6_planStroke_82 : decode cX6_planStroke 82 = .ok (.invokevirtual 93, 3) := by decide +kernel
theorem dX6_planStroke_85 : decode cX6_planStroke 85 = .ok (.putfield 32, 3) := by decide +kernel
theorem dX6_planStroke_88 : decode cX6_planStroke 88 = .ok (.aload_n 0, 1) := by decide +kernel
theorem dX6_planStroke_89 : decode cX6_planStroke 89 = .ok (.aload_n 0, 1) := by decide +kernel
theorem dX6_planStroke_90 : decode cX6_planStroke 90 = .ok (.getfield 15, 3) := by decide +kernel
theorem dX6_planStroke_93 : decode cX6_planStroke 93 = .ok (.iload_n 1, 1) := by decide +kernel
theorem dX6_planStroke_94 : decode cX6_planStroke 94 = .ok (.iload_n 3, 1) := by decide +kernel
theorem dX6_planStroke_95 : decode cX6_planStroke 95 = .ok (.invokevirtual 96, 3) := by decide +kernel
theorem dX6_planStroke_98 : decode cX6_planStroke 98 = .ok (.putfield 36, 3) := by decide +kernel
theorem dX6_planStroke_101 : decode cX6_planStroke 101 = .ok (.aload_n 0, 1) := by decide +kernel
theorem dX6_planStroke_102 : decode cX6_planStroke 102 = .ok (.getfield 19, 3) := by decide +kernel
theorem dX6_planStroke_105 : decode cX6_planStroke 105 = .ok (.bipush 103, 2) := by decide +kernel
theorem dX6_planStroke_107 : decode cX6_planStroke 107 = .ok (.aload_n 0, 1) := by decide +kernel
theorem dX6_planStroke_108 : decode cX6_planStroke 108 = .ok (.getfield 32, 3) := by decide +kernel
theorem dX6_planStroke_111 : decode cX6_planStroke 111 = .ok (.aload_n 0, 1) := by decide +kernel
theorem dX6_planStroke_112 : decode cX6_planStroke 112 = .ok (.getfield 36, 3) := by decide +kernel
theorem dX6_planStroke_115 : decode cX6_planStroke 115 = .ok (.iload_n 2, 1) := by decide +kernel
theorem dX6_planStroke_116 : decode cX6_planStroke 116 = .ok (.invokevirtual 62, 3) := by decide +kernel
theorem dX6_planStroke_119 : decode cX6_planStroke 119 = .ok (.iload 5, 2) := by decide +kernel
theorem dX6_planStroke_121 : decode cX6_planStroke 121 = .ok (.ifCond .eq 21, 3) := by decide +kernel
theorem dX6_planStroke_124 : decode cX6_planStroke 124 = .ok (.aload_n 0, 1) := by decide +kernel
theorem dX6_planStroke_125 : decode cX6_planStroke 125 = .ok (.getfield 19, 3) := by decide +kernel
theorem dX6_planStroke_128 : decode cX6_planStroke 128 = .ok (.bipush 117, 2) := by decide +kernel
theorem dX6_planStroke_130 : decode cX6_planStroke 130 = .ok (.aload_n 0, 1) := by decide +kernel
theorem dX6_planStroke_131 : decode cX6_planStroke 131 = .ok (.getfield 32, 3) := by decide +kernel
theorem dX6_planStroke_134 : decode cX6_planStroke 134 = .ok (.aload_n 0, 1) := by decide +kernel
theorem dX6_planStroke_135 : decode cX6_planStroke 135 = .ok (.getfield 36, 3) := by decide +kernel
theorem dX6_planStroke_138 : decode cX6_planStroke 138 = .ok (.iload_n 2, 1) := by decide +kernel
theorem dX6_planStroke_139 : decode cX6_planStroke 139 = .ok (.invokevirtual 62, 3) := by decide +kernel
theorem dX6_planStroke_142 : decode cX6_planStroke 142 = .ok (.aload_n 0, 1) := by decide +kernel
theorem dX6_planStroke_143 : decode cX6_planStroke 143 = .ok (.aload_n 0, 1) := by decide +kernel
theorem dX6_planStroke_144 : decode cX6_planStroke 144 = .ok (.getfield 15, 3) := by decide +kernel
theorem dX6_planStroke_147 : decode cX6_planStroke 147 = .ok (.iload_n 1, 1) := by decide +kernel
theorem dX6_planStroke_148 : decode cX6_planStroke 148 = .ok (.iload_n 3, 1) := by decide +kernel
theorem dX6_planStroke_149 : decode cX6_planStroke 149 = .ok (.ifCond .ne 7, 3) := by decide +kernel
theorem dX6_planStroke_152 : decode cX6_planStroke 152 = .ok (.iconst 1, 1) := by decide +kernel
theorem dX6_planStroke_153 : decode cX6_planStroke 153 = .ok (.goto 4, 3) := by decide +kernel
theorem dX6_planStroke_156 : decode cX6_planStroke 156 = .ok (.iconst 0, 1) := by decide +kernel
theorem dX6_planStroke_157 : decode cX6_planStroke 157 = .ok (.invokevirtual 93, 3) := by decide +kernel
theorem dX6_planStroke_160 : decode cX6_planStroke 160 = .ok (.putfield 32, 3) := by decide +kernel
theorem dX6_planStroke_163 : decode cX6_planStroke 163 = .ok (.aload_n 0, 1) := by decide +kernel
theorem dX6_planStroke_164 : decode cX6_planStroke 164 = .ok (.aload_n 0, 1) := by decide +kernel
theorem dX6_planStroke_165 : decode cX6_planStroke 165 = .ok (.getfield 15, 3) := by decide +kernel
theorem dX6_planStroke_168 : decode cX6_planStroke 168 = .ok (.iload_n 1, 1) := by decide +kernel
theorem dX6_planStroke_169 : decode cX6_planStroke 169 = .ok (.iload_n 3, 1) := by decide +kernel
theorem dX6_planStroke_170 : decode cX6_planStroke 170 = .ok (.ifCond .ne 7, 3) := by decide +kernel
theorem dX6_planStroke_173 : decode cX6_planStroke 173 = .ok (.iconst 1, 1) := by decide +kernel
theorem dX6_planStroke_174 : decode cX6_planStroke 174 = .ok (.goto 4, 3) := by decide +kernel
theorem dX6_planStroke_177 : decode cX6_planStroke 177 = .ok (.iconst 0, 1) := by decide +kernel
theorem dX6_planStroke_178 : decode cX6_planStroke 178 = .ok (.invokevirtual 96, 3) := by decide +kernel
theorem dX6_planStroke_181 : decode cX6_planStroke 181 = .ok (.putfield 36, 3) := by decide +kernel
theorem dX6_planStroke_184 : decode cX6_planStroke 184 = .ok (.aload_n 0, 1) := by decide +kernel
theorem dX6_planStroke_185 : decode cX6_planStroke 185 = .ok (.getfield 19, 3) := by decide +kernel
theorem dX6_planStroke_188 : decode cX6_planStroke 188 = .ok (.bipush 100, 2) := by decide +kernel
theorem dX6_planStroke_190 : decode cX6_planStroke 190 = .ok (.aload_n 0, 1) := by decide +kernel
theorem dX6_planStroke_191 : decode cX6_planStroke 191 = .ok (.getfield 32, 3) := by decide +kernel
theorem dX6_planStroke_194 : decode cX6_planStroke 194 = .ok (.aload_n 0, 1) := by decide +kernel
theorem dX6_planStroke_195 : decode cX6_planStroke 195 = .ok (.getfield 36, 3) := by decide +kernel
theorem dX6_planStroke_198 : decode cX6_planStroke 198 = .ok (.iload_n 2, 1) := by decide +kernel
theorem dX6_planStroke_199 : decode cX6_planStroke 199 = .ok (.invokevirtual 62, 3) := by decide +kernel
theorem dX6_planStroke_202 : decode cX6_planStroke 202 = .ok (.return_, 1) := by decide +kernel
theorem dX7_init_0 : decode cX7_init 0 = .ok (.aload_n 0, 1) := by decide +kernel
theorem dX7_init_1 : decode cX7_init 1 = .ok (.invokespecial 3, 3) := by decide +kernel
theorem dX7_init_4 : decode cX7_init 4 = .ok (.aload_n 0, 1) := by decide +kernel
theorem dX7_init_5 : decode cX7_init 5 = .ok (.iconst 1, 1) := by decide +kernel
theorem dX7_init_6 : decode cX7_init 6 = .ok (.putfield 9, 3) := by decide +kernel
theorem dX7_init_9 : decode cX7_init 9 = .ok (.aload_n 0, 1) := by decide +kernel
theorem dX7_init_10 : decode cX7_init 10 = .ok (.iconst 1, 1) := by decide +kernel
theorem dX7_init_11 : decode cX7_init 11 = .ok (.putfield 15, 3) := by decide +kernel
theorem dX7_init_14 : decode cX7_init 14 = .ok (.aload_n 0, 1) := by decide +kernel
theorem dX7_init_15 : decode cX7_init 15 = .ok (.iconst 3, 1) := by decide +kernel
theorem dX7_init_16 : decode cX7_init 16 = .ok (.putfield 18, 3) := by decide +kernel
theorem dX7_init_19 : decode cX7_init 19 = .ok (.aload_n 0, 1) := by decide +kernel
theorem dX7_init_20 : decode cX7_init 20 = .ok (.iconst 0, 1) := by decide +kernel
theorem dX7_init_21 : decode cX7_init 21 = .ok (.putfield 21, 3) := by decide +kernel
theorem dX7_init_24 : decode cX7_init 24 = .ok (.aload_n 0, 1) := by decide +kernel
theorem dX7_init_25 : decode cX7_init 25 = .ok (.iconst 0, 1) := by decide +kernel
theorem dX7_init_26 : decode cX7_init 26 = .ok (.putfield 24, 3) := by decide +kernel
theorem dX7_init_29 : decode cX7_init 29 = .ok (.aload_n 0, 1) := by decide +kernel
theorem dX7_init_30 : decode cX7_init 30 = .ok (.iconst 4, 1) := by decide +kernel
theorem dX7_init_31 : decode cX7_init 31 = .ok (.putfield 27, 3) := by decide +kernel
theorem dX7_init_34 : decode cX7_init 34 = .ok (.aload_n 0, 1) := by decide +kernel
theorem dX7_init_35 : decode cX7_init 35 = .ok (.bipush 108, 2) := by decide +kernel
theorem dX7_init_37 : decode cX7_init 37 = .ok (.putfield 30, 3) := by decide +kernel
theorem dX7_init_40 : decode cX7_init 40 = .ok (.aload_n 0, 1) := by decide +kernel
theorem dX7_init_41 : decode cX7_init 41 = .ok (.bipush 12, 2) := by decide +kernel
theorem dX7_init_43 : decode cX7_init 43 = .ok (.newarray .int, 2) := by decide +kernel
theorem dX7_init_45 : decode cX7_init 45 = .ok (.putfield 34, 3) := by decide +kernel
theorem dX7_init_48 : decode cX7_init 48 = .ok (.aload_n 0, 1) := by decide +kernel
theorem dX7_init_49 : decode cX7_init 49 = .ok (.bipush 12, 2) := by decide +kernel
theorem dX7_init_51 : decode cX7_init 51 = .ok (.newarray .boolean, 2) := by decide +kernel
theorem dX7_init_53 : decode cX7_init 53 = .ok (.putfield 38, 3) := by decide +kernel
theorem dX7_init_56 : decode cX7_init 56 = .ok (.aload_n 0, 1) := by decide +kernel
theorem dX7_init_57 : decode cX7_init 57 = .ok (.getfield 34, 3) := by decide +kernel
theorem dX7_init_60 : decode cX7_init 60 = .ok (.iconst 1, 1) := by decide +kernel
theorem dX7_init_61 : decode cX7_init 61 = .ok (.invokestatic 42, 3) := by decide +kernel
theorem dX7_init_64 : decode cX7_init 64 = .ok (.return_, 1) := by decide +kernel
theorem dX7_isAllowed_0 : decode cX7_isAllowed 0 = .ok (.iload_n 0, 1) := by decide +kernel
theorem dX7_isAllowed_1 : decode cX7_isAllowed 1 = .ok (.bipush 119, 2) := by decide +kernel
theorem dX7_isAllowed_3 : decode cX7_isAllowed 3 = .ok (.if_icmp .eq 9, 3) := by decide +kernel
theorem dX7_isAllowed_6 : decode cX7_isAllowed 6 = .ok (.iload_n 0, 1) := by decide +kernel
theorem dX7_isAllowed_7 : decode cX7_isAllowed 7 = .ok (.bipush 100, 2) := by decide +kernel
theorem dX7_isAllowed_9 : decode cX7_isAllowed 9 = .ok (.if_icmp .ne 7, 3) := by decide +kernel
theorem dX7_isAllowed_12 : decode cX7_isAllowed 12 = .ok (.iconst 1, 1) := by decide +kernel
theorem dX7_isAllowed_13 : decode cX7_isAllowed 13 = .ok (.goto 4, 3) := by decide +kernel
theorem dX7_isAllowed_16 : decode cX7_isAllowed 16 = .ok (.iconst 0, 1) := by decide +kernel
theorem dX7_isAllowed_17 : decode cX7_isAllowed 17 = .ok (.istore_n 2, 1) := by decide +kernel
theorem dX7_isAllowed_18 : decode cX7_isAllowed 18 = .ok (.iload_n 1, 1) := by decide +kernel
theorem dX7_isAllowed_19 : decode cX7_isAllowed 19 = .ok (.iload_n 2, 1) := by decide +kernel
theorem dX7_isAllowed_20 : decode cX7_isAllowed 20 = .ok (.if_icmp .lt 15, 3) := by decide +kernel
theorem dX7_isAllowed_23 : decode cX7_isAllowed 23 = .ok (.iload_n 1, 1) := by decide +kernel
theorem dX7_isAllowed_24 : decode cX7_isAllowed 24 = .ok (.iload_n 0, 1) := by decide +kernel
theorem dX7_isAllowed_25 : decode cX7_isAllowed 25 = .ok (.invokestatic 48, 3) := by decide +kernel
theorem dX7_isAllowed_28 : decode cX7_isAllowed 28 = .ok (.if_icmp .gt 7, 3) := by decide +kernel
theorem dX7_isAllowed_31 : decode cX7_isAllowed 31 = .ok (.iconst 1, 1) := by decide +kernel
theorem dX7_isAllowed_32 : decode cX7_isAllowed 32 = .ok (.goto 4, 3) := by decide +kernel
theorem dX7_isAllowed_35 : decode cX7_isAllowed 35 = .ok (.iconst 0, 1) := by decide +kernel
theorem dX7_isAllowed_36 : decode cX7_isAllowed 36 = .ok (.ireturn, 1) := by decide +kernel
theorem dX7_greatestOf_0 : decode cX7_greatestOf 0 = .ok (.iload_n 0, 1) := by decide +kernel
theorem dX7_greatestOf_1 : decode cX7_greatestOf 1 = .ok (.tableswitch 107 100 119 #[97, 107, 107, 102, 107, 107, 107, 95, 107, 107, 107, 107, 107, 107, 104, 100, 107, 107, 107, 95], 95) := by decide +kernel
theorem dX7_greatestOf_96 : decode cX7_greatestOf 96 = .ok (.iconst 3, 1) := by decide +kernel
theorem dX7_greatestOf_97 : decode cX7_greatestOf 97 = .ok (.ireturn, 1) := by decide +kernel
theorem dX7_greatestOf_98 : decode cX7_greatestOf 98 = .ok (.bipush 6, 2) := by decide +kernel
theorem dX7_greatestOf_100 : decode cX7_greatestOf 100 = .ok (.ireturn, 1) := by decide +kernel
theorem dX7_greatestOf_101 : decode cX7_greatestOf 101 = .ok (.iconst 1, 1) := by decide +kernel
theorem dX7_greatestOf_102 : decode cX7_greatestOf 102 = .ok (.ireturn, 1) := by decide +kernel
theorem dX7_greatestOf_103 : decode cX7_greatestOf 103 = .ok (.iconst 2, 1) := by decide +kernel
theorem dX7_greatestOf_104 : decode cX7_greatestOf 104 = .ok (.ireturn, 1) := by decide +kernel
theorem dX7_greatestOf_105 : decode cX7_greatestOf 105 = .ok (.bipush 22, 2) := by decide +kernel
theorem dX7_greatestOf_107 : decode cX7_greatestOf 107 = .ok (.ireturn, 1) := by decide +kernel
theorem dX7_greatestOf_108 : decode cX7_greatestOf 108 = .ok (.iconst (-1), 1) := by decide +kernel
theorem dX7_greatestOf_109 : decode cX7_greatestOf 109 = .ok (.ireturn, 1) := by decide +kernel
theorem dX7_changeNumber_0 : decode cX7_changeNumber 0 = .ok (.aload_n 0, 1) := by decide +kernel
theorem dX7_changeNumber_1 : decode cX7_changeNumber 1 = .ok (.iload_n 1, 1) := by decide +kernel
theorem dX7_changeNumber_2 : decode cX7_changeNumber 2 = .ok (.invokevirtual 52, 3) := by decide +kernel
theorem dX7_changeNumber_5 : decode cX7_changeNumber 5 = .ok (.istore_n 3, 1) := by decide +kernel
theorem dX7_changeNumber_6 : decode cX7_changeNumber 6 = .ok (.iload_n 1, 1) := by decide +kernel
theorem dX7_changeNumber_7 : decode cX7_changeNumber 7 = .ok (.lookupswitch 89 #[(100, 65), (103, 81), (107, 57), (115, 73), (119, 49)], 49) := by decide +kernel
theorem dX7_changeNumber_56 : decode cX7_changeNumber 56 = .ok (.aload_n 0, 1) := by decide +kernel
theorem dX7_changeNumber_57 : decode cX7_changeNumber 57 = .ok (.iload_n 2, 1) := by decide +kernel
theorem dX7_changeNumber_58 : decode cX7_changeNumber 58 = .ok (.putfield 9, 3) := by decide +kernel
theorem dX7_changeNumber_61 : decode cX7_changeNumber 61 = .ok (.goto 40, 3) := by decide +kernel
theorem dX7_changeNumber_64 : decode cX7_changeNumber 64 = .ok (.aload_n 0, 1) := by decide +kernel
theorem dX7_changeNumber_65 : decode cX7_changeNumber 65 = .ok (.iload_n 2, 1) := by decide +kernel
theorem dX7_changeNumber_66 : decode cX7_changeNumber 66 = .ok (.putfield 15, 3) := by decide +kernel
theorem dX7_changeNumber_69 : decode cX7_changeNumber 69 = .ok (.goto 32, 3) := by decide +kernel
theorem dX7_changeNumber_72 : decode cX7_changeNumber 72 = .ok (.aload_n 0, 1) := by decide +kernel
theorem dX7_changeNumber_73 : decode cX7_changeNumber 73 = .ok (.iload_n 2, 1) := by decide +kernel
theorem dX7_changeNumber_74 : decode cX7_changeNumber 74 = .ok (.putfield 18, 3) := by decide +kernel
theorem dX7_changeNumber_77 : decode cX7_changeNumber 77 = .ok (.goto 24, 3) := by decide +kernel
theorem dX7_changeNumber_80 : decode cX7_changeNumber 80 = .ok (.aload_n 0, 1) := by decide +kernel
theorem dX7_changeNumber_81 : decode cX7_changeNumber 81 = .ok (.iload_n 2, 1) := by decide +kernel
theorem dX7_changeNumber_82 : decode cX7_changeNumber 82 = .ok (.putfield 21, 3) := by decide +kernel
theorem dX7_changeNumber_85 : decode cX7_changeNumber 85 = .ok (.goto 16, 3) := by decide +kernel
theorem dX7_changeNumber_88 : decode cX7_changeNumber 88 = .ok (.aload_n 0, 1) := by decide +kernel
theorem dX7_changeNumber_89 : decode cX7_changeNumber 89 = .ok (.iload_n 2, 1) := by decide +kernel
theorem dX7_changeNumber_90 : decode cX7_changeNumber 90 = .ok (.putfield 24, 3) := by decide +kernel
theorem dX7_changeNumber_93 : decode cX7_changeNumber 93 = .ok (.goto 8, 3) := by decide +kernel
theorem dX7_changeNumber_96 : decode cX7_changeNumber 96 = .ok (.aload_n 0, 1) := by decide +kernel
theorem dX7_changeNumber_97 : decode cX7_changeNumber 97 = .ok (.iload_n 2, 1) := by decide +kernel
theorem dX7_changeNumber_98 : decode cX7_changeNumber 98 = .ok (.putfield 27, 3) := by decide +kernel
theorem dX7_changeNumber_101 : decode cX7_changeNumber 101 = .ok (.iload_n 3, 1) := by decide +kernel
theorem dX7_changeNumber_102 : decode cX7_changeNumber 102 = .ok (.ireturn, 1) := by decide +kernel
theorem dX7_numberOf_0 : decode cX7_numberOf 0 = .ok (.iload_n 1, 1) := by decide +kernel
theorem dX7_numberOf_1 : decode cX7_numberOf 1 = .ok (.lookupswitch 76 #[(100, 61), (103, 71), (107, 56), (115, 66), (119, 51)], 51) := by decide +kernel
theorem dX7_numberOf_52 : decode cX7_numberOf 52 = .ok (.aload_n 0, 1) := by decide +kernel
theorem dX7_numberOf_53 : decode cX7_numberOf 53 = .ok (.getfield 9, 3) := by decide +kernel
theorem dX7_numberOf_56 : decode cX7_numberOf 56 = .ok (.ireturn, 1) := by decide +kernel
theorem dX7_numberOf_57 : decode cX7_numberOf 57 = .ok (.aload_n 0, 1) := by decide +kernel
theorem dX7_numberOf_58 : decode cX7_numberOf 58 = .ok (.getfield 15, 3) := by decide +kernel
theorem dX7_numberOf_61 : decode cX7_numberOf 61 = .ok (.ireturn, 1) := by decide +kernel
theorem dX7_numberOf_62 : decode cX7_numberOf 62 = .ok (.aload_n 0, 1) := by decide +kernel
theorem dX7_numberOf_63 : decode cX7_numberOf 63 = .ok (.getfield 18, 3) := by decide +kernel
theorem dX7_numberOf_66 : decode cX7_numberOf 66 = .ok (.ireturn, 1) := by decide +kernel
theorem dX7_numberOf_67 : decode cX7_numberOf 67 = .ok (.aload_n 0, 1) := by decide +kernel
theorem dX7_numberOf_68 : decode cX7_numberOf 68 = .ok (.getfield 21, 3) := by decide +kernel
theorem dX7_numberOf_71 : decode cX7_numberOf 71 = .ok (.ireturn, 1) := by decide +kernel
theorem dX7_numberOf_72 : decode cX7_numberOf 72 = .ok (.aload_n 0, 1) := by decide +kernel
theorem dX7_numberOf_73 : decode cX7_numberOf 73 = .ok (.getfield 24, 3) := by decide +kernel
theorem dX7_numberOf_76 : decode cX7_numberOf 76 = .ok (.ireturn, 1) := by decide +kernel
theorem dX7_numberOf_77 : decode cX7_numberOf 77 = .ok (.aload_n 0, 1) := by decide +kernel
theorem dX7_numberOf_78 : decode cX7_numberOf 78 = .ok (.getfield 27, 3) := by decide +kernel
theorem dX7_numberOf_81 : decode cX7_numberOf 81 = .ok (.ireturn, 1) := by decide +kernel
theorem dX7_changePattern_0 : decode cX7_changePattern 0 = .ok (.aload_n 0, 1) := by decide +kernel
theorem dX7_changePattern_1 : decode cX7_changePattern 1 = .ok (.getfield 30, 3) := by decide +kernel
theorem dX7_changePattern_4 : decode cX7_changePattern 4 = .ok (.istore_n 2, 1) := by decide +kernel
theorem dX7_changePattern_5 : decode cX7_changePattern 5 = .ok (.aload_n 0, 1) := by decide +kernel
theorem dX7_changePattern_6 : decode cX7_changePattern 6 = .ok (.iload_n 1, 1) := by decide +kernel
theorem dX7_changePattern_7 : decode cX7_changePattern 7 = .ok (.putfield 30, 3) := by decide +kernel
theorem dX7_changePattern_10 : decode cX7_changePattern 10 = .ok (.iload_n 2, 1) := by decide +kernel
theorem dX7_changePattern_11 : decode cX7_changePattern 11 = .ok (.ireturn, 1) := by decide +kernel
theorem dX7_changeThickness_0 : decode cX7_changeThickness 0 = .ok (.aload_n 0, 1) := by decide +kernel
theorem dX7_changeThickness_1 : decode cX7_changeThickness 1 = .ok (.iload_n 1, 1) := by decide +kernel
theorem dX7_changeThickness_2 : decode cX7_changeThickness 2 = .ok (.invokevirtual 55, 3) := by decide +kernel
theorem dX7_changeThickness_5 : decode cX7_changeThickness 5 = .ok (.istore_n 3, 1) := by decide +kernel
theorem dX7_changeThickness_6 : decode cX7_changeThickness 6 = .ok (.iload_n 1, 1) := by decide +kernel
theorem dX7_changeThickness_7 : decode cX7_changeThickness 7 = .ok (.invokestatic 59, 3) := by decide +kernel
theorem dX7_changeThickness_10 : decode cX7_changeThickness 10 = .ok (.ifCond .eq 10, 3) := by decide +kernel
theorem dX7_changeThickness_13 : decode cX7_changeThickness 13 = .ok (.aload_n 0, 1) := by decide +kernel
theorem dX7_changeThickness_14 : decode cX7_changeThickness 14 = .ok (.getfield 34, 3) := by decide +kernel
theorem dX7_changeThickness_17 : decode cX7_changeThickness 17 = .ok (.iload_n 1, 1) := by decide +kernel
theorem dX7_changeThickness_18 : decode cX7_changeThickness 18 = .ok (.iload_n 2, 1) := by decide +kernel
theorem dX7_changeThickness_19 : decode cX7_changeThickness 19 = .ok (.iastore, 1) := by decide +kernel
theorem dX7_changeThickness_20 : decode cX7_changeThickness 20 = .ok (.iload_n 3, 1) := by decide +kernel
theorem dX7_changeThickness_21 : decode cX7_changeThickness 21 = .ok (.ireturn, 1) := by decide +kernel
theorem dX7_changePause_0 : decode cX7_changePause 0 = .ok (.aload_n 0, 1) := by decide +kernel
theorem dX7_changePause_1 : decode cX7_changePause 1 = .ok (.iload_n 1, 1) := by decide +kernel
theorem dX7_changePause_2 : decode cX7_changePause 2 = .ok (.invokevirtual 63, 3) := by decide +kernel
theorem dX7_changePause_5 : decode cX7_changePause 5 = .ok (.istore_n 3, 1) := by decide +kernel
theorem dX7_changePause_6 : decode cX7_changePause 6 = .ok (.iload_n 1, 1) := by decide +kernel
theorem dX7_changePause_7 : decode cX7_changePause 7 = .ok (.invokestatic 59, 3) := by decide +kernel
theorem dX7_changePause_10 : decode cX7_changePause 10 = .ok (.ifCond .eq 10, 3) := by decide +kernel
theorem dX7_changePause_13 : decode cX7_changePause 13 = .ok (.aload_n 0, 1) := by decide +kernel
theorem dX7_changePause_14 : decode cX7_changePause 14 = .ok (.getfield 38, 3) := by decide +kernel
theorem dX7_changePause_17 : decode cX7_changePause 17 = .ok (.iload_n 1, 1) := by decide +kernel
theorem dX7_changePause_18 : decode cX7_changePause 18 = .ok (.iload_n 2, 1) := by decide +kernel
theorem dX7_changePause_19 : decode cX7_changePause 19 = .ok (.bastore, 1) := by decide +kernel
theorem dX7_changePause_20 : decode cX7_changePause 20 = .ok (.iload_n 3, 1) := by decide +kernel
theorem dX7_changePause_21 : decode cX7_changePause 21 = .ok (.ireturn, 1) := by decide +kernel
theorem dX7_thicknessOf_0 : decode cX7_thicknessOf 0 = .ok (.iload_n 1, 1) := by decide +kernel
theorem dX7_thicknessOf_1 : decode cX7_thicknessOf 1 = .ok (.invokestatic 59, 3) := by decide +kernel
theorem dX7_thicknessOf_4 : decode cX7_thicknessOf 4 = .ok (.ifCond .eq 12, 3) := by decide +kernel
theorem dX7_thicknessOf_7 : decode cX7_thicknessOf 7 = .ok (.aload_n 0, 1) := by decide +kernel
theorem dX7_thicknessOf_8 : decode cX7_thicknessOf 8 = .ok (.getfield 34, 3) := by decide +kernel
theorem dX7_thicknessOf_11 : decode cX7_thicknessOf 11 = .ok (.iload_n 1, 1) := by decide +kernel
theorem dX7_thicknessOf_12 : decode cX7_thicknessOf 12 = .ok (.iaload, 1) := by decide +kernel
theorem dX7_thicknessOf_13 : decode cX7_thicknessOf 13 = .ok (.goto 4, 3) := by decide +kernel
theorem dX7_thicknessOf_16 : decode cX7_thicknessOf 16 = .ok (.iconst 1, 1) := by decide +kernel
theorem dX7_thicknessOf_17 : decode cX7_thicknessOf 17 = .ok (.ireturn, 1) := by decide +kernel
theorem dX7_hasPause_0 : decode cX7_hasPause 0 = .ok (.iload_n 1, 1) := by decide +kernel
theorem dX7_hasPause_1 : decode cX7_hasPause 1 = .ok (.invokestatic 59, 3) := by decide +kernel
theorem dX7_hasPause_4 : decode cX7_hasPause 4 = .ok (.ifCond .eq 16, 3) := by decide +kernel
theorem dX7_hasPause_7 : decode cX7_hasPause 7 = .ok (.aload_n 0, 1) := by decide +kernel
theorem dX7_hasPause_8 : decode cX7_hasPause 8 = .ok (.getfield 38, 3) := by decide +kernel
theorem dX7_hasPause_11 : decode cX7_hasPause 11 = .ok (.iload_n 1, 1) := by decide +kernel
theorem dX7_hasPause_12 : decode cX7_hasPause 12 = .ok (.baload, 1) := by decide +kernel
theorem dX7_hasPause_13 : decode cX7_hasPause 13 = .ok (.ifCond .eq 7, 3) := by decide +kernel
theorem dX7_hasPause_16 : decode cX7_hasPause 16 = .ok (.iconst 1, 1) := by decide +kernel
theorem dX7_hasPause_17 : decode cX7_hasPause 17 = .ok (.goto 4, 3) := by decide +kernel
theorem dX7_hasPause_20 : decode cX7_hasPause 20 = .ok (.iconst 0, 1) := by decide +kernel
theorem dX7_hasPause_21 : decode cX7_hasPause 21 = .ok (.ireturn, 1) := by decide +kernel
theorem dX7_wallCount_0 : decode cX7_wallCount 0 = .ok (.aload_n 0, 1) := by decide +kernel
theorem dX7_wallCount_1 : decode cX7_wallCount 1 = .ok (.getfield 9, 3) := by decide +kernel
theorem dX7_wallCount_4 : decode cX7_wallCount 4 = .ok (.ireturn, 1) := by decide +kernel
theorem dX7_skinCount_0 : decode cX7_skinCount 0 = .ok (.aload_n 0, 1) := by decide +kernel
theorem dX7_skinCount_1 : decode cX7_skinCount 1 = .ok (.getfield 15, 3) := by decide +kernel
theorem dX7_skinCount_4 : decode cX7_skinCount 4 = .ok (.ireturn, 1) := by decide +kernel
theorem dX7_hasSupports_0 : decode cX7_hasSupports 0 = .ok (.aload_n 0, 1) := by decide +kernel
theorem dX7_hasSupports_1 : decode cX7_hasSupports 1 = .ok (.getfield 21, 3) := by decide +kernel
theorem dX7_hasSupports_4 : decode cX7_hasSupports 4 = .ok (.ifCond .eq 7, 3) := by decide +kernel
theorem dX7_hasSupports_7 : decode cX7_hasSupports 7 = .ok (.iconst 1, 1) := by decide +kernel
theorem dX7_hasSupports_8 : decode cX7_hasSupports 8 = .ok (.goto 4, 3) := by decide +kernel
theorem dX7_hasSupports_11 : decode cX7_hasSupports 11 = .ok (.iconst 0, 1) := by decide +kernel
theorem dX7_hasSupports_12 : decode cX7_hasSupports 12 = .ok (.ireturn, 1) := by decide +kernel
theorem dX7_gapSize_0 : decode cX7_gapSize 0 = .ok (.aload_n 0, 1) := by decide +kernel
theorem dX7_gapSize_1 : decode cX7_gapSize 1 = .ok (.getfield 24, 3) := by decide +kernel
theorem dX7_gapSize_4 : decode cX7_gapSize 4 = .ok (.ireturn, 1) := by decide +kernel
theorem dX7_reachLength_0 : decode cX7_reachLength 0 = .ok (.aload_n 0, 1) := by decide +kernel
theorem dX7_reachLength_1 : decode cX7_reachLength 1 = .ok (.getfield 27, 3) := by decide +kernel
theorem dX7_reachLength_4 : decode cX7_reachLength 4 = .ok (.ireturn, 1) := by decide +kernel
theorem dX7_fills_0 : decode cX7_fills 0 = .ok (.aload_n 0, 1) := by decide +kernel
theorem dX7_fills_1 : decode cX7_fills 1 = .ok (.getfield 30, 3) := by decide +kernel
theorem dX7_fills_4 : decode cX7_fills 4 = .ok (.lookupswitch 67 #[(103, 45), (108, 28)], 28) := by decide +kernel
theorem dX7_fills_32 : decode cX7_fills 32 = .ok (.aload_n 0, 1) := by decide +kernel
theorem dX7_fills_33 : decode cX7_fills 33 = .ok (.iload_n 3, 1) := by decide +kernel
theorem dX7_fills_34 : decode cX7_fills 34 = .ok (.invokestatic 66, 3) := by decide +kernel
theorem dX7_fills_37 : decode cX7_fills 37 = .ok (.ifCond .eq 7, 3) := by decide +kernel
theorem dX7_fills_40 : decode cX7_fills 40 = .ok (.iload_n 2, 1) := by decide +kernel
theorem dX7_fills_41 : decode cX7_fills 41 = .ok (.goto 4, 3) := by decide +kernel
theorem dX7_fills_44 : decode cX7_fills 44 = .ok (.iload_n 1, 1) := by decide +kernel
theorem dX7_fills_45 : decode cX7_fills 45 = .ok (.invokevirtual 69, 3) := by decide +kernel
theorem dX7_fills_48 : decode cX7_fills 48 = .ok (.ireturn, 1) := by decide +kernel
theorem dX7_fills_49 : decode cX7_fills 49 = .ok (.aload_n 0, 1) := by decide +kernel
theorem dX7_fills_50 : decode cX7_fills 50 = .ok (.iload_n 1, 1) := by decide +kernel
theorem dX7_fills_51 : decode cX7_fills 51 = .ok (.invokevirtual 69, 3) := by decide +kernel
theorem dX7_fills_54 : decode cX7_fills 54 = .ok (.ifCond .ne 11, 3) := by decide +kernel
theorem dX7_fills_57 : decode cX7_fills 57 = .ok (.aload_n 0, 1) := by decide +kernel
theorem dX7_fills_58 : decode cX7_fills 58 = .ok (.iload_n 2, 1) := by decide +kernel
theorem dX7_fills_59 : decode cX7_fills 59 = .ok (.invokevirtual 69, 3) := by decide +kernel
theorem dX7_fills_62 : decode cX7_fills 62 = .ok (.ifCond .eq 7, 3) := by decide +kernel
theorem dX7_fills_65 : decode cX7_fills 65 = .ok (.iconst 1, 1) := by decide +kernel
theorem dX7_fills_66 : decode cX7_fills 66 = .ok (.goto 4, 3) := by decide +kernel
theorem dX7_fills_69 : decode cX7_fills 69 = .ok (.iconst 0, 1) := by decide +kernel
theorem dX7_fills_70 : decode cX7_fills 70 = .ok (.ireturn, 1) := by decide +kernel
theorem dX7_fills_71 : decode cX7_fills 71 = .ok (.aload_n 0, 1) := by decide +kernel
theorem dX7_fills_72 : decode cX7_fills 72 = .ok (.iload_n 1, 1) := by decide +kernel
theorem dX7_fills_73 : decode cX7_fills 73 = .ok (.aload_n 0, 1) := by decide +kernel
theorem dX7_fills_74 : decode cX7_fills 74 = .ok (.iload_n 2, 1) := by decide +kernel
theorem dX7_fills_75 : decode cX7_fills 75 = .ok (.iload_n 3, 1) := by decide +kernel
theorem dX7_fills_76 : decode cX7_fills 76 = .ok (.iadd, 1) := by decide +kernel
theorem dX7_fills_77 : decode cX7_fills 77 = .ok (.invokevirtual 72, 3) := by decide +kernel
theorem dX7_fills_80 : decode cX7_fills 80 = .ok (.iadd, 1) := by decide +kernel
theorem dX7_fills_81 : decode cX7_fills 81 = .ok (.invokevirtual 69, 3) := by decide +kernel
theorem dX7_fills_84 : decode cX7_fills 84 = .ok (.ireturn, 1) := by decide +kernel
theorem dX7_isLine_0 : decode cX7_isLine 0 = .ok (.aload_n 0, 1) := by decide +kernel
theorem dX7_isLine_1 : decode cX7_isLine 1 = .ok (.getfield 18, 3) := by decide +kernel
theorem dX7_isLine_4 : decode cX7_isLine 4 = .ok (.ifCond .le 16, 3) := by decide +kernel
theorem dX7_isLine_7 : decode cX7_isLine 7 = .ok (.iload_n 1, 1) := by decide +kernel
theorem dX7_isLine_8 : decode cX7_isLine 8 = .ok (.aload_n 0, 1) := by decide +kernel
theorem dX7_isLine_9 : decode cX7_isLine 9 = .ok (.getfield 18, 3) := by decide +kernel
theorem dX7_isLine_12 : decode cX7_isLine 12 = .ok (.irem, 1) := by decide +kernel
theorem dX7_isLine_13 : decode cX7_isLine 13 = .ok (.ifCond .ne 7, 3) := by decide +kernel
theorem dX7_isLine_16 : decode cX7_isLine 16 = .ok (.iconst 1, 1) := by decide +kernel
theorem dX7_isLine_17 : decode cX7_isLine 17 = .ok (.goto 4, 3) := by decide +kernel
theorem dX7_isLine_20 : decode cX7_isLine 20 = .ok (.iconst 0, 1) := by decide +kernel
theorem dX7_isLine_21 : decode cX7_isLine 21 = .ok (.ireturn, 1) := by decide +kernel
theorem dX7_waveAt_0 : decode cX7_waveAt 0 = .ok (.iconst 2, 1) := by decide +kernel
theorem dX7_waveAt_1 : decode cX7_waveAt 1 = .ok (.aload_n 0, 1) := by decide +kernel
theorem dX7_waveAt_2 : decode cX7_waveAt 2 = .ok (.getfield 18, 3) := by decide +kernel
theorem dX7_waveAt_5 : decode cX7_waveAt 5 = .ok (.imul, 1) := by decide +kernel
theorem dX7_waveAt_6 : decode cX7_waveAt 6 = .ok (.istore_n 2, 1) := by decide +kernel
theorem dX7_waveAt_7 : decode cX7_waveAt 7 = .ok (.iload_n 2, 1) := by decide +kernel
theorem dX7_waveAt_8 : decode cX7_waveAt 8 = .ok (.ifCond .le 17, 3) := by decide +kernel
theorem dX7_waveAt_11 : decode cX7_waveAt 11 = .ok (.aload_n 0, 1) := by decide +kernel
theorem dX7_waveAt_12 : decode cX7_waveAt 12 = .ok (.getfield 18, 3) := by decide +kernel
theorem dX7_waveAt_15 : decode cX7_waveAt 15 = .ok (.iload_n 1, 1) := by decide +kernel
theorem dX7_waveAt_16 : decode cX7_waveAt 16 = .ok (.iload_n 2, 1) := by decide +kernel
theorem dX7_waveAt_17 : decode cX7_waveAt 17 = .ok (.irem, 1) := by decide +kernel
theorem dX7_waveAt_18 : decode cX7_waveAt 18 = .ok (.isub, 1) := by decide +kernel
theorem dX7_waveAt_19 : decode cX7_waveAt 19 = .ok (.invokestatic 75, 3) := by decide +kernel
theorem dX7_waveAt_22 : decode cX7_waveAt 22 = .ok (.goto 4, 3) := by decide +kernel
theorem dX7_waveAt_25 : decode cX7_waveAt 25 = .ok (.iconst 0, 1) := by decide +kernel
theorem dX7_waveAt_26 : decode cX7_waveAt 26 = .ok (.ireturn, 1) := by decide +kernel
theorem dX8_init_0 : decode cX8_init 0 = .ok (.aload_n 0, 1) := by decide +kernel
theorem dX8_init_1 : decode cX8_init 1 = .ok (.invokespecial 3, 3) := by decide +kernel
theorem dX8_init_4 : decode cX8_init 4 = .ok (.aload_n 0, 1) := by decide +kernel
theorem dX8_init_5 : decode cX8_init 5 = .ok (.aload_n 1, 1) := by decide +kernel
theorem dX8_init_6 : decode cX8_init 6 = .ok (.putfield 9, 3) := by decide +kernel
theorem dX8_init_9 : decode cX8_init 9 = .ok (.aload_n 0, 1) := by decide +kernel
theorem dX8_init_10 : decode cX8_init 10 = .ok (.sipush 144, 3) := by decide +kernel
theorem dX8_init_13 : decode cX8_init 13 = .ok (.newarray .char, 2) := by decide +kernel
theorem dX8_init_15 : decode cX8_init 15 = .ok (.putfield 15, 3) := by decide +kernel
theorem dX8_init_18 : decode cX8_init 18 = .ok (.aload_n 0, 1) := by decide +kernel
theorem dX8_init_19 : decode cX8_init 19 = .ok (.sipush 144, 3) := by decide +kernel
theorem dX8_init_22 : decode cX8_init 22 = .ok (.newarray .int, 2) := by decide +kernel
theorem dX8_init_24 : decode cX8_init 24 = .ok (.putfield 19, 3) := by decide +kernel
theorem dX8_init_27 : decode cX8_init 27 = .ok (.aload_n 0, 1) := by decide +kernel
theorem dX8_init_28 : decode cX8_init 28 = .ok (.sipush 144, 3) := by decide +kernel
theorem dX8_init_31 : decode cX8_init 31 = .ok (.newarray .int, 2) := by decide +kernel
theorem dX8_init_33 : decode cX8_init 33 = .ok (.putfield 23, 3) := by decide +kernel
theorem dX8_init_36 : decode cX8_init 36 = .ok (.aload_n 0, 1) := by decide +kernel
theorem dX8_init_37 : decode cX8_init 37 = .ok (.sipush 144, 3) := by decide +kernel
theorem dX8_init_40 : decode cX8_init 40 = .ok (.newarray .int, 2) := by decide +kernel
theorem dX8_init_42 : decode cX8_init 42 = .ok (.putfield 26, 3) := by decide +kernel
theorem dX8_init_45 : decode cX8_init 45 = .ok (.aload_n 0, 1) := by decide +kernel
theorem dX8_init_46 : decode cX8_init 46 = .ok (.sipush 144, 3) := by decide +kernel
theorem dX8_init_49 : decode cX8_init 49 = .ok (.newarray .int, 2) := by decide +kernel
theorem dX8_init_51 : decode cX8_init 51 = .ok (.putfield 29, 3) := by decide +kernel
theorem dX8_init_54 : decode cX8_init 54 = .ok (.return_, 1) := by decide +kernel
theorem dX8_collect_0 : decode cX8_collect 0 = .ok (.aload_n 0, 1) := by decide +kernel
theorem dX8_collect_1 : decode cX8_collect 1 = .ok (.iconst 0, 1) := by decide +kernel
theorem dX8_collect_2 : decode cX8_collect 2 = .ok (.putfield 32, 3) := by decide +kernel
theorem dX8_collect_5 : decode cX8_collect 5 = .ok (.iconst 0, 1) := by decide +kernel
theorem dX8_collect_6 : decode cX8_collect 6 = .ok (.istore_n 2, 1) := by decide +kernel
theorem dX8_collect_7 : decode cX8_collect 7 = .ok (.iload_n 2, 1) := by decide +kernel
theorem dX8_collect_8 : decode cX8_collect 8 = .ok (.getstatic 36, 3) := by decide +kernel
theorem dX8_collect_11 : decode cX8_collect 11 = .ok (.arraylength, 1) := by decide +kernel
theorem dX8_collect_12 : decode cX8_collect 12 = .ok (.if_icmp .ge 34, 3) := by decide +kernel
theorem dX8_collect_15 : decode cX8_collect 15 = .ok (.iconst 0, 1) := by decide +kernel
theorem dX8_collect_16 : decode cX8_collect 16 = .ok (.istore_n 3, 1) := by decide +kernel
theorem dX8_collect_17 : decode cX8_collect 17 = .ok (.iload_n 3, 1) := by decide +kernel
theorem dX8_collect_18 : decode cX8_collect 18 = .ok (.bipush 12, 2) := by decide +kernel
theorem dX8_collect_20 : decode cX8_collect 20 = .ok (.if_icmp .ge 20, 3) := by decide +kernel
theorem dX8_collect_23 : decode cX8_collect 23 = .ok (.aload_n 0, 1) := by decide +kernel
theorem dX8_collect_24 : decode cX8_collect 24 = .ok (.getstatic 36, 3) := by decide +kernel
theorem dX8_collect_27 : decode cX8_collect 27 = .ok (.iload_n 2, 1) := by decide +kernel
theorem dX8_collect_28 : decode cX8_collect 28 = .ok (.caload, 1) := by decide +kernel
theorem dX8_collect_29 : decode cX8_collect 29 = .ok (.iload_n 3, 1) := by decide +kernel
theorem dX8_collect_30 : decode cX8_collect 30 = .ok (.iload_n 1, 1) := by decide +kernel
theorem dX8_collect_31 : decode cX8_collect 31 = .ok (.invokevirtual 39, 3) := by decide +kernel
theorem dX8_collect_34 : decode cX8_collect 34 = .ok (.iinc 3 1, 3) := by decide +kernel
theorem dX8_collect_37 : decode cX8_collect 37 = .ok (.goto (-20), 3) := by decide +kernel
theorem dX8_collect_40 : decode cX8_collect 40 = .ok (.iinc 2 1, 3) := by decide +kernel
theorem dX8_collect_43 : decode cX8_collect 43 = .ok (.goto (-36), 3) := by decide +kernel
theorem dX8_collect_46 : decode cX8_collect 46 = .ok (.return_, 1) := by decide +kernel
theorem dX8_collectRow_0 : decode cX8_collectRow 0 = .ok (.iconst (-1), 1) := by decide +kernel
theorem dX8_collectRow_1 : decode cX8_collectRow 1 = .ok (.istore 4, 2) := by decide +kernel
theorem dX8_collectRow_3 : decode cX8_collectRow 3 = .ok (.iconst 0, 1) := by decide +kernel
theorem dX8_collectRow_4 : decode cX8_collectRow 4 = .ok (.istore 5, 2) := by decide +kernel
theorem dX8_collectRow_6 : decode cX8_collectRow 6 = .ok (.iload 5, 2) := by decide +kernel
theorem dX8_collectRow_8 : decode cX8_collectRow 8 = .ok (.bipush 12, 2) := by decide +kernel
theorem dX8_collectRow_10 : decode cX8_collectRow 10 = .ok (.if_icmp .gt 71, 3) := by decide +kernel
theorem dX8_collectRow_13 : decode cX8_collectRow 13 = .ok (.aload_n 0, 1) := by decide +kernel
theorem dX8_collectRow_14 : decode cX8_collectRow 14 = .ok (.iload 5, 2) := by decide +kernel
theorem dX8_collectRow_16 : decode cX8_collectRow 16 = .ok (.iload_n 2, 1) := by decide +kernel
theorem dX8_collectRow_17 : decode cX8_collectRow 17 = .ok (.iload_n 3, 1) := by decide +kernel
theorem dX8_collectRow_18 : decode cX8_collectRow 18 = .ok (.invokevirtual 43, 3) := by decide +kernel
theorem dX8_collectRow_21 : decode cX8_collectRow 21 = .ok (.iload_n 1, 1) := by decide +kernel
theorem dX8_collectRow_22 : decode cX8_collectRow 22 = .ok (.if_icmp .ne 7, 3) := by decide +kernel
theorem dX8_collectRow_25 : decode cX8_collectRow 25 = .ok (.iconst 1, 1) := by decide +kernel
theorem dX8_collectRow_26 : decode cX8_collectRow 26 = .ok (.goto 4, 3) := by decide +kernel
theorem dX8_collectRow_29 : decode cX8_collectRow 29 = .ok (.iconst 0, 1) := by decide +kernel
theorem dX8_collectRow_30 : decode cX8_collectRow 30 = .ok (.istore 6, 2) := by decide +kernel
theorem dX8_collectRow_32 : decode cX8_collectRow 32 = .ok (.iload 6, 2) := by decide +kernel
theorem dX8_collectRow_34 : decode cX8_collectRow 34 = .ok (.ifCond .eq 15, 3) := by decide +kernel
theorem dX8_collectRow_37 : decode cX8_collectRow 37 = .ok (.iload 4, 2) := by decide +kernel
theorem dX8_collectRow_39 : decode cX8_collectRow 39 = .ok (.ifCond .ge 10, 3) := by decide +kernel
theorem dX8_collectRow_42 : decode cX8_collectRow 42 = .ok (.iload 5, 2) := by decide +kernel
theorem dX8_collectRow_44 : decode cX8_collectRow 44 = .ok (.istore 4, 2) := by decide +kernel
theorem dX8_collectRow_46 : decode cX8_collectRow 46 = .ok (.goto 29, 3) := by decide +kernel
theorem dX8_collectRow_49 : decode cX8_collectRow 49 = .ok (.iload 6, 2) := by decide +kernel
theorem dX8_collectRow_51 : decode cX8_collectRow 51 = .ok (.ifCond .ne 24, 3) := by decide +kernel
theorem dX8_collectRow_54 : decode cX8_collectRow 54 = .ok (.iload 4, 2) := by decide +kernel
theorem dX8_collectRow_56 : decode cX8_collectRow 56 = .ok (.ifCond .lt 19, 3) := by decide +kernel
theorem dX8_collectRow_59 : decode cX8_collectRow 59 = .ok (.aload_n 0, 1) := by decide +kernel
theorem dX8_collectRow_60 : decode cX8_collectRow 60 = .ok (.iload_n 1, 1) := by decide +kernel
theorem dX8_collectRow_61 : decode cX8_collectRow 61 = .ok (.iload 4, 2) := by decide +kernel
theorem dX8_collectRow_63 : decode cX8_collectRow 63 = .ok (.iload 5, 2) := by decide +kernel
theorem dX8_collectRow_65 : decode cX8_collectRow 65 = .ok (.iconst 1, 1) := by decide +kernel
theorem dX8_collectRow_66 : decode cX8_collectRow 66 = .ok (.isub, 1) := by decide +kernel
theorem dX8_collectRow_67 : decode cX8_collectRow 67 = .ok (.iload_n 2, 1) := by decide +kernel
theorem dX8_collectRow_68 : decode cX8_collectRow 68 = .ok (.iload_n 3, 1) := by decide +kernel
theorem dX8_collectRow_69 : decode cX8_collectRow 69 = .ok (.invokevirtual 47, 3) := by decide +kernel
theorem dX8_collectRow_72 : decode cX8_collectRow 72 = .ok (.iconst (-1), 1) := by decide +kernel
theorem dX8_collectRow_73 : decode cX8_collectRow 73 = .ok (.istore 4, 2) := by decide +kernel
theorem dX8_collectRow_75 : decode cX8_collectRow 75 = .ok (.iinc 5 1, 3) := by decide +kernel
theorem dX8_collectRow_78 : decode cX8_collectRow 78 = .ok (.goto (-72), 3) := by decide +kernel
theorem dX8_collectRow_81 : decode cX8_collectRow 81 = .ok (.return_, 1) := by decide +kernel
theorem dX8_kindOn_0 : decode cX8_kindOn 0 = .ok (.iload_n 3, 1) := by decide +kernel
theorem dX8_kindOn_1 : decode cX8_kindOn 1 = .ok (.invokestatic 51, 3) := by decide +kernel
theorem dX8_kindOn_4 : decode cX8_kindOn 4 = .ok (.ifCond .eq 16, 3) := by decide +kernel
theorem dX8_kindOn_7 : decode cX8_kindOn 7 = .ok (.aload_n 0, 1) := by decide +kernel
theorem dX8_kindOn_8 : decode cX8_kindOn 8 = .ok (.getfield 9, 3) := by decide +kernel
theorem dX8_kindOn_11 : decode cX8_kindOn 11 = .ok (.iload_n 1, 1) := by decide +kernel
theorem dX8_kindOn_12 : decode cX8_kindOn 12 = .ok (.iload_n 2, 1) := by decide +kernel
theorem dX8_kindOn_13 : decode cX8_kindOn 13 = .ok (.iload_n 3, 1) := by decide +kernel
theorem dX8_kindOn_14 : decode cX8_kindOn 14 = .ok (.invokevirtual 55, 3) := by decide +kernel
theorem dX8_kindOn_17 : decode cX8_kindOn 17 = .ok (.goto 13, 3) := by decide +kernel
theorem dX8_kindOn_20 : decode cX8_kindOn 20 = .ok (.aload_n 0, 1) := by decide +kernel
theorem dX8_kindOn_21 : decode cX8_kindOn 21 = .ok (.getfield 9, 3) := by decide +kernel
theorem dX8_kindOn_24 : decode cX8_kindOn 24 = .ok (.iload_n 2, 1) := by decide +kernel
theorem dX8_kindOn_25 : decode cX8_kindOn 25 = .ok (.iload_n 1, 1) := by decide +kernel
theorem dX8_kindOn_26 : decode cX8_kindOn 26 = .ok (.iload_n 3, 1) := by decide +kernel
theorem dX8_kindOn_27 : decode cX8_kindOn 27 = .ok (.invokevirtual 55, 3) := by decide +kernel
theorem dX8_kindOn_30 : decode cX8_kindOn 30 = .ok (.ireturn, 1) := by decide +kernel
theorem dX8_add_0 : decode cX8_add 0 = .ok (.aload_n 0, 1) := by decide +kernel
theorem dX8_add_1 : decode cX8_add 1 = .ok (.getfield 32, 3) := by decide +kernel
theorem dX8_add_4 : decode cX8_add 4 = .ok (.sipush 144, 3) := by decide +kernel
theorem dX8_add_7 : decode cX8_add 7 = .ok (.if_icmp .lt 4, 3) := by decide +kernel
theorem dX8_add_10 : decode cX8_add 10 = .ok (.return_, 1) := by decide +kernel
theorem dX8_add_11 : decode cX8_add 11 = .ok (.iload 5, 2) := by decide +kernel
theorem dX8_add_13 : decode cX8_add 13 = .ok (.invokestatic 51, 3) := by decide +kernel
theorem dX8_add_16 : decode cX8_add 16 = .ok (.istore 6, 2) := by decide +kernel
theorem dX8_add_18 : decode cX8_add 18 = .ok (.aload_n 0, 1) := by decide +kernel
theorem dX8_add_19 : decode cX8_add 19 = .ok (.getfield 15, 3) := by decide +kernel
theorem dX8_add_22 : decode cX8_add 22 = .ok (.aload_n 0, 1) := by decide +kernel
theorem dX8_add_23 : decode cX8_add 23 = .ok (.getfield 32, 3) := by decide +kernel
theorem dX8_add_26 : decode cX8_add 26 = .ok (.iload_n 1, 1) := by decide +kernel
theorem dX8_add_27 : decode cX8_add 27 = .ok (.castore, 1) := by decide +kernel
theorem dX8_add_28 : decode cX8_add 28 = .ok (.aload_n 0, 1) := by decide +kernel
theorem dX8_add_29 : decode cX8_add 29 = .ok (.getfield 19, 3) := by decide +kernel
theorem dX8_add_32 : decode cX8_add 32 = .ok (.aload_n 0, 1) := by decide +kernel
theorem dX8_add_33 : decode cX8_add 33 = .ok (.getfield 32, 3) := by decide +kernel
theorem dX8_add_36 : decode cX8_add 36 = .ok (.iload 6, 2) := by decide +kernel
theorem dX8_add_38 : decode cX8_add 38 = .ok (.ifCond .eq 7, 3) := by decide +kernel
theorem dX8_add_41 : decode cX8_add 41 = .ok (.iload_n 2, 1) := by decide +kernel
theorem dX8_add_42 : decode cX8_add 42 = .ok (.goto 5, 3) := by decide +kernel
theorem dX8_add_45 : decode cX8_add 45 = .ok (.iload 4, 2) := by decide +kernel
theorem dX8_add_47 : decode cX8_add 47 = .ok (.iastore, 1) := by decide +kernel
theorem dX8_add_48 : decode cX8_add 48 = .ok (.aload_n 0, 1) := by decide +kernel
theorem dX8_add_49 : decode cX8_add 49 = .ok (.getfield 23, 3) := by decide +kernel
theorem dX8_add_52 : decode cX8_add 52 = .ok (.aload_n 0, 1) := by decide +kernel
theorem dX8_add_53 : decode cX8_add 53 = .ok (.getfield 32, 3) := by decide +kernel
theorem dX8_add_56 : decode cX8_add 56 = .ok (.iload 6, 2) := by decide +kernel
theorem dX8_add_58 : decode cX8_add 58 = .ok (.ifCond .eq 8, 3) := by decide +kernel
theorem dX8_add_61 : decode cX8_add 61 = .ok (.iload 4, 2) := by decide +kernel
theorem dX8_add_63 : decode cX8_add 63 = .ok (.goto 4, 3) := by decide +kernel
theorem dX8_add_66 : decode cX8_add 66 = .ok (.iload_n 2, 1) := by decide +kernel
theorem dX8_add_67 : decode cX8_add 67 = .ok (.iastore, 1) := by decide +kernel
theorem dX8_add_68 : decode cX8_add 68 = .ok (.aload_n 0, 1) := by decide +kernel
theorem dX8_add_69 : decode cX8_add 69 = .ok (.getfield 26, 3) := by decide +kernel
theorem dX8_add_72 : decode cX8_add 72 = .ok (.aload_n 0, 1) := by decide +kernel
theorem dX8_add_73 : decode cX8_add 73 = .ok (.getfield 32, 3) := by decide +kernel
theorem dX8_add_76 : decode cX8_add 76 = .ok (.iload 6, 2) := by decide +kernel
theorem dX8_add_78 : decode cX8_add 78 = .ok (.ifCond .eq 7, 3) := by decide +kernel
theorem dX8_add_81 : decode cX8_add 81 = .ok (.iload_n 3, 1) := by decide +kernel
theorem dX8_add_82 : decode cX8_add 82 = .ok (.goto 5, 3) := by decide +kernel
theorem dX8_add_85 : decode cX8_add 85 = .ok (.iload 4, 2) := by decide +kernel
theorem dX8_add_87 : decode cX8_add 87 = .ok (.iastore, 1) := by decide +kernel
theorem dX8_add_88 : decode cX8_add 88 = .ok (.aload_n 0, 1) := by decide +kernel
theorem dX8_add_89 : decode cX8_add 89 = .ok (.getfield 29, 3) := by decide +kernel
theorem dX8_add_92 : decode cX8_add 92 = .ok (.aload_n 0, 1) := by decide +kernel
theorem dX8_add_93 : decode cX8_add 93 = .ok (.getfield 32, 3) := by decide +kernel
theorem dX8_add_96 : decode cX8_add 96 = .ok (.iload 6, 2) := by decide +kernel
theorem dX8_add_98 : decode cX8_add 98 = .ok (.ifCond .eq 8, 3) := by decide +kernel
theorem dX8_add_101 : decode cX8_add 101 = .ok (.iload 4, 2) := by decide +kernel
theorem dX8_add_103 : decode cX8_add 103 = .ok (.goto 4, 3) := by decide +kernel
theorem dX8_add_106 : decode cX8_add 106 = .ok (.iload_n 3, 1) := by decide +kernel
theorem dX8_add_107 : decode cX8_add 107 = .ok (.iastore, 1) := by decide +kernel
theorem dX8_add_108 : decode cX8_add 108 = .ok (.aload_n 0, 1) := by decide +kernel
theorem dX8_add_109 : decode cX8_add 109 = .ok (.dup, 1) := by decide +kernel
theorem dX8_add_110 : decode cX8_add 110 = .ok (.getfield 32, 3) := by decide +kernel
theorem dX8_add_113 : decode cX8_add 113 = .ok (.iconst 1, 1) := by decide +kernel
theorem dX8_add_114 : decode cX8_add 114 = .ok (.iadd, 1) := by decide +kernel
theorem dX8_add_115 : decode cX8_add 115 = .ok (.putfield 32, 3) := by decide +kernel
theorem dX8_add_118 : decode cX8_add 118 = .ok (.return_, 1) := by decide +kernel
theorem dX8_size_0 : decode cX8_size 0 = .ok (.aload_n 0, 1) := by decide +kernel
theorem dX8_size_1 : decode cX8_size 1 = .ok (.getfield 32, 3) := by decide +kernel
theorem dX8_size_4 : decode cX8_size 4 = .ok (.ireturn, 1) := by decide +kernel
theorem dX8_countCells_0 : decode cX8_countCells 0 = .ok (.iconst 0, 1) := by decide +kernel
theorem dX8_countCells_1 : decode cX8_countCells 1 = .ok (.istore_n 1, 1) := by decide +kernel
theorem dX8_countCells_2 : decode cX8_countCells 2 = .ok (.iconst 0, 1) := by decide +kernel
theorem dX8_countCells_3 : decode cX8_countCells 3 = .ok (.istore_n 2, 1) := by decide +kernel
theorem dX8_countCells_4 : decode cX8_countCells 4 = .ok (.iload_n 2, 1) := by decide +kernel
theorem dX8_countCells_5 : decode cX8_countCells 5 = .ok (.aload_n 0, 1) := by decide +kernel
theorem dX8_countCells_6 : decode cX8_countCells 6 = .ok (.getfield 32, 3) := by decide +kernel
theorem dX8_countCells_9 : decode cX8_countCells 9 = .ok (.if_icmp .ge 41, 3) := by decide +kernel
theorem dX8_countCells_12 : decode cX8_countCells 12 = .ok (.iload_n 1, 1) := by decide +kernel
theorem dX8_countCells_13 : decode cX8_countCells 13 = .ok (.aload_n 0, 1) := by decide +kernel
theorem dX8_countCells_14 : decode cX8_countCells 14 = .ok (.iload_n 2, 1) := by decide +kernel
theorem dX8_countCells_15 : decode cX8_countCells 15 = .ok (.iconst 1, 1) := by decide +kernel
theorem dX8_countCells_16 : decode cX8_countCells 16 = .ok (.invokevirtual 60, 3) := by decide +kernel
theorem dX8_countCells_19 : decode cX8_countCells 19 = .ok (.aload_n 0, 1) := by decide +kernel
theorem dX8_countCells_20 : decode cX8_countCells 20 = .ok (.iload_n 2, 1) := by decide +kernel
theorem dX8_countCells_21 : decode cX8_countCells 21 = .ok (.iconst 1, 1) := by decide +kernel
theorem dX8_countCells_22 : decode cX8_countCells 22 = .ok (.invokevirtual 64, 3) := by decide +kernel
theorem dX8_countCells_25 : decode cX8_countCells 25 = .ok (.aload_n 0, 1) := by decide +kernel
theorem dX8_countCells_26 : decode cX8_countCells 26 = .ok (.iload_n 2, 1) := by decide +kernel
theorem dX8_countCells_27 : decode cX8_countCells 27 = .ok (.iconst 0, 1) := by decide +kernel
theorem dX8_countCells_28 : decode cX8_countCells 28 = .ok (.invokevirtual 60, 3) := by decide +kernel
theorem dX8_countCells_31 : decode cX8_countCells 31 = .ok (.aload_n 0, 1) := by decide +kernel
theorem dX8_countCells_32 : decode cX8_countCells 32 = .ok (.iload_n 2, 1) := by decide +kernel
theorem dX8_countCells_33 : decode cX8_countCells 33 = .ok (.iconst 0, 1) := by decide +kernel
theorem dX8_countCells_34 : decode cX8_countCells 34 = .ok (.invokevirtual 64, 3) := by decide +kernel
theorem dX8_countCells_37 : decode cX8_countCells 37 = .ok (.invokestatic 67, 3) := by decide +kernel
theorem dX8_countCells_40 : decode cX8_countCells 40 = .ok (.iconst 1, 1) := by decide +kernel
theorem dX8_countCells_41 : decode cX8_countCells 41 = .ok (.iadd, 1) := by decide +kernel
theorem dX8_countCells_42 : decode cX8_countCells 42 = .ok (.iadd, 1) := by decide +kernel
theorem dX8_countCells_43 : decode cX8_countCells 43 = .ok (.istore_n 1, 1) := by decide +kernel
theorem dX8_countCells_44 : decode cX8_countCells 44 = .ok (.iinc 2 1, 3) := by decide +kernel
theorem dX8_countCells_47 : decode cX8_countCells 47 = .ok (.goto (-43), 3) := by decide +kernel
theorem dX8_countCells_50 : decode cX8_countCells 50 = .ok (.iload_n 1, 1) := by decide +kernel
theorem dX8_countCells_51 : decode cX8_countCells 51 = .ok (.ireturn, 1) := by decide +kernel
theorem dX8_kindOf_0 : decode cX8_kindOf 0 = .ok (.aload_n 0, 1) := by decide +kernel
theorem dX8_kindOf_1 : decode cX8_kindOf 1 = .ok (.iload_n 1, 1) := by decide +kernel
theorem dX8_kindOf_2 : decode cX8_kindOf 2 = .ok (.invokevirtual 71, 3) := by decide +kernel
theorem dX8_kindOf_5 : decode cX8_kindOf 5 = .ok (.ifCond .eq 12, 3) := by decide +kernel
theorem dX8_kindOf_8 : decode cX8_kindOf 8 = .ok (.aload_n 0, 1) := by decide +kernel
theorem dX8_kindOf_9 : decode cX8_kindOf 9 = .ok (.getfield 15, 3) := by decide +kernel
theorem dX8_kindOf_12 : decode cX8_kindOf 12 = .ok (.iload_n 1, 1) := by decide +kernel
theorem dX8_kindOf_13 : decode cX8_kindOf 13 = .ok (.caload, 1) := by decide +kernel
theorem dX8_kindOf_14 : decode cX8_kindOf 14 = .ok (.goto 5, 3) := by decide +kernel
theorem dX8_kindOf_17 : decode cX8_kindOf 17 = .ok (.bipush 46, 2) := by decide +kernel
theorem dX8_kindOf_19 : decode cX8_kindOf 19 = .ok (.ireturn, 1) := by decide +kernel
theorem dX8_endX_0 : decode cX8_endX 0 = .ok (.aload_n 0, 1) := by decide +kernel
theorem dX8_endX_1 : decode cX8_endX 1 = .ok (.iload_n 1, 1) := by decide +kernel
theorem dX8_endX_2 : decode cX8_endX 2 = .ok (.invokevirtual 71, 3) := by decide +kernel
theorem dX8_endX_5 : decode cX8_endX 5 = .ok (.ifCond .ne 5, 3) := by decide +kernel
theorem dX8_endX_8 : decode cX8_endX 8 = .ok (.iconst 0, 1) := by decide +kernel
theorem dX8_endX_9 : decode cX8_endX 9 = .ok (.ireturn, 1) := by decide +kernel
theorem dX8_endX_10 : decode cX8_endX 10 = .ok (.iload_n 2, 1) := by decide +kernel
theorem dX8_endX_11 : decode cX8_endX 11 = .ok (.ifCond .eq 12, 3) := by decide +kernel
theorem dX8_endX_14 : decode cX8_endX 14 = .ok (.aload_n 0, 1) := by decide +kernel
theorem dX8_endX_15 : decode cX8_endX 15 = .ok (.getfield 19, 3) := by decide +kernel
theorem dX8_endX_18 : decode cX8_endX 18 = .ok (.iload_n 1, 1) := by decide +kernel
theorem dX8_endX_19 : decode cX8_endX 19 = .ok (.iaload, 1) := by decide +kernel
theorem dX8_endX_20 : decode cX8_endX 20 = .ok (.goto 9, 3) := by decide +kernel
theorem dX8_endX_23 : decode cX8_endX 23 = .ok (.aload_n 0, 1) := by decide +kernel
theorem dX8_endX_24 : decode cX8_endX 24 = .ok (.getfield 26, 3) := by decide +kernel
theorem dX8_endX_27 : decode cX8_endX 27 = .ok (.iload_n 1, 1) := by decide +kernel
theorem dX8_endX_28 : decode cX8_endX 28 = .ok (.iaload, 1) := by decide +kernel
theorem dX8_endX_29 : decode cX8_endX 29 = .ok (.ireturn, 1) := by decide +kernel
theorem dX8_endY_0 : decode cX8_endY 0 = .ok (.aload_n 0, 1) := by decide +kernel
theorem dX8_endY_1 : decode cX8_endY 1 = .ok (.iload_n 1, 1) := by decide +kernel
theorem dX8_endY_2 : decode cX8_endY 2 = .ok (.invokevirtual 71, 3) := by decide +kernel
theorem dX8_endY_5 : decode cX8_endY 5 = .ok (.ifCond .ne 5, 3) := by decide +kernel
theorem dX8_endY_8 : decode cX8_endY 8 = .ok (.iconst 0, 1) := by decide +kernel
theorem dX8_endY_9 : decode cX8_endY 9 = .ok (.ireturn, 1) := by decide +kernel
theorem dX8_endY_10 : decode cX8_endY 10 = .ok (.iload_n 2, 1) := by decide +kernel
theorem dX8_endY_11 : decode cX8_endY 11 = .ok (.ifCond .eq 12, 3) := by decide +kernel
theorem dX8_endY_14 : decode cX8_endY 14 = .ok (.aload_n 0, 1) := by decide +kernel
theorem dX8_endY_15 : decode cX8_endY 15 = .ok (.getfield 23, 3) := by decide +kernel
theorem dX8_endY_18 : decode cX8_endY 18 = .ok (.iload_n 1, 1) := by decide +kernel
theorem dX8_endY_19 : decode cX8_endY 19 = .ok (.iaload, 1) := by decide +kernel
theorem dX8_endY_20 : decode cX8_endY 20 = .ok (.goto 9, 3) := by decide +kernel
theorem dX8_endY_23 : decode cX8_endY 23 = .ok (.aload_n 0, 1) := by decide +kernel
theorem dX8_endY_24 : decode cX8_endY 24 = .ok (.getfield 29, 3) := by decide +kernel
theorem dX8_endY_27 : decode cX8_endY 27 = .ok (.iload_n 1, 1) := by decide +kernel
theorem dX8_endY_28 : decode cX8_endY 28 = .ok (.iaload, 1) := by decide +kernel
theorem dX8_endY_29 : decode cX8_endY 29 = .ok (.ireturn, 1) := by decide +kernel
theorem dX8_has_0 : decode cX8_has 0 = .ok (.iload_n 1, 1) := by decide +kernel
theorem dX8_has_1 : decode cX8_has 1 = .ok (.ifCond .lt 22, 3) := by decide +kernel
theorem dX8_has_4 : decode cX8_has 4 = .ok (.iload_n 1, 1) := by decide +kernel
theorem dX8_has_5 : decode cX8_has 5 = .ok (.aload_n 0, 1) := by decide +kernel
theorem dX8_has_6 : decode cX8_has 6 = .ok (.getfield 32, 3) := by decide +kernel
theorem dX8_has_9 : decode cX8_has 9 = .ok (.if_icmp .ge 14, 3) := by decide +kernel
theorem dX8_has_12 : decode cX8_has 12 = .ok (.iload_n 1, 1) := by decide +kernel
theorem dX8_has_13 : decode cX8_has 13 = .ok (.sipush 144, 3) := by decide +kernel
theorem dX8_has_16 : decode cX8_has 16 = .ok (.if_icmp .ge 7, 3) := by decide +kernel
theorem dX8_has_19 : decode cX8_has 19 = .ok (.iconst 1, 1) := by decide +kernel
theorem dX8_has_20 : decode cX8_has 20 = .ok (.goto 4, 3) := by decide +kernel
theorem dX8_has_23 : decode cX8_has 23 = .ok (.iconst 0, 1) := by decide +kernel
theorem dX8_has_24 : decode cX8_has 24 = .ok (.ireturn, 1) := by decide +kernel
theorem dX9_init_0 : decode cX9_init 0 = .ok (.aload_n 0, 1) := by decide +kernel
theorem dX9_init_1 : decode cX9_init 1 = .ok (.invokespecial 3, 3) := by decide +kernel
theorem dX9_init_4 : decode cX9_init 4 = .ok (.aload_n 0, 1) := by decide +kernel
theorem dX9_init_5 : decode cX9_init 5 = .ok (.new 9, 3) := by decide +kernel
theorem dX9_init_8 : decode cX9_init 8 = .ok (.dup, 1) := by decide +kernel
theorem dX9_init_9 : decode cX9_init 9 = .ok (.invokespecial 11, 3) := by decide +kernel
theorem dX9_init_12 : decode cX9_init 12 = .ok (.putfield 12, 3) := by decide +kernel
theorem dX9_init_15 : decode cX9_init 15 = .ok (.aload_n 0, 1) := by decide +kernel
theorem dX9_init_16 : decode cX9_init 16 = .ok (.new 16, 3) := by decide +kernel
theorem dX9_init_19 : decode cX9_init 19 = .ok (.dup, 1) := by decide +kernel
theorem dX9_init_20 : decode cX9_init 20 = .ok (.invokespecial 18, 3) := by decide +kernel
theorem dX9_init_23 : decode cX9_init 23 = .ok (.putfield 19, 3) := by decide +kernel
theorem dX9_init_26 : decode cX9_init 26 = .ok (.aload_n 0, 1) := by decide +kernel
theorem dX9_init_27 : decode cX9_init 27 = .ok (.new 23, 3) := by decide +kernel
theorem dX9_init_30 : decode cX9_init 30 = .ok (.dup, 1) := by decide +kernel
theorem dX9_init_31 : decode cX9_init 31 = .ok (.aload_n 0, 1) := by decide +kernel
theorem dX9_init_32 : decode cX9_init 32 = .ok (.getfield 12, 3) := by decide +kernel
theorem dX9_init_35 : decode cX9_init 35 = .ok (.aload_n 0, 1) := by decide +kernel
theorem dX9_init_36 : decode cX9_init 36 = .ok (.getfield 19, 3) := by decide +kernel
theorem dX9_init_39 : decode cX9_init 39 = .ok (.invokespecial 25, 3) := by decide +kernel
theorem dX9_init_42 : decode cX9_init 42 = .ok (.putfield 28, 3) := by decide +kernel
theorem dX9_init_45 : decode cX9_init 45 = .ok (.aload_n 0, 1) := by decide +kernel
theorem dX9_init_46 : decode cX9_init 46 = .ok (.new 32, 3) := by decide +kernel
theorem dX9_init_49 : decode cX9_init 49 = .ok (.dup, 1) := by decide +kernel
theorem dX9_init_50 : decode cX9_init 50 = .ok (.aload_n 0, 1) := by decide +kernel
theorem dX9_init_51 : decode cX9_init 51 = .ok (.getfield 12, 3) := by decide +kernel
theorem dX9_init_54 : decode cX9_init 54 = .ok (.invokespecial 34, 3) := by decide +kernel
theorem dX9_init_57 : decode cX9_init 57 = .ok (.putfield 37, 3) := by decide +kernel
theorem dX9_init_60 : decode cX9_init 60 = .ok (.aload_n 0, 1) := by decide +kernel
theorem dX9_init_61 : decode cX9_init 61 = .ok (.new 41, 3) := by decide +kernel
theorem dX9_init_64 : decode cX9_init 64 = .ok (.dup, 1) := by decide +kernel
theorem dX9_init_65 : decode cX9_init 65 = .ok (.aload_n 0, 1) := by decide +kernel
theorem dX9_init_66 : decode cX9_init 66 = .ok (.getfield 28, 3) := by decide +kernel
theorem dX9_init_69 : decode cX9_init 69 = .ok (.invokespecial 43, 3) := by decide +kernel
theorem dX9_init_72 : decode cX9_init 72 = .ok (.putfield 46, 3) := by decide +kernel
theorem dX9_init_75 : decode cX9_init 75 = .ok (.aload_n 0, 1) := by decide +kernel
theorem dX9_init_76 : decode cX9_init 76 = .ok (.new 50, 3) := by decide +kernel
theorem dX9_init_79 : decode cX9_init 79 = .ok (.dup, 1) := by decide +kernel
theorem dX9_init_80 : decode cX9_init 80 = .ok (.invokespecial 52, 3) := by decide +kernel
theorem dX9_init_83 : decode cX9_init 83 = .ok (.putfield 53, 3) := by decide +kernel
theorem dX9_init_86 : decode cX9_init 86 = .ok (.aload_n 0, 1) := by decide +kernel
theorem dX9_init_87 : decode cX9_init 87 = .ok (.new 57, 3) := by decide +kernel
theorem dX9_init_90 : decode cX9_init 90 = .ok (.dup, 1) := by decide +kernel
theorem dX9_init_91 : decode cX9_init 91 = .ok (.aload_n 0, 1) := by decide +kernel
theorem dX9_init_92 : decode cX9_init 92 = .ok (.getfield 19, 3) := by decide +kernel
theorem dX9_init_95 : decode cX9_init 95 = .ok (.aload_n 0, 1) := by decide +kernel
theorem dX9_init_96 : decode cX9_init 96 = .ok (.getfield 46, 3) := by decide +kernel
theorem dX9_init_99 : decode cX9_init 99 = .ok (.aload_n 0, 1) := by decide +kernel
theorem dX9_init_100 : decode cX9_init 100 = .ok (.getfield 53, 3) := by decide +kernel
theorem dX9_init_103 : decode cX9_init 103 = .ok (.invokespecial 59, 3) := by decide +kernel
theorem dX9_init_106 : decode cX9_init 106 = .ok (.putfield 62, 3) := by decide +kernel
theorem dX9_init_109 : decode cX9_init 109 = .ok (.aload_n 0, 1) := by decide +kernel
theorem dX9_init_110 : decode cX9_init 110 = .ok (.new 66, 3) := by decide +kernel
theorem dX9_init_113 : decode cX9_init 113 = .ok (.dup, 1) := by decide +kernel
theorem dX9_init_114 : decode cX9_init 114 = .ok (.invokespecial 68, 3) := by decide +kernel
theorem dX9_init_117 : decode cX9_init 117 = .ok (.putfield 69, 3) := by decide +kernel
theorem dX9_init_120 : decode cX9_init 120 = .ok (.aload_n 0, 1) := by decide +kernel
theorem dX9_init_121 : decode cX9_init 121 = .ok (.new 73, 3) := by decide +kernel
theorem dX9_init_124 : decode cX9_init 124 = .ok (.dup, 1) := by decide +kernel
theorem dX9_init_125 : decode cX9_init 125 = .ok (.aload_n 0, 1) := by decide +kernel
theorem dX9_init_126 : decode cX9_init 126 = .ok (.getfield 53, 3) := by decide +kernel
theorem dX9_init_129 : decode cX9_init 129 = .ok (.aload_n 0, 1) := by decide +kernel
theorem dX9_init_130 : decode cX9_init 130 = .ok (.getfield 69, 3) := by decide +kernel
theorem dX9_init_133 : decode cX9_init 133 = .ok (.invokespecial 75, 3) := by decide +kernel
theorem dX9_init_136 : decode cX9_init 136 = .ok (.putfield 78, 3) := by decide +kernel
theorem dX9_init_139 : decode cX9_init 139 = .ok (.return_, 1) := by decide +kernel
theorem dX9_box_0 : decode cX9_box 0 = .ok (.iload_n 1, 1) := by decide +kernel
theorem dX9_box_1 : decode cX9_box 1 = .ok (.iload 4, 2) := by decide +kernel
theorem dX9_box_3 : decode cX9_box 3 = .ok (.invokestatic 82, 3) := by decide +kernel
theorem dX9_box_6 : decode cX9_box 6 = .ok (.ifCond .eq 21, 3) := by decide +kernel
theorem dX9_box_9 : decode cX9_box 9 = .ok (.iload_n 2, 1) := by decide +kernel
theorem dX9_box_10 : decode cX9_box 10 = .ok (.iload 5, 2) := by decide +kernel
theorem dX9_box_12 : decode cX9_box 12 = .ok (.invokestatic 82, 3) := by decide +kernel
theorem dX9_box_15 : decode cX9_box 15 = .ok (.ifCond .eq 12, 3) := by decide +kernel
theorem dX9_box_18 : decode cX9_box 18 = .ok (.iload_n 3, 1) := by decide +kernel
theorem dX9_box_19 : decode cX9_box 19 = .ok (.iload 6, 2) := by decide +kernel
theorem dX9_box_21 : decode cX9_box 21 = .ok (.invokestatic 82, 3) := by decide +kernel
theorem dX9_box_24 : decode cX9_box 24 = .ok (.ifCond .ne 13, 3) := by decide +kernel
theorem dX9_box_27 : decode cX9_box 27 = .ok (.new 86, 3) := by decide +kernel
theorem dX9_box_30 : decode cX9_box 30 = .ok (.dup, 1) := by decide +kernel
theorem dX9_box_31 : decode cX9_box 31 = .ok (.ldc 88, 2) := by decide +kernel
theorem dX9_box_33 : decode cX9_box 33 = .ok (.invokespecial 90, 3) := by decide +kernel
theorem dX9_box_36 : decode cX9_box 36 = .ok (.athrow, 1) := by decide +kernel
theorem dX9_box_37 : decode cX9_box 37 = .ok (.aload_n 0, 1) := by decide +kernel
theorem dX9_box_38 : decode cX9_box 38 = .ok (.getfield 28, 3) := by decide +kernel
theorem dX9_box_41 : decode cX9_box 41 = .ok (.invokevirtual 93, 3) := by decide +kernel
theorem dX9_box_44 : decode cX9_box 44 = .ok (.iconst 0, 1) := by decide +kernel
theorem dX9_box_45 : decode cX9_box 45 = .ok (.istore 8, 2) := by decide +kernel
theorem dX9_box_47 : decode cX9_box 47 = .ok (.iload_n 3, 1) := by decide +kernel
theorem dX9_box_48 : decode cX9_box 48 = .ok (.istore 9, 2) := by decide +kernel
theorem dX9_box_50 : decode cX9_box 50 = .ok (.iload 9, 2) := by decide +kernel
theorem dX9_box_52 : decode cX9_box 52 = .ok (.iload_n 3, 1) := by decide +kernel
theorem dX9_box_53 : decode cX9_box 53 = .ok (.iload 6, 2) := by decide +kernel
theorem dX9_box_55 : decode cX9_box 55 = .ok (.iadd, 1) := by decide +kernel
theorem dX9_box_56 : decode cX9_box 56 = .ok (.if_icmp .ge 31, 3) := by decide +kernel
theorem dX9_box_59 : decode cX9_box 59 = .ok (.iload 8, 2) := by decide +kernel
theorem dX9_box_61 : decode cX9_box 61 = .ok (.aload_n 0, 1) := by decide +kernel
theorem dX9_box_62 : decode cX9_box 62 = .ok (.getfield 12, 3) := by decide +kernel
theorem dX9_box_65 : decode cX9_box 65 = .ok (.iload_n 1, 1) := by decide +kernel
theorem dX9_box_66 : decode cX9_box 66 = .ok (.iload_n 2, 1) := by decide +kernel
theorem dX9_box_67 : decode cX9_box 67 = .ok (.iload 9, 2) := by decide +kernel
theorem dX9_box_69 : decode cX9_box 69 = .ok (.iload 4, 2) := by decide +kernel
theorem dX9_box_71 : decode cX9_box 71 = .ok (.iload 5, 2) := by decide +kernel
theorem dX9_box_73 : decode cX9_box 73 = .ok (.iload 7, 2) := by decide +kernel
theorem dX9_box_75 : decode cX9_box 75 = .ok (.invokevirtual 96, 3) := by decide +kernel
theorem dX9_box_78 : decode cX9_box 78 = .ok (.iadd, 1) := by decide +kernel
theorem dX9_box_79 : decode cX9_box 79 = .ok (.istore 8, 2) := by decide +kernel
theorem dX9_box_81 : decode cX9_box 81 = .ok (.iinc 9 1, 3) := by decide +kernel
theorem dX9_box_84 : decode cX9_box 84 = .ok (.goto (-34), 3) := by decide +kernel
theorem dX9_box_87 : decode cX9_box 87 = .ok (.iload 8, 2) := by decide +kernel
theorem dX9_box_89 : decode cX9_box 89 = .ok (.ireturn, 1) := by decide +kernel
theorem dX9_set_0 : decode cX9_set 0 = .ok (.iload_n 1, 1) := by decide +kernel
theorem dX9_set_1 : decode cX9_set 1 = .ok (.iload_n 2, 1) := by decide +kernel
theorem dX9_set_2 : decode cX9_set 2 = .ok (.invokestatic 100, 3) := by decide +kernel
theorem dX9_set_5 : decode cX9_set 5 = .ok (.ifCond .ne 13, 3) := by decide +kernel
theorem dX9_set_8 : decode cX9_set 8 = .ok (.new 86, 3) := by decide +kernel
theorem dX9_set_11 : decode cX9_set 11 = .ok (.dup, 1) := by decide +kernel
theorem dX9_set_12 : decode cX9_set 12 = .ok (.ldc 104, 2) := by decide +kernel
theorem dX9_set_14 : decode cX9_set 14 = .ok (.invokespecial 90, 3) := by decide +kernel
theorem dX9_set_17 : decode cX9_set 17 = .ok (.athrow, 1) := by decide +kernel
theorem dX9_set_18 : decode cX9_set 18 = .ok (.aload_n 0, 1) := by decide +kernel
theorem dX9_set_19 : decode cX9_set 19 = .ok (.getfield 28, 3) := by decide +kernel
theorem dX9_set_22 : decode cX9_set 22 = .ok (.invokevirtual 93, 3) := by decide +kernel
theorem dX9_set_25 : decode cX9_set 25 = .ok (.aload_n 0, 1) := by decide +kernel
theorem dX9_set_26 : decode cX9_set 26 = .ok (.getfield 19, 3) := by decide +kernel
theorem dX9_set_29 : decode cX9_set 29 = .ok (.iload_n 1, 1) := by decide +kernel
theorem dX9_set_30 : decode cX9_set 30 = .ok (.iload_n 2, 1) := by decide +kernel
theorem dX9_set_31 : decode cX9_set 31 = .ok (.invokevirtual 106, 3) := by decide +kernel
theorem dX9_set_34 : decode cX9_set 34 = .ok (.ireturn, 1) := by decide +kernel
theorem dX9_setPattern_0 : decode cX9_setPattern 0 = .ok (.iload_n 1, 1) := by decide +kernel
theorem dX9_setPattern_1 : decode cX9_setPattern 1 = .ok (.bipush 108, 2) := by decide +kernel
theorem dX9_setPattern_3 : decode cX9_setPattern 3 = .ok (.if_icmp .eq 25, 3) := by decide +kernel
theorem dX9_setPattern_6 : decode cX9_setPattern 6 = .ok (.iload_n 1, 1) := by decide +kernel
theorem dX9_setPattern_7 : decode cX9_setPattern 7 = .ok (.bipush 103, 2) := by decide +kernel
theorem dX9_setPattern_9 : decode cX9_setPattern 9 = .ok (.if_icmp .eq 19, 3) := by decide +kernel
theorem dX9_setPattern_12 : decode cX9_setPattern 12 = .ok (.iload_n 1, 1) := by decide +kernel
theorem dX9_setPattern_13 : decode cX9_setPattern 13 = .ok (.bipush 119, 2) := by decide +kernel
theorem dX9_setPattern_15 : decode cX9_setPattern 15 = .ok (.if_icmp .eq 13, 3) := by decide +kernel
theorem dX9_setPattern_18 : decode cX9_setPattern 18 = .ok (.new 86, 3) := by decide +kernel
theorem dX9_setPattern_21 : decode cX9_setPattern 21 = .ok (.dup, 1) := by decide +kernel
theorem dX9_setPattern_22 : decode cX9_setPattern 22 = .ok (.ldc 110, 2) := by decide +kernel
theorem dX9_setPattern_24 : decode cX9_setPattern 24 = .ok (.invokespecial 90, 3) := by decide +kernel
theorem dX9_setPattern_27 : decode cX9_setPattern 27 = .ok (.athrow, 1) := by decide +kernel
theorem dX9_setPattern_28 : decode cX9_setPattern 28 = .ok (.aload_n 0, 1) := by decide +kernel
theorem dX9_setPattern_29 : decode cX9_setPattern 29 = .ok (.getfield 28, 3) := by decide +kernel
theorem dX9_setPattern_32 : decode cX9_setPattern 32 = .ok (.invokevirtual 93, 3) := by decide +kernel
theorem dX9_setPattern_35 : decode cX9_setPattern 35 = .ok (.aload_n 0, 1) := by decide +kernel
theorem dX9_setPattern_36 : decode cX9_setPattern 36 = .ok (.getfield 19, 3) := by decide +kernel
theorem dX9_setPattern_39 : decode cX9_setPattern 39 = .ok (.iload_n 1, 1) := by decide +kernel
theorem dX9_setPattern_40 : decode cX9_setPattern 40 = .ok (.invokevirtual 112, 3) := by decide +kernel
theorem dX9_setPattern_43 : decode cX9_setPattern 43 = .ok (.ireturn, 1) := by decide +kernel
theorem dX9_setThickness_0 : decode cX9_setThickness 0 = .ok (.iload_n 1, 1) := by decide +kernel
theorem dX9_setThickness_1 : decode cX9_setThickness 1 = .ok (.invokestatic 116, 3) := by decide +kernel
theorem dX9_setThickness_4 : decode cX9_setThickness 4 = .ok (.iload_n 2, 1) := by decide +kernel
theorem dX9_setThickness_5 : decode cX9_setThickness 5 = .ok (.iconst 1, 1) := by decide +kernel
theorem dX9_setThickness_6 : decode cX9_setThickness 6 = .ok (.if_icmp .lt 8, 3) := by decide +kernel
theorem dX9_setThickness_9 : decode cX9_setThickness 9 = .ok (.iload_n 2, 1) := by decide +kernel
theorem dX9_setThickness_10 : decode cX9_setThickness 10 = .ok (.iconst 3, 1) := by decide +kernel
theorem dX9_setThickness_11 : decode cX9_setThickness 11 = .ok (.if_icmp .le 13, 3) := by decide +kernel
theorem dX9_setThickness_14 : decode cX9_setThickness 14 = .ok (.new 86, 3) := by decide +kernel
theorem dX9_setThickness_17 : decode cX9_setThickness 17 = .ok (.dup, 1) := by decide +kernel
theorem dX9_setThickness_18 : decode cX9_setThickness 18 = .ok (.ldc 120, 2) := by decide +kernel
theorem dX9_setThickness_20 : decode cX9_setThickness 20 = .ok (.invokespecial 90, 3) := by decide +kernel
theorem dX9_setThickness_23 : decode cX9_setThickness 23 = .ok (.athrow, 1) := by decide +kernel
theorem dX9_setThickness_24 : decode cX9_setThickness 24 = .ok (.aload_n 0, 1) := by decide +kernel
theorem dX9_setThickness_25 : decode cX9_setThickness 25 = .ok (.getfield 19, 3) := by decide +kernel
theorem dX9_setThickness_28 : decode cX9_setThickness 28 = .ok (.iload_n 1, 1) := by decide +kernel
theorem dX9_setThickness_29 : decode cX9_setThickness 29 = .ok (.iload_n 2, 1) := by decide +kernel
theorem dX9_setThickness_30 : decode cX9_setThickness 30 = .ok (.invokevirtual 122, 3) := by decide +kernel
theorem dX9_setThickness_33 : decode cX9_setThickness 33 = .ok (.ireturn, 1) := by decide +kernel
theorem dX9_setPause_0 : decode cX9_setPause 0 = .ok (.iload_n 1, 1) := by decide +kernel
theorem dX9_setPause_1 : decode cX9_setPause 1 = .ok (.invokestatic 116, 3) := by decide +kernel
theorem dX9_setPause_4 : decode cX9_setPause 4 = .ok (.aload_n 0, 1) := by decide +kernel
theorem dX9_setPause_5 : decode cX9_setPause 5 = .ok (.getfield 19, 3) := by decide +kernel
theorem dX9_setPause_8 : decode cX9_setPause 8 = .ok (.iload_n 1, 1) := by decide +kernel
theorem dX9_setPause_9 : decode cX9_setPause 9 = .ok (.iload_n 2, 1) := by decide +kernel
theorem dX9_setPause_10 : decode cX9_setPause 10 = .ok (.invokevirtual 126, 3) := by decide +kernel
theorem dX9_setPause_13 : decode cX9_setPause 13 = .ok (.ireturn, 1) := by decide +kernel
theorem dX9_kindAt_0 : decode cX9_kindAt 0 = .ok (.iload_n 1, 1) := by decide +kernel
theorem dX9_kindAt_1 : decode cX9_kindAt 1 = .ok (.iload_n 2, 1) := by decide +kernel
theorem dX9_kindAt_2 : decode cX9_kindAt 2 = .ok (.iload_n 3, 1) := by decide +kernel
theorem dX9_kindAt_3 : decode cX9_kindAt 3 = .ok (.invokestatic 130, 3) := by decide +kernel
theorem dX9_kindAt_6 : decode cX9_kindAt 6 = .ok (.aload_n 0, 1) := by decide +kernel
theorem dX9_kindAt_7 : decode cX9_kindAt 7 = .ok (.getfield 28, 3) := by decide +kernel
theorem dX9_kindAt_10 : decode cX9_kindAt 10 = .ok (.iload_n 3, 1) := by decide +kernel
theorem dX9_kindAt_11 : decode cX9_kindAt 11 = .ok (.invokevirtual 134, 3) := by decide +kernel
theorem dX9_kindAt_14 : decode cX9_kindAt 14 = .ok (.aload_n 0, 1) := by decide +kernel
theorem dX9_kindAt_15 : decode cX9_kindAt 15 = .ok (.getfield 28, 3) := by decide +kernel
theorem dX9_kindAt_18 : decode cX9_kindAt 18 = .ok (.iload_n 1, 1) := by decide +kernel
theorem dX9_kindAt_19 : decode cX9_kindAt 19 = .ok (.iload_n 2, 1) := by decide +kernel
theorem dX9_kindAt_20 : decode cX9_kindAt 20 = .ok (.iload_n 3, 1) := by decide +kernel
theorem dX9_kindAt_21 : decode cX9_kindAt 21 = .ok (.invokevirtual 137, 3) := by decide +kernel
theorem dX9_kindAt_24 : decode cX9_kindAt 24 = .ok (.ireturn, 1) := by decide +kernel
theorem dX9_hanging_0 : decode cX9_hanging 0 = .ok (.iload_n 1, 1) := by decide +kernel
theorem dX9_hanging_1 : decode cX9_hanging 1 = .ok (.invokestatic 116, 3) := by decide +kernel
theorem dX9_hanging_4 : decode cX9_hanging 4 = .ok (.aload_n 0, 1) := by decide +kernel
theorem dX9_hanging_5 : decode cX9_hanging 5 = .ok (.getfield 12, 3) := by decide +kernel
theorem dX9_hanging_8 : decode cX9_hanging 8 = .ok (.iload_n 1, 1) := by decide +kernel
theorem dX9_hanging_9 : decode cX9_hanging 9 = .ok (.invokevirtual 141, 3) := by decide +kernel
theorem dX9_hanging_12 : decode cX9_hanging 12 = .ok (.ireturn, 1) := by decide +kernel
theorem dX9_outer_0 : decode cX9_outer 0 = .ok (.iload_n 1, 1) := by decide +kernel
theorem dX9_outer_1 : decode cX9_outer 1 = .ok (.invokestatic 116, 3) := by decide +kernel
theorem dX9_outer_4 : decode cX9_outer 4 = .ok (.aload_n 0, 1) := by decide +kernel
theorem dX9_outer_5 : decode cX9_outer 5 = .ok (.getfield 37, 3) := by decide +kernel
theorem dX9_outer_8 : decode cX9_outer 8 = .ok (.iload_n 1, 1) := by decide +kernel
theorem dX9_outer_9 : decode cX9_outer 9 = .ok (.iconst 1, 1) := by decide +kernel
theorem dX9_outer_10 : decode cX9_outer 10 = .ok (.invokevirtual 145, 3) := by decide +kernel
theorem dX9_outer_13 : decode cX9_outer 13 = .ok (.ireturn, 1) := by decide +kernel
theorem dX9_inner_0 : decode cX9_inner 0 = .ok (.iload_n 1, 1) := by decide +kernel
theorem dX9_inner_1 : decode cX9_inner 1 = .ok (.invokestatic 116, 3) := by decide +kernel
theorem dX9_inner_4 : decode cX9_inner 4 = .ok (.aload_n 0, 1) := by decide +kernel
theorem dX9_inner_5 : decode cX9_inner 5 = .ok (.getfield 37, 3) := by decide +kernel
theorem dX9_inner_8 : decode cX9_inner 8 = .ok (.iload_n 1, 1) := by decide +kernel
theorem dX9_inner_9 : decode cX9_inner 9 = .ok (.iconst 0, 1) := by decide +kernel
theorem dX9_inner_10 : decode cX9_inner 10 = .ok (.invokevirtual 145, 3) := by decide +kernel
theorem dX9_inner_13 : decode cX9_inner 13 = .ok (.ireturn, 1) := by decide +kernel
theorem dX9_outlinesByEdges_0 : decode cX9_outlinesByEdges 0 = .ok (.iload_n 1, 1) := by decide +kernel
theorem dX9_outlinesByEdges_1 : decode cX9_outlinesByEdges 1 = .ok (.invokestatic 116, 3) := by decide +kernel
theorem dX9_outlinesByEdges_4 : decode cX9_outlinesByEdges 4 = .ok (.aload_n 0, 1) := by decide +kernel
theorem dX9_outlinesByEdges_5 : decode cX9_outlinesByEdges 5 = .ok (.getfield 37, 3) := by decide +kernel
theorem dX9_outlinesByEdges_8 : decode cX9_outlinesByEdges 8 = .ok (.iload_n 1, 1) := by decide +kernel
theorem dX9_outlinesByEdges_9 : decode cX9_outlinesByEdges 9 = .ok (.invokevirtual 149, 3) := by decide +kernel
theorem dX9_outlinesByEdges_12 : decode cX9_outlinesByEdges 12 = .ok (.ireturn, 1) := by decide +kernel
theorem dX9_edges_0 : decode cX9_edges 0 = .ok (.iload_n 1, 1) := by decide +kernel
theorem dX9_edges_1 : decode cX9_edges 1 = .ok (.invokestatic 116, 3) := by decide +kernel
theorem dX9_edges_4 : decode cX9_edges 4 = .ok (.aload_n 0, 1) := by decide +kernel
theorem dX9_edges_5 : decode cX9_edges 5 = .ok (.getfield 37, 3) := by decide +kernel
theorem dX9_edges_8 : decode cX9_edges 8 = .ok (.iload_n 1, 1) := by decide +kernel
theorem dX9_edges_9 : decode cX9_edges 9 = .ok (.invokevirtual 152, 3) := by decide +kernel
theorem dX9_edges_12 : decode cX9_edges 12 = .ok (.ireturn, 1) := by decide +kernel
theorem dX9_strokes_0 : decode cX9_strokes 0 = .ok (.iload_n 1, 1) := by decide +kernel
theorem dX9_strokes_1 : decode cX9_strokes 1 = .ok (.invokestatic 116, 3) := by decide +kernel
theorem dX9_strokes_4 : decode cX9_strokes 4 = .ok (.aload_n 0, 1) := by decide +kernel
theorem dX9_strokes_5 : decode cX9_strokes 5 = .ok (.getfield 28, 3) := by decide +kernel
theorem dX9_strokes_8 : decode cX9_strokes 8 = .ok (.iload_n 1, 1) := by decide +kernel
theorem dX9_strokes_9 : decode cX9_strokes 9 = .ok (.invokevirtual 134, 3) := by decide +kernel
theorem dX9_strokes_12 : decode cX9_strokes 12 = .ok (.aload_n 0, 1) := by decide +kernel
theorem dX9_strokes_13 : decode cX9_strokes 13 = .ok (.getfield 46, 3) := by decide +kernel
theorem dX9_strokes_16 : decode cX9_strokes 16 = .ok (.iload_n 1, 1) := by decide +kernel
theorem dX9_strokes_17 : decode cX9_strokes 17 = .ok (.invokevirtual 155, 3) := by decide +kernel
theorem dX9_strokes_20 : decode cX9_strokes 20 = .ok (.aload_n 0, 1) := by decide +kernel
theorem dX9_strokes_21 : decode cX9_strokes 21 = .ok (.getfield 46, 3) := by decide +kernel
theorem dX9_strokes_24 : decode cX9_strokes 24 = .ok (.invokevirtual 158, 3) := by decide +kernel
theorem dX9_strokes_27 : decode cX9_strokes 27 = .ok (.ireturn, 1) := by decide +kernel
theorem dX9_plan_0 : decode cX9_plan 0 = .ok (.aload_n 0, 1) := by decide +kernel
theorem dX9_plan_1 : decode cX9_plan 1 = .ok (.getfield 78, 3) := by decide +kernel
theorem dX9_plan_4 : decode cX9_plan 4 = .ok (.invokevirtual 162, 3) := by decide +kernel
theorem dX9_plan_7 : decode cX9_plan 7 = .ok (.ifCond .eq 13, 3) := by decide +kernel
theorem dX9_plan_10 : decode cX9_plan 10 = .ok (.new 166, 3) := by decide +kernel
theorem dX9_plan_13 : decode cX9_plan 13 = .ok (.dup, 1) := by decide +kernel
theorem dX9_plan_14 : decode cX9_plan 14 = .ok (.ldc 168, 2) := by decide +kernel
theorem dX9_plan_16 : decode cX9_plan 16 = .ok (.invokespecial 170, 3) := by decide +kernel
theorem dX9_plan_19 : decode cX9_plan 19 = .ok (.athrow, 1) := by decide +kernel
theorem dX9_plan_20 : decode cX9_plan 20 = .ok (.aload_n 0, 1) := by decide +kernel
theorem dX9_plan_21 : decode cX9_plan 21 = .ok (.getfield 28, 3) := by decide +kernel
theorem dX9_plan_24 : decode cX9_plan 24 = .ok (.invokevirtual 171, 3) := by decide +kernel
theorem dX9_plan_27 : decode cX9_plan 27 = .ok (.aload_n 0, 1) := by decide +kernel
theorem dX9_plan_28 : decode cX9_plan 28 = .ok (.getfield 62, 3) := by decide +kernel
theorem dX9_plan_31 : decode cX9_plan 31 = .ok (.invokevirtual 174, 3) := by decide +kernel
theorem dX9_plan_34 : decode cX9_plan 34 = .ok (.aload_n 0, 1) := by decide +kernel
theorem dX9_plan_35 : decode cX9_plan 35 = .ok (.getfield 78, 3) := by decide +kernel
theorem dX9_plan_38 : decode cX9_plan 38 = .ok (.invokevirtual 177, 3) := by decide +kernel
theorem dX9_plan_41 : decode cX9_plan 41 = .ok (.aload_n 0, 1) := by decide +kernel
theorem dX9_plan_42 : decode cX9_plan 42 = .ok (.getfield 53, 3) := by decide +kernel
theorem dX9_plan_45 : decode cX9_plan 45 = .ok (.invokevirtual 180, 3) := by decide +kernel
theorem dX9_plan_48 : decode cX9_plan 48 = .ok (.ireturn, 1) := by decide +kernel
theorem dX9_commands_0 : decode cX9_commands 0 = .ok (.aload_n 0, 1) := by decide +kernel
theorem dX9_commands_1 : decode cX9_commands 1 = .ok (.getfield 53, 3) := by decide +kernel
theorem dX9_commands_4 : decode cX9_commands 4 = .ok (.invokevirtual 180, 3) := by decide +kernel
theorem dX9_commands_7 : decode cX9_commands 7 = .ok (.ireturn, 1) := by decide +kernel
theorem dX9_commandAt_0 : decode cX9_commandAt 0 = .ok (.aload_n 0, 1) := by decide +kernel
theorem dX9_commandAt_1 : decode cX9_commandAt 1 = .ok (.iload_n 1, 1) := by decide +kernel
theorem dX9_commandAt_2 : decode cX9_commandAt 2 = .ok (.invokevirtual 181, 3) := by decide +kernel
theorem dX9_commandAt_5 : decode cX9_commandAt 5 = .ok (.aload_n 0, 1) := by decide +kernel
theorem dX9_commandAt_6 : decode cX9_commandAt 6 = .ok (.getfield 53, 3) := by decide +kernel
theorem dX9_commandAt_9 : decode cX9_commandAt 9 = .ok (.iload_n 1, 1) := by decide +kernel
theorem dX9_commandAt_10 : decode cX9_commandAt 10 = .ok (.invokevirtual 184, 3) := by decide +kernel
theorem dX9_commandAt_13 : decode cX9_commandAt 13 = .ok (.ireturn, 1) := by decide +kernel
theorem dX9_numberAt_0 : decode cX9_numberAt 0 = .ok (.aload_n 0, 1) := by decide +kernel
theorem dX9_numberAt_1 : decode cX9_numberAt 1 = .ok (.iload_n 1, 1) := by decide +kernel
theorem dX9_numberAt_2 : decode cX9_numberAt 2 = .ok (.invokevirtual 181, 3) := by decide +kernel
theorem dX9_numberAt_5 : decode cX9_numberAt 5 = .ok (.iload_n 2, 1) := by decide +kernel
theorem dX9_numberAt_6 : decode cX9_numberAt 6 = .ok (.bipush 120, 2) := by decide +kernel
theorem dX9_numberAt_8 : decode cX9_numberAt 8 = .ok (.if_icmp .eq 31, 3) := by decide +kernel
theorem dX9_numberAt_11 : decode cX9_numberAt 11 = .ok (.iload_n 2, 1) := by decide +kernel
theorem dX9_numberAt_12 : decode cX9_numberAt 12 = .ok (.bipush 121, 2) := by decide +kernel
theorem dX9_numberAt_14 : decode cX9_numberAt 14 = .ok (.if_icmp .eq 25, 3) := by decide +kernel
theorem dX9_numberAt_17 : decode cX9_numberAt 17 = .ok (.iload_n 2, 1) := by decide +kernel
theorem dX9_numberAt_18 : decode cX9_numberAt 18 = .ok (.bipush 97, 2) := by decide +kernel
theorem dX9_numberAt_20 : decode cX9_numberAt 20 = .ok (.if_icmp .eq 19, 3) := by decide +kernel
theorem dX9_numberAt_23 : decode cX9_numberAt 23 = .ok (.iload_n 2, 1) := by decide +kernel
theorem dX9_numberAt_24 : decode cX9_numberAt 24 = .ok (.bipush 122, 2) := by decide +kernel
theorem dX9_numberAt_26 : decode cX9_numberAt 26 = .ok (.if_icmp .eq 13, 3) := by decide +kernel
theorem dX9_numberAt_29 : decode cX9_numberAt 29 = .ok (.new 86, 3) := by decide +kernel
theorem dX9_numberAt_32 : decode cX9_numberAt 32 = .ok (.dup, 1) := by decide +kernel
theorem dX9_numberAt_33 : decode cX9_numberAt 33 = .ok (.ldc 187, 2) := by decide +kernel
theorem dX9_numberAt_35 : decode cX9_numberAt 35 = .ok (.invokespecial 90, 3) := by decide +kernel
theorem dX9_numberAt_38 : decode cX9_numberAt 38 = .ok (.athrow, 1) := by decide +kernel
theorem dX9_numberAt_39 : decode cX9_numberAt 39 = .ok (.aload_n 0, 1) := by decide +kernel
theorem dX9_numberAt_40 : decode cX9_numberAt 40 = .ok (.getfield 53, 3) := by decide +kernel
theorem dX9_numberAt_43 : decode cX9_numberAt 43 = .ok (.iload_n 1, 1) := by decide +kernel
theorem dX9_numberAt_44 : decode cX9_numberAt 44 = .ok (.iload_n 2, 1) := by decide +kernel
theorem dX9_numberAt_45 : decode cX9_numberAt 45 = .ok (.invokevirtual 189, 3) := by decide +kernel
theorem dX9_numberAt_48 : decode cX9_numberAt 48 = .ok (.ifCond .ne 13, 3) := by decide +kernel
theorem dX9_numberAt_51 : decode cX9_numberAt 51 = .ok (.new 193, 3) := by decide +kernel
theorem dX9_numberAt_54 : decode cX9_numberAt 54 = .ok (.dup, 1) := by decide +kernel
theorem dX9_numberAt_55 : decode cX9_numberAt 55 = .ok (.ldc 195, 2) := by decide +kernel
theorem dX9_numberAt_57 : decode cX9_numberAt 57 = .ok (.invokespecial 197, 3) := by decide +kernel
theorem dX9_numberAt_60 : decode cX9_numberAt 60 = .ok (.athrow, 1) := by decide +kernel
theorem dX9_numberAt_61 : decode cX9_numberAt 61 = .ok (.aload_n 0, 1) := by decide +kernel
theorem dX9_numberAt_62 : decode cX9_numberAt 62 = .ok (.getfield 53, 3) := by decide +kernel
theorem dX9_numberAt_65 : decode cX9_numberAt 65 = .ok (.iload_n 1, 1) := by decide +kernel
theorem dX9_numberAt_66 : decode cX9_numberAt 66 = .ok (.iload_n 2, 1) := by decide +kernel
theorem dX9_numberAt_67 : decode cX9_numberAt 67 = .ok (.invokevirtual 198, 3) := by decide +kernel
theorem dX9_numberAt_70 : decode cX9_numberAt 70 = .ok (.ireturn, 1) := by decide +kernel
theorem dX9_travel_0 : decode cX9_travel 0 = .ok (.aload_n 0, 1) := by decide +kernel
theorem dX9_travel_1 : decode cX9_travel 1 = .ok (.getfield 53, 3) := by decide +kernel
theorem dX9_travel_4 : decode cX9_travel 4 = .ok (.invokevirtual 202, 3) := by decide +kernel
theorem dX9_travel_7 : decode cX9_travel 7 = .ok (.ireturn, 1) := by decide +kernel
theorem dX9_planned_0 : decode cX9_planned 0 = .ok (.aload_n 0, 1) := by decide +kernel
theorem dX9_planned_1 : decode cX9_planned 1 = .ok (.getfield 53, 3) := by decide +kernel
theorem dX9_planned_4 : decode cX9_planned 4 = .ok (.invokevirtual 205, 3) := by decide +kernel
theorem dX9_planned_7 : decode cX9_planned 7 = .ok (.lreturn, 1) := by decide +kernel
theorem dX9_setTarget_0 : decode cX9_setTarget 0 = .ok (.iload_n 1, 1) := by decide +kernel
theorem dX9_setTarget_1 : decode cX9_setTarget 1 = .ok (.ifCond .lt 10, 3) := by decide +kernel
theorem dX9_setTarget_4 : decode cX9_setTarget 4 = .ok (.iload_n 1, 1) := by decide +kernel
theorem dX9_setTarget_5 : decode cX9_setTarget 5 = .ok (.sipush 300, 3) := by decide +kernel
theorem dX9_setTarget_8 : decode cX9_setTarget 8 = .ok (.if_icmp .le 13, 3) := by decide +kernel
theorem dX9_setTarget_11 : decode cX9_setTarget 11 = .ok (.new 86, 3) := by decide +kernel
theorem dX9_setTarget_14 : decode cX9_setTarget 14 = .ok (.dup, 1) := by decide +kernel
theorem dX9_setTarget_15 : decode cX9_setTarget 15 = .ok (.ldc 209, 2) := by decide +kernel
theorem dX9_setTarget_17 : decode cX9_setTarget 17 = .ok (.invokespecial 90, 3) := by decide +kernel
theorem dX9_setTarget_20 : decode cX9_setTarget 20 = .ok (.athrow, 1) := by decide +kernel
theorem dX9_setTarget_21 : decode cX9_setTarget 21 = .ok (.aload_n 0, 1) := by decide +kernel
theorem dX9_setTarget_22 : decode cX9_setTarget 22 = .ok (.getfield 78, 3) := by decide +kernel
theorem dX9_setTarget_25 : decode cX9_setTarget 25 = .ok (.invokevirtual 211, 3) := by decide +kernel
theorem dX9_setTarget_28 : decode cX9_setTarget 28 = .ok (.bipush 102, 2) := by decide +kernel
theorem dX9_setTarget_30 : decode cX9_setTarget 30 = .ok (.if_icmp .ne 13, 3) := by decide +kernel
theorem dX9_setTarget_33 : decode cX9_setTarget 33 = .ok (.new 166, 3) := by decide +kernel
theorem dX9_setTarget_36 : decode cX9_setTarget 36 = .ok (.dup, 1) := by decide +kernel
theorem dX9_setTarget_37 : decode cX9_setTarget 37 = .ok (.ldc 215, 2) := by decide +kernel
theorem dX9_setTarget_39 : decode cX9_setTarget 39 = .ok (.invokespecial 170, 3) := by decide +kernel
theorem dX9_setTarget_42 : decode cX9_setTarget 42 = .ok (.athrow, 1) := by decide +kernel
theorem dX9_setTarget_43 : decode cX9_setTarget 43 = .ok (.aload_n 0, 1) := by decide +kernel
theorem dX9_setTarget_44 : decode cX9_setTarget 44 = .ok (.getfield 69, 3) := by decide +kernel
theorem dX9_setTarget_47 : decode cX9_setTarget 47 = .ok (.iload_n 1, 1) := by decide +kernel
theorem dX9_setTarget_48 : decode cX9_setTarget 48 = .ok (.invokevirtual 217, 3) := by decide +kernel
theorem dX9_setTarget_51 : decode cX9_setTarget 51 = .ok (.ireturn, 1) := by decide +kernel
theorem dX9_print_0 : decode cX9_print 0 = .ok (.aload_n 0, 1) := by decide +kernel
theorem dX9_print_1 : decode cX9_print 1 = .ok (.getfield 78, 3) := by decide +kernel
theorem dX9_print_4 : decode cX9_print 4 = .ok (.invokevirtual 162, 3) := by decide +kernel
theorem dX9_print_7 : decode cX9_print 7 = .ok (.ifCond .ne 13, 3) := by decide +kernel
theorem dX9_print_10 : decode cX9_print 10 = .ok (.aload_n 0, 1) := by decide +kernel
theorem dX9_print_11 : decode cX9_print 11 = .ok (.getfield 53, 3) := by decide +kernel
theorem dX9_print_14 : decode cX9_print 14 = .ok (.invokevirtual 180, 3) := by decide +kernel
theorem dX9_print_17 : decode cX9_print 17 = .ok (.ifCond .ne 13, 3) := by decide +kernel
theorem dX9_print_20 : decode cX9_print 20 = .ok (.new 166, 3) := by decide +kernel
theorem dX9_print_23 : decode cX9_print 23 = .ok (.dup, 1) := by decide +kernel
theorem dX9_print_24 : decode cX9_print 24 = .ok (.ldc 220, 2) := by decide +kernel
theorem dX9_print_26 : decode cX9_print 26 = .ok (.invokespecial 170, 3) := by decide +kernel
theorem dX9_print_29 : decode cX9_print 29 = .ok (.athrow, 1) := by decide +kernel
theorem dX9_print_30 : decode cX9_print 30 = .ok (.aload_n 0, 1) := by decide +kernel
theorem dX9_print_31 : decode cX9_print 31 = .ok (.getfield 78, 3) := by decide +kernel
theorem dX9_print_34 : decode cX9_print 34 = .ok (.invokevirtual 222, 3) := by decide +kernel
theorem dX9_print_37 : decode cX9_print 37 = .ok (.aload_n 0, 1) := by decide +kernel
theorem dX9_print_38 : decode cX9_print 38 = .ok (.getfield 53, 3) := by decide +kernel
theorem dX9_print_41 : decode cX9_print 41 = .ok (.invokevirtual 180, 3) := by decide +kernel
theorem dX9_print_44 : decode cX9_print 44 = .ok (.ireturn, 1) := by decide +kernel
theorem dX9_pass_0 : decode cX9_pass 0 = .ok (.iload_n 1, 1) := by decide +kernel
theorem dX9_pass_1 : decode cX9_pass 1 = .ok (.iconst 1, 1) := by decide +kernel
theorem dX9_pass_2 : decode cX9_pass 2 = .ok (.if_icmp .lt 10, 3) := by decide +kernel
theorem dX9_pass_5 : decode cX9_pass 5 = .ok (.iload_n 1, 1) := by decide +kernel
theorem dX9_pass_6 : decode cX9_pass 6 = .ok (.sipush 200, 3) := by decide +kernel
theorem dX9_pass_9 : decode cX9_pass 9 = .ok (.if_icmp .le 13, 3) := by decide +kernel
theorem dX9_pass_12 : decode cX9_pass 12 = .ok (.new 86, 3) := by decide +kernel
theorem dX9_pass_15 : decode cX9_pass 15 = .ok (.dup, 1) := by decide +kernel
theorem dX9_pass_16 : decode cX9_pass 16 = .ok (.ldc 225, 2) := by decide +kernel
theorem dX9_pass_18 : decode cX9_pass 18 = .ok (.invokespecial 90, 3) := by decide +kernel
theorem dX9_pass_21 : decode cX9_pass 21 = .ok (.athrow, 1) := by decide +kernel
theorem dX9_pass_22 : decode cX9_pass 22 = .ok (.aload_n 0, 1) := by decide +kernel
theorem dX9_pass_23 : decode cX9_pass 23 = .ok (.getfield 78, 3) := by decide +kernel
theorem dX9_pass_26 : decode cX9_pass 26 = .ok (.iload_n 1, 1) := by decide +kernel
theorem dX9_pass_27 : decode cX9_pass 27 = .ok (.invokevirtual 227, 3) := by decide +kernel
theorem dX9_pass_30 : decode cX9_pass 30 = .ok (.ireturn, 1) := by decide +kernel
theorem dX9_goOn_0 : decode cX9_goOn 0 = .ok (.aload_n 0, 1) := by decide +kernel
theorem dX9_goOn_1 : decode cX9_goOn 1 = .ok (.getfield 78, 3) := by decide +kernel
theorem dX9_goOn_4 : decode cX9_goOn 4 = .ok (.invokevirtual 211, 3) := by decide +kernel
theorem dX9_goOn_7 : decode cX9_goOn 7 = .ok (.bipush 112, 2) := by decide +kernel
theorem dX9_goOn_9 : decode cX9_goOn 9 = .ok (.if_icmp .eq 13, 3) := by decide +kernel
theorem dX9_goOn_12 : decode cX9_goOn 12 = .ok (.new 166, 3) := by decide +kernel
theorem dX9_goOn_15 : decode cX9_goOn 15 = .ok (.dup, 1) := by decide +kernel
theorem dX9_goOn_16 : decode cX9_goOn 16 = .ok (.ldc 230, 2) := by decide +kernel
theorem dX9_goOn_18 : decode cX9_goOn 18 = .ok (.invokespecial 170, 3) := by decide +kernel
theorem dX9_goOn_21 : decode cX9_goOn 21 = .ok (.athrow, 1) := by decide +kernel
theorem dX9_goOn_22 : decode cX9_goOn 22 = .ok (.aload_n 0, 1) := by decide +kernel
theorem dX9_goOn_23 : decode cX9_goOn 23 = .ok (.getfield 78, 3) := by decide +kernel
theorem dX9_goOn_26 : decode cX9_goOn 26 = .ok (.invokevirtual 232, 3) := by decide +kernel
theorem dX9_goOn_29 : decode cX9_goOn 29 = .ok (.aload_n 0, 1) := by decide +kernel
theorem dX9_goOn_30 : decode cX9_goOn 30 = .ok (.getfield 53, 3) := by decide +kernel
theorem dX9_goOn_33 : decode cX9_goOn 33 = .ok (.invokevirtual 180, 3) := by decide +kernel
theorem dX9_goOn_36 : decode cX9_goOn 36 = .ok (.aload_n 0, 1) := by decide +kernel
theorem dX9_goOn_37 : decode cX9_goOn 37 = .ok (.getfield 78, 3) := by decide +kernel
theorem dX9_goOn_40 : decode cX9_goOn 40 = .ok (.invokevirtual 235, 3) := by decide +kernel
theorem dX9_goOn_43 : decode cX9_goOn 43 = .ok (.isub, 1) := by decide +kernel
theorem dX9_goOn_44 : decode cX9_goOn 44 = .ok (.ireturn, 1) := by decide +kernel
theorem dX9_fail_0 : decode cX9_fail 0 = .ok (.aload_n 0, 1) := by decide +kernel
theorem dX9_fail_1 : decode cX9_fail 1 = .ok (.getfield 78, 3) := by decide +kernel
theorem dX9_fail_4 : decode cX9_fail 4 = .ok (.invokevirtual 211, 3) := by decide +kernel
theorem dX9_fail_7 : decode cX9_fail 7 = .ok (.bipush 102, 2) := by decide +kernel
theorem dX9_fail_9 : decode cX9_fail 9 = .ok (.if_icmp .ne 13, 3) := by decide +kernel
theorem dX9_fail_12 : decode cX9_fail 12 = .ok (.new 166, 3) := by decide +kernel
theorem dX9_fail_15 : decode cX9_fail 15 = .ok (.dup, 1) := by decide +kernel
theorem dX9_fail_16 : decode cX9_fail 16 = .ok (.ldc 215, 2) := by decide +kernel
theorem dX9_fail_18 : decode cX9_fail 18 = .ok (.invokespecial 170, 3) := by decide +kernel
theorem dX9_fail_21 : decode cX9_fail 21 = .ok (.athrow, 1) := by decide +kernel
theorem dX9_fail_22 : decode cX9_fail 22 = .ok (.aload_n 0, 1) := by decide +kernel
theorem dX9_fail_23 : decode cX9_fail 23 = .ok (.getfield 78, 3) := by decide +kernel
theorem dX9_fail_26 : decode cX9_fail 26 = .ok (.invokevirtual 238, 3) := by decide +kernel
theorem dX9_fail_29 : decode cX9_fail 29 = .ok (.ireturn, 1) := by decide +kernel
theorem dX9_mend_0 : decode cX9_mend 0 = .ok (.aload_n 0, 1) := by decide +kernel
theorem dX9_mend_1 : decode cX9_mend 1 = .ok (.getfield 78, 3) := by decide +kernel
theorem dX9_mend_4 : decode cX9_mend 4 = .ok (.invokevirtual 211, 3) := by decide +kernel
theorem dX9_mend_7 : decode cX9_mend 7 = .ok (.bipush 102, 2) := by decide +kernel
theorem dX9_mend_9 : decode cX9_mend 9 = .ok (.if_icmp .eq 13, 3) := by decide +kernel
theorem dX9_mend_12 : decode cX9_mend 12 = .ok (.new 166, 3) := by decide +kernel
theorem dX9_mend_15 : decode cX9_mend 15 = .ok (.dup, 1) := by decide +kernel
theorem dX9_mend_16 : decode cX9_mend 16 = .ok (.ldc 241, 2) := by decide +kernel
theorem dX9_mend_18 : decode cX9_mend 18 = .ok (.invokespecial 170, 3) := by decide +kernel
theorem dX9_mend_21 : decode cX9_mend 21 = .ok (.athrow, 1) := by decide +kernel
theorem dX9_mend_22 : decode cX9_mend 22 = .ok (.aload_n 0, 1) := by decide +kernel
theorem dX9_mend_23 : decode cX9_mend 23 = .ok (.getfield 78, 3) := by decide +kernel
theorem dX9_mend_26 : decode cX9_mend 26 = .ok (.invokevirtual 243, 3) := by decide +kernel
theorem dX9_mend_29 : decode cX9_mend 29 = .ok (.ireturn, 1) := by decide +kernel
theorem dX9_cut_0 : decode cX9_cut 0 = .ok (.aload_n 0, 1) := by decide +kernel
theorem dX9_cut_1 : decode cX9_cut 1 = .ok (.getfield 78, 3) := by decide +kernel
theorem dX9_cut_4 : decode cX9_cut 4 = .ok (.invokevirtual 246, 3) := by decide +kernel
theorem dX9_cut_7 : decode cX9_cut 7 = .ok (.ireturn, 1) := by decide +kernel
theorem dX9_resume_0 : decode cX9_resume 0 = .ok (.aload_n 0, 1) := by decide +kernel
theorem dX9_resume_1 : decode cX9_resume 1 = .ok (.getfield 78, 3) := by decide +kernel
theorem dX9_resume_4 : decode cX9_resume 4 = .ok (.invokevirtual 249, 3) := by decide +kernel
theorem dX9_resume_7 : decode cX9_resume 7 = .ok (.ifCond .ne 13, 3) := by decide +kernel
theorem dX9_resume_10 : decode cX9_resume 10 = .ok (.new 166, 3) := by decide +kernel
theorem dX9_resume_13 : decode cX9_resume 13 = .ok (.dup, 1) := by decide +kernel
theorem dX9_resume_14 : decode cX9_resume 14 = .ok (.ldc 252, 2) := by decide +kernel
theorem dX9_resume_16 : decode cX9_resume 16 = .ok (.invokespecial 170, 3) := by decide +kernel
theorem dX9_resume_19 : decode cX9_resume 19 = .ok (.athrow, 1) := by decide +kernel
theorem dX9_resume_20 : decode cX9_resume 20 = .ok (.aload_n 0, 1) := by decide +kernel
theorem dX9_resume_21 : decode cX9_resume 21 = .ok (.getfield 78, 3) := by decide +kernel
theorem dX9_resume_24 : decode cX9_resume 24 = .ok (.invokevirtual 254, 3) := by decide +kernel
theorem dX9_resume_27 : decode cX9_resume 27 = .ok (.ireturn, 1) := by decide +kernel
theorem dX9_state_0 : decode cX9_state 0 = .ok (.aload_n 0, 1) := by decide +kernel
theorem dX9_state_1 : decode cX9_state 1 = .ok (.getfield 78, 3) := by decide +kernel
theorem dX9_state_4 : decode cX9_state 4 = .ok (.invokevirtual 211, 3) := by decide +kernel
theorem dX9_state_7 : decode cX9_state 7 = .ok (.ireturn, 1) := by decide +kernel
theorem dX9_next_0 : decode cX9_next 0 = .ok (.aload_n 0, 1) := by decide +kernel
theorem dX9_next_1 : decode cX9_next 1 = .ok (.getfield 78, 3) := by decide +kernel
theorem dX9_next_4 : decode cX9_next 4 = .ok (.invokevirtual 235, 3) := by decide +kernel
theorem dX9_next_7 : decode cX9_next 7 = .ok (.ireturn, 1) := by decide +kernel
theorem dX9_speed_0 : decode cX9_speed 0 = .ok (.aload_n 0, 1) := by decide +kernel
theorem dX9_speed_1 : decode cX9_speed 1 = .ok (.getfield 78, 3) := by decide +kernel
theorem dX9_speed_4 : decode cX9_speed 4 = .ok (.invokevirtual 257, 3) := by decide +kernel
theorem dX9_speed_7 : decode cX9_speed 7 = .ok (.ireturn, 1) := by decide +kernel
theorem dX9_temperature_0 : decode cX9_temperature 0 = .ok (.aload_n 0, 1) := by decide +kernel
theorem dX9_temperature_1 : decode cX9_temperature 1 = .ok (.getfield 69, 3) := by decide +kernel
theorem dX9_temperature_4 : decode cX9_temperature 4 = .ok (.invokevirtual 260, 3) := by decide +kernel
theorem dX9_temperature_7 : decode cX9_temperature 7 = .ok (.ireturn, 1) := by decide +kernel
theorem dX9_time_0 : decode cX9_time 0 = .ok (.aload_n 0, 1) := by decide +kernel
theorem dX9_time_1 : decode cX9_time 1 = .ok (.getfield 78, 3) := by decide +kernel
theorem dX9_time_4 : decode cX9_time 4 = .ok (.invokevirtual 263, 3) := by decide +kernel
theorem dX9_time_7 : decode cX9_time 7 = .ok (.lreturn, 1) := by decide +kernel
theorem dX9_laid_0 : decode cX9_laid 0 = .ok (.iload_n 1, 1) := by decide +kernel
theorem dX9_laid_1 : decode cX9_laid 1 = .ok (.iload_n 2, 1) := by decide +kernel
theorem dX9_laid_2 : decode cX9_laid 2 = .ok (.iload_n 3, 1) := by decide +kernel
theorem dX9_laid_3 : decode cX9_laid 3 = .ok (.invokestatic 130, 3) := by decide +kernel
theorem dX9_laid_6 : decode cX9_laid 6 = .ok (.aload_n 0, 1) := by decide +kernel
theorem dX9_laid_7 : decode cX9_laid 7 = .ok (.getfield 78, 3) := by decide +kernel
theorem dX9_laid_10 : decode cX9_laid 10 = .ok (.iload_n 1, 1) := by decide +kernel
theorem dX9_laid_11 : decode cX9_laid 11 = .ok (.iload_n 2, 1) := by decide +kernel
theorem dX9_laid_12 : decode cX9_laid 12 = .ok (.iload_n 3, 1) := by decide +kernel
theorem dX9_laid_13 : decode cX9_laid 13 = .ok (.invokevirtual 266, 3) := by decide +kernel
theorem dX9_laid_16 : decode cX9_laid 16 = .ok (.ireturn, 1) := by decide +kernel
theorem dX9_laidInAll_0 : decode cX9_laidInAll 0 = .ok (.aload_n 0, 1) := by decide +kernel
theorem dX9_laidInAll_1 : decode cX9_laidInAll 1 = .ok (.getfield 78, 3) := by decide +kernel
theorem dX9_laidInAll_4 : decode cX9_laidInAll 4 = .ok (.invokevirtual 270, 3) := by decide +kernel
theorem dX9_laidInAll_7 : decode cX9_laidInAll 7 = .ok (.lreturn, 1) := by decide +kernel
theorem dX9_emptyShare_0 : decode cX9_emptyShare 0 = .ok (.aload_n 0, 1) := by decide +kernel
theorem dX9_emptyShare_1 : decode cX9_emptyShare 1 = .ok (.getfield 12, 3) := by decide +kernel
theorem dX9_emptyShare_4 : decode cX9_emptyShare 4 = .ok (.invokevirtual 273, 3) := by decide +kernel
theorem dX9_emptyShare_7 : decode cX9_emptyShare 7 = .ok (.istore_n 1, 1) := by decide +kernel
theorem dX9_emptyShare_8 : decode cX9_emptyShare 8 = .ok (.iload_n 1, 1) := by decide +kernel
theorem dX9_emptyShare_9 : decode cX9_emptyShare 9 = .ok (.ifCond .ne 14, 3) := by decide +kernel
theorem dX9_emptyShare_12 : decode cX9_emptyShare 12 = .ok (.new 276, 3) := by decide +kernel
theorem dX9_emptyShare_15 : decode cX9_emptyShare 15 = .ok (.dup, 1) := by decide +kernel
theorem dX9_emptyShare_16 : decode cX9_emptyShare 16 = .ok (.ldc_w 278, 3) := by decide +kernel
theorem dX9_emptyShare_19 : decode cX9_emptyShare 19 = .ok (.invokespecial 280, 3) := by decide +kernel
theorem dX9_emptyShare_22 : decode cX9_emptyShare 22 = .ok (.athrow, 1) := by decide +kernel
theorem dX9_emptyShare_23 : decode cX9_emptyShare 23 = .ok (.aload_n 0, 1) := by decide +kernel
theorem dX9_emptyShare_24 : decode cX9_emptyShare 24 = .ok (.getfield 28, 3) := by decide +kernel
theorem dX9_emptyShare_27 : decode cX9_emptyShare 27 = .ok (.invokevirtual 171, 3) := by decide +kernel
theorem dX9_emptyShare_30 : decode cX9_emptyShare 30 = .ok (.aload_n 0, 1) := by decide +kernel
theorem dX9_emptyShare_31 : decode cX9_emptyShare 31 = .ok (.getfield 28, 3) := by decide +kernel
theorem dX9_emptyShare_34 : decode cX9_emptyShare 34 = .ok (.invokevirtual 281, 3) := by decide +kernel
theorem dX9_emptyShare_37 : decode cX9_emptyShare 37 = .ok (.i2f, 1) := by decide +kernel
theorem dX9_emptyShare_38 : decode cX9_emptyShare 38 = .ok (.iload_n 1, 1) := by decide +kernel
theorem dX9_emptyShare_39 : decode cX9_emptyShare 39 = .ok (.i2f, 1) := by decide +kernel
theorem dX9_emptyShare_40 : decode cX9_emptyShare 40 = .ok (.fdiv, 1) := by decide +kernel
theorem dX9_emptyShare_41 : decode cX9_emptyShare 41 = .ok (.freturn, 1) := by decide +kernel
theorem dX9_meanStroke_0 : decode cX9_meanStroke 0 = .ok (.aload_n 0, 1) := by decide +kernel
theorem dX9_meanStroke_1 : decode cX9_meanStroke 1 = .ok (.getfield 28, 3) := by decide +kernel
theorem dX9_meanStroke_4 : decode cX9_meanStroke 4 = .ok (.invokevirtual 171, 3) := by decide +kernel
theorem dX9_meanStroke_7 : decode cX9_meanStroke 7 = .ok (.iconst 0, 1) := by decide +kernel
theorem dX9_meanStroke_8 : decode cX9_meanStroke 8 = .ok (.istore_n 1, 1) := by decide +kernel
theorem dX9_meanStroke_9 : decode cX9_meanStroke 9 = .ok (.iconst 0, 1) := by decide +kernel
theorem dX9_meanStroke_10 : decode cX9_meanStroke 10 = .ok (.istore_n 2, 1) := by decide +kernel
theorem dX9_meanStroke_11 : decode cX9_meanStroke 11 = .ok (.iconst 0, 1) := by decide +kernel
theorem dX9_meanStroke_12 : decode cX9_meanStroke 12 = .ok (.istore_n 3, 1) := by decide +kernel
theorem dX9_meanStroke_13 : decode cX9_meanStroke 13 = .ok (.iload_n 3, 1) := by decide +kernel
theorem dX9_meanStroke_14 : decode cX9_meanStroke 14 = .ok (.bipush 12, 2) := by decide +kernel
theorem dX9_meanStroke_16 : decode cX9_meanStroke 16 = .ok (.if_icmp .ge 37, 3) := by decide +kernel
theorem dX9_meanStroke_19 : decode cX9_meanStroke 19 = .ok (.aload_n 0, 1) := by decide +kernel
theorem dX9_meanStroke_20 : decode cX9_meanStroke 20 = .ok (.getfield 46, 3) := by decide +kernel
theorem dX9_meanStroke_23 : decode cX9_meanStroke 23 = .ok (.iload_n 3, 1) := by decide +kernel
theorem dX9_meanStroke_24 : decode cX9_meanStroke 24 = .ok (.invokevirtual 155, 3) := by decide +kernel
theorem dX9_meanStroke_27 : decode cX9_meanStroke 27 = .ok (.iload_n 1, 1) := by decide +kernel
theorem dX9_meanStroke_28 : decode cX9_meanStroke 28 = .ok (.aload_n 0, 1) := by decide +kernel
theorem dX9_meanStroke_29 : decode cX9_meanStroke 29 = .ok (.getfield 46, 3) := by decide +kernel
theorem dX9_meanStroke_32 : decode cX9_meanStroke 32 = .ok (.invokevirtual 158, 3) := by decide +kernel
theorem dX9_meanStroke_35 : decode cX9_meanStroke 35 = .ok (.iadd, 1) := by decide +kernel
theorem dX9_meanStroke_36 : decode cX9_meanStroke 36 = .ok (.istore_n 1, 1) := by decide +kernel
theorem dX9_meanStroke_37 : decode cX9_meanStroke 37 = .ok (.iload_n 2, 1) := by decide +kernel
theorem dX9_meanStroke_38 : decode cX9_meanStroke 38 = .ok (.aload_n 0, 1) := by decide +kernel
theorem dX9_meanStroke_39 : decode cX9_meanStroke 39 = .ok (.getfield 46, 3) := by decide +kernel
theorem dX9_meanStroke_42 : decode cX9_meanStroke 42 = .ok (.invokevirtual 284, 3) := by decide +kernel
theorem dX9_meanStroke_45 : decode cX9_meanStroke 45 = .ok (.iadd, 1) := by decide +kernel
theorem dX9_meanStroke_46 : decode cX9_meanStroke 46 = .ok (.istore_n 2, 1) := by decide +kernel
theorem dX9_meanStroke_47 : decode cX9_meanStroke 47 = .ok (.iinc 3 1, 3) := by decide +kernel
theorem dX9_meanStroke_50 : decode cX9_meanStroke 50 = .ok (.goto (-37), 3) := by decide +kernel
theorem dX9_meanStroke_53 : decode cX9_meanStroke 53 = .ok (.iload_n 1, 1) := by decide +kernel
theorem dX9_meanStroke_54 : decode cX9_meanStroke 54 = .ok (.ifCond .ne 14, 3) := by decide +kernel
theorem dX9_meanStroke_57 : decode cX9_meanStroke 57 = .ok (.new 276, 3) := by decide +kernel
theorem dX9_meanStroke_60 : decode cX9_meanStroke 60 = .ok (.dup, 1) := by decide +kernel
theorem dX9_meanStroke_61 : decode cX9_meanStroke 61 = .ok (.ldc_w 287, 3) := by decide +kernel
theorem dX9_meanStroke_64 : decode cX9_meanStroke 64 = .ok (.invokespecial 280, 3) := by decide +kernel
theorem dX9_meanStroke_67 : decode cX9_meanStroke 67 = .ok (.athrow, 1) := by decide +kernel
theorem dX9_meanStroke_68 : decode cX9_meanStroke 68 = .ok (.iload_n 2, 1) := by decide +kernel
theorem dX9_meanStroke_69 : decode cX9_meanStroke 69 = .ok (.i2d, 1) := by decide +kernel
theorem dX9_meanStroke_70 : decode cX9_meanStroke 70 = .ok (.iload_n 1, 1) := by decide +kernel
theorem dX9_meanStroke_71 : decode cX9_meanStroke 71 = .ok (.i2d, 1) := by decide +kernel
theorem dX9_meanStroke_72 : decode cX9_meanStroke 72 = .ok (.ddiv, 1) := by decide +kernel
theorem dX9_meanStroke_73 : decode cX9_meanStroke 73 = .ok (.dreturn, 1) := by decide +kernel
theorem dX9_requireLayer_0 : decode cX9_requireLayer 0 = .ok (.iload_n 0, 1) := by decide +kernel
theorem dX9_requireLayer_1 : decode cX9_requireLayer 1 = .ok (.invokestatic 289, 3) := by decide +kernel
theorem dX9_requireLayer_4 : decode cX9_requireLayer 4 = .ok (.ifCond .ne 14, 3) := by decide +kernel
theorem dX9_requireLayer_7 : decode cX9_requireLayer 7 = .ok (.new 293, 3) := by decide +kernel
theorem dX9_requireLayer_10 : decode cX9_requireLayer 10 = .ok (.dup, 1) := by decide +kernel
theorem dX9_requireLayer_11 : decode cX9_requireLayer 11 = .ok (.ldc_w 295, 3) := by decide +kernel
theorem dX9_requireLayer_14 : decode cX9_requireLayer 14 = .ok (.invokespecial 297, 3) := by decide +kernel
theorem dX9_requireLayer_17 : decode cX9_requireLayer 17 = .ok (.athrow, 1) := by decide +kernel
theorem dX9_requireLayer_18 : decode cX9_requireLayer 18 = .ok (.return_, 1) := by decide +kernel
theorem dX9_requireCell_0 : decode cX9_requireCell 0 = .ok (.iload_n 0, 1) := by decide +kernel
theorem dX9_requireCell_1 : decode cX9_requireCell 1 = .ok (.iload_n 1, 1) := by decide +kernel
theorem dX9_requireCell_2 : decode cX9_requireCell 2 = .ok (.iload_n 2, 1) := by decide +kernel
theorem dX9_requireCell_3 : decode cX9_requireCell 3 = .ok (.invokestatic 298, 3) := by decide +kernel
theorem dX9_requireCell_6 : decode cX9_requireCell 6 = .ok (.ifCond .ne 14, 3) := by decide +kernel
theorem dX9_requireCell_9 : decode cX9_requireCell 9 = .ok (.new 293, 3) := by decide +kernel
theorem dX9_requireCell_12 : decode cX9_requireCell 12 = .ok (.dup, 1) := by decide +kernel
theorem dX9_requireCell_13 : decode cX9_requireCell 13 = .ok (.ldc_w 302, 3) := by decide +kernel
theorem dX9_requireCell_16 : decode cX9_requireCell 16 = .ok (.invokespecial 297, 3) := by decide +kernel
theorem dX9_requireCell_19 : decode cX9_requireCell 19 = .ok (.athrow, 1) := by decide +kernel
theorem dX9_requireCell_20 : decode cX9_requireCell 20 = .ok (.return_, 1) := by decide +kernel
theorem dX9_requireCommand_0 : decode cX9_requireCommand 0 = .ok (.aload_n 0, 1) := by decide +kernel
theorem dX9_requireCommand_1 : decode cX9_requireCommand 1 = .ok (.getfield 53, 3) := by decide +kernel
theorem dX9_requireCommand_4 : decode cX9_requireCommand 4 = .ok (.iload_n 1, 1) := by decide +kernel
theorem dX9_requireCommand_5 : decode cX9_requireCommand 5 = .ok (.invokevirtual 304, 3) := by decide +kernel
theorem dX9_requireCommand_8 : decode cX9_requireCommand 8 = .ok (.ifCond .ne 14, 3) := by decide +kernel
theorem dX9_requireCommand_11 : decode cX9_requireCommand 11 = .ok (.new 293, 3) := by decide +kernel
theorem dX9_requireCommand_14 : decode cX9_requireCommand 14 = .ok (.dup, 1) := by decide +kernel
theorem dX9_requireCommand_15 : decode cX9_requireCommand 15 = .ok (.ldc_w 307, 3) := by decide +kernel
theorem dX9_requireCommand_18 : decode cX9_requireCommand 18 = .ok (.invokespecial 297, 3) := by decide +kernel
theorem dX9_requireCommand_21 : decode cX9_requireCommand 21 = .ok (.athrow, 1) := by decide +kernel
theorem dX9_requireCommand_22 : decode cX9_requireCommand 22 = .ok (.return_, 1) := by decide +kernel
theorem dX9_isPlace_0 : decode cX9_isPlace 0 = .ok (.iload_n 0, 1) := by decide +kernel
theorem dX9_isPlace_1 : decode cX9_isPlace 1 = .ok (.ifCond .lt 13, 3) := by decide +kernel
theorem dX9_isPlace_4 : decode cX9_isPlace 4 = .ok (.iload_n 0, 1) := by decide +kernel
theorem dX9_isPlace_5 : decode cX9_isPlace 5 = .ok (.bipush 12, 2) := by decide +kernel
theorem dX9_isPlace_7 : decode cX9_isPlace 7 = .ok (.if_icmp .ge 7, 3) := by decide +kernel
theorem dX9_isPlace_10 : decode cX9_isPlace 10 = .ok (.iconst 1, 1) := by decide +kernel
theorem dX9_isPlace_11 : decode cX9_isPlace 11 = .ok (.goto 4, 3) := by decide +kernel
theorem dX9_isPlace_14 : decode cX9_isPlace 14 = .ok (.iconst 0, 1) := by decide +kernel
theorem dX9_isPlace_15 : decode cX9_isPlace 15 = .ok (.ireturn, 1) := by decide +kernel
theorem dX9_isCell_0 : decode cX9_isCell 0 = .ok (.iload_n 0, 1) := by decide +kernel
theorem dX9_isCell_1 : decode cX9_isCell 1 = .ok (.ifCond .lt 33, 3) := by decide +kernel
theorem dX9_isCell_4 : decode cX9_isCell 4 = .ok (.iload_n 0, 1) := by decide +kernel
theorem dX9_isCell_5 : decode cX9_isCell 5 = .ok (.bipush 12, 2) := by decide +kernel
theorem dX9_isCell_7 : decode cX9_isCell 7 = .ok (.if_icmp .ge 27, 3) := by decide +kernel
theorem dX9_isCell_10 : decode cX9_isCell 10 = .ok (.iload_n 1, 1) := by decide +kernel
theorem dX9_isCell_11 : decode cX9_isCell 11 = .ok (.ifCond .lt 23, 3) := by decide +kernel
theorem dX9_isCell_14 : decode cX9_isCell 14 = .ok (.iload_n 1, 1) := by decide +kernel
theorem dX9_isCell_15 : decode cX9_isCell 15 = .ok (.bipush 12, 2) := by decide +kernel
theorem dX9_isCell_17 : decode cX9_isCell 17 = .ok (.if_icmp .ge 17, 3) := by decide +kernel
theorem dX9_isCell_20 : decode cX9_isCell 20 = .ok (.iload_n 2, 1) := by decide +kernel
theorem dX9_isCell_21 : decode cX9_isCell 21 = .ok (.ifCond .lt 13, 3) := by decide +kernel
theorem dX9_isCell_24 : decode cX9_isCell 24 = .ok (.iload_n 2, 1) := by decide +kernel
theorem dX9_isCell_25 : decode cX9_isCell 25 = .ok (.bipush 12, 2) := by decide +kernel
theorem dX9_isCell_27 : decode cX9_isCell 27 = .ok (.if_icmp .ge 7, 3) := by decide +kernel
theorem dX9_isCell_30 : decode cX9_isCell 30 = .ok (.iconst 1, 1) := by decide +kernel
theorem dX9_isCell_31 : decode cX9_isCell 31 = .ok (.goto 4, 3) := by decide +kernel
theorem dX9_isCell_34 : decode cX9_isCell 34 = .ok (.iconst 0, 1) := by decide +kernel
theorem dX9_isCell_35 : decode cX9_isCell 35 = .ok (.ireturn, 1) := by decide +kernel
theorem dX9_isSpan_0 : decode cX9_isSpan 0 = .ok (.iload_n 0, 1) := by decide +kernel
theorem dX9_isSpan_1 : decode cX9_isSpan 1 = .ok (.invokestatic 289, 3) := by decide +kernel
theorem dX9_isSpan_4 : decode cX9_isSpan 4 = .ok (.ifCond .eq 20, 3) := by decide +kernel
theorem dX9_isSpan_7 : decode cX9_isSpan 7 = .ok (.iload_n 1, 1) := by decide +kernel
theorem dX9_isSpan_8 : decode cX9_isSpan 8 = .ok (.iconst 1, 1) := by decide +kernel
theorem dX9_isSpan_9 : decode cX9_isSpan 9 = .ok (.if_icmp .lt 15, 3) := by decide +kernel
theorem dX9_isSpan_12 : decode cX9_isSpan 12 = .ok (.iload_n 1, 1) := by decide +kernel
theorem dX9_isSpan_13 : decode cX9_isSpan 13 = .ok (.bipush 12, 2) := by decide +kernel
theorem dX9_isSpan_15 : decode cX9_isSpan 15 = .ok (.iload_n 0, 1) := by decide +kernel
theorem dX9_isSpan_16 : decode cX9_isSpan 16 = .ok (.isub, 1) := by decide +kernel
theorem dX9_isSpan_17 : decode cX9_isSpan 17 = .ok (.if_icmp .gt 7, 3) := by decide +kernel
theorem dX9_isSpan_20 : decode cX9_isSpan 20 = .ok (.iconst 1, 1) := by decide +kernel
theorem dX9_isSpan_21 : decode cX9_isSpan 21 = .ok (.goto 4, 3) := by decide +kernel
theorem dX9_isSpan_24 : decode cX9_isSpan 24 = .ok (.iconst 0, 1) := by decide +kernel
theorem dX9_isSpan_25 : decode cX9_isSpan 25 = .ok (.ireturn, 1) := by decide +kernel
theorem dX9_indexOf_0 : decode cX9_indexOf 0 = .ok (.iload_n 2, 1) := by decide +kernel
theorem dX9_indexOf_1 : decode cX9_indexOf 1 = .ok (.sipush 144, 3) := by decide +kernel
theorem dX9_indexOf_4 : decode cX9_indexOf 4 = .ok (.imul, 1) := by decide +kernel
theorem dX9_indexOf_5 : decode cX9_indexOf 5 = .ok (.iload_n 1, 1) := by decide +kernel
theorem dX9_indexOf_6 : decode cX9_indexOf 6 = .ok (.bipush 12, 2) := by decide +kernel
theorem dX9_indexOf_8 : decode cX9_indexOf 8 = .ok (.imul, 1) := by decide +kernel
theorem dX9_indexOf_9 : decode cX9_indexOf 9 = .ok (.iadd, 1) := by decide +kernel
theorem dX9_indexOf_10 : decode cX9_indexOf 10 = .ok (.iload_n 0, 1) := by decide +kernel
theorem dX9_indexOf_11 : decode cX9_indexOf 11 = .ok (.iadd, 1) := by decide +kernel
theorem dX9_indexOf_12 : decode cX9_indexOf 12 = .ok (.ireturn, 1) := by decide +kernel
theorem dX9_canBeHalved_0 : decode cX9_canBeHalved 0 = .ok (.iload_n 0, 1) := by decide +kernel
theorem dX9_canBeHalved_1 : decode cX9_canBeHalved 1 = .ok (.iconst 2, 1) := by decide +kernel
theorem dX9_canBeHalved_2 : decode cX9_canBeHalved 2 = .ok (.irem, 1) := by decide +kernel
theorem dX9_canBeHalved_3 : decode cX9_canBeHalved 3 = .ok (.ifCond .ne 7, 3) := by decide +kernel
theorem dX9_canBeHalved_6 : decode cX9_canBeHalved 6 = .ok (.iconst 1, 1) := by decide +kernel
theorem dX9_canBeHalved_7 : decode cX9_canBeHalved 7 = .ok (.goto 4, 3) := by decide +kernel
theorem dX9_canBeHalved_10 : decode cX9_canBeHalved 10 = .ok (.iconst 0, 1) := by decide +kernel
theorem dX9_canBeHalved_11 : decode cX9_canBeHalved 11 = .ok (.ireturn, 1) := by decide +kernel
theorem dX9_distance_0 : decode cX9_distance 0 = .ok (.iload_n 2, 1) := by decide +kernel
theorem dX9_distance_1 : decode cX9_distance 1 = .ok (.iload_n 0, 1) := by decide +kernel
theorem dX9_distance_2 : decode cX9_distance 2 = .ok (.isub, 1) := by decide +kernel
theorem dX9_distance_3 : decode cX9_distance 3 = .ok (.invokestatic 309, 3) := by decide +kernel
theorem dX9_distance_6 : decode cX9_distance 6 = .ok (.iload_n 3, 1) := by decide +kernel
theorem dX9_distance_7 : decode cX9_distance 7 = .ok (.iload_n 1, 1) := by decide +kernel
theorem dX9_distance_8 : decode cX9_distance 8 = .ok (.isub, 1) := by decide +kernel
theorem dX9_distance_9 : decode cX9_distance 9 = .ok (.invokestatic 309, 3) := by decide +kernel
theorem dX9_distance_12 : decode cX9_distance 12 = .ok (.iadd, 1) := by decide +kernel
theorem dX9_distance_13 : decode cX9_distance 13 = .ok (.ireturn, 1) := by decide +kernel
theorem dX9_signOf_0 : decode cX9_signOf 0 = .ok (.iload_n 0, 1) := by decide +kernel
theorem dX9_signOf_1 : decode cX9_signOf 1 = .ok (.ifCond .le 7, 3) := by decide +kernel
theorem dX9_signOf_4 : decode cX9_signOf 4 = .ok (.iconst 1, 1) := by decide +kernel
theorem dX9_signOf_5 : decode cX9_signOf 5 = .ok (.goto 12, 3) := by decide +kernel
theorem dX9_signOf_8 : decode cX9_signOf 8 = .ok (.iload_n 0, 1) := by decide +kernel
theorem dX9_signOf_9 : decode cX9_signOf 9 = .ok (.ifCond .ge 7, 3) := by decide +kernel
theorem dX9_signOf_12 : decode cX9_signOf 12 = .ok (.iconst (-1), 1) := by decide +kernel
theorem dX9_signOf_13 : decode cX9_signOf 13 = .ok (.goto 4, 3) := by decide +kernel
theorem dX9_signOf_16 : decode cX9_signOf 16 = .ok (.iconst 0, 1) := by decide +kernel
theorem dX9_signOf_17 : decode cX9_signOf 17 = .ok (.ireturn, 1) := by decide +kernel
theorem dX10_init_0 : decode cX10_init 0 = .ok (.aload_n 0, 1) := by decide +kernel
theorem dX10_init_1 : decode cX10_init 1 = .ok (.invokespecial 1, 3) := by decide +kernel
theorem dX10_init_4 : decode cX10_init 4 = .ok (.aload_n 0, 1) := by decide +kernel
theorem dX10_init_5 : decode cX10_init 5 = .ok (.sipush 1728, 3) := by decide +kernel
theorem dX10_init_8 : decode cX10_init 8 = .ok (.newarray .boolean, 2) := by decide +kernel
theorem dX10_init_10 : decode cX10_init 10 = .ok (.putfield 9, 3) := by decide +kernel
theorem dX10_init_13 : decode cX10_init 13 = .ok (.aload_n 0, 1) := by decide +kernel
theorem dX10_init_14 : decode cX10_init 14 = .ok (.iconst 1, 1) := by decide +kernel
theorem dX10_init_15 : decode cX10_init 15 = .ok (.putfield 13, 3) := by decide +kernel
theorem dX10_init_18 : decode cX10_init 18 = .ok (.aload_n 0, 1) := by decide +kernel
theorem dX10_init_19 : decode cX10_init 19 = .ok (.iconst 1, 1) := by decide +kernel
theorem dX10_init_20 : decode cX10_init 20 = .ok (.putfield 17, 3) := by decide +kernel
theorem dX10_init_23 : decode cX10_init 23 = .ok (.aload_n 0, 1) := by decide +kernel
theorem dX10_init_24 : decode cX10_init 24 = .ok (.iconst 3, 1) := by decide +kernel
theorem dX10_init_25 : decode cX10_init 25 = .ok (.putfield 20, 3) := by decide +kernel
theorem dX10_init_28 : decode cX10_init 28 = .ok (.aload_n 0, 1) := by decide +kernel
theorem dX10_init_29 : decode cX10_init 29 = .ok (.iconst 4, 1) := by decide +kernel
theorem dX10_init_30 : decode cX10_init 30 = .ok (.putfield 23, 3) := by decide +kernel
theorem dX10_init_33 : decode cX10_init 33 = .ok (.aload_n 0, 1) := by decide +kernel
theorem dX10_init_34 : decode cX10_init 34 = .ok (.bipush 108, 2) := by decide +kernel
theorem dX10_init_36 : decode cX10_init 36 = .ok (.putfield 26, 3) := by decide +kernel
theorem dX10_init_39 : decode cX10_init 39 = .ok (.aload_n 0, 1) := by decide +kernel
theorem dX10_init_40 : decode cX10_init 40 = .ok (.bipush 12, 2) := by decide +kernel
theorem dX10_init_42 : decode cX10_init 42 = .ok (.newarray .int, 2) := by decide +kernel
theorem dX10_init_44 : decode cX10_init 44 = .ok (.putfield 30, 3) := by decide +kernel
theorem dX10_init_47 : decode cX10_init 47 = .ok (.aload_n 0, 1) := by decide +kernel
theorem dX10_init_48 : decode cX10_init 48 = .ok (.bipush 12, 2) := by decide +kernel
theorem dX10_init_50 : decode cX10_init 50 = .ok (.newarray .boolean, 2) := by decide +kernel
theorem dX10_init_52 : decode cX10_init 52 = .ok (.putfield 34, 3) := by decide +kernel
theorem dX10_init_55 : decode cX10_init 55 = .ok (.aload_n 0, 1) := by decide +kernel
theorem dX10_init_56 : decode cX10_init 56 = .ok (.sipush 9000, 3) := by decide +kernel
theorem dX10_init_59 : decode cX10_init 59 = .ok (.newarray .char, 2) := by decide +kernel
theorem dX10_init_61 : decode cX10_init 61 = .ok (.putfield 37, 3) := by decide +kernel
theorem dX10_init_64 : decode cX10_init 64 = .ok (.aload_n 0, 1) := by decide +kernel
theorem dX10_init_65 : decode cX10_init 65 = .ok (.sipush 9000, 3) := by decide +kernel
theorem dX10_init_68 : decode cX10_init 68 = .ok (.newarray .int, 2) := by decide +kernel
theorem dX10_init_70 : decode cX10_init 70 = .ok (.putfield 41, 3) := by decide +kernel
theorem dX10_init_73 : decode cX10_init 73 = .ok (.aload_n 0, 1) := by decide +kernel
theorem dX10_init_74 : decode cX10_init 74 = .ok (.sipush 9000, 3) := by decide +kernel
theorem dX10_init_77 : decode cX10_init 77 = .ok (.newarray .int, 2) := by decide +kernel
theorem dX10_init_79 : decode cX10_init 79 = .ok (.putfield 44, 3) := by decide +kernel
theorem dX10_init_82 : decode cX10_init 82 = .ok (.aload_n 0, 1) := by decide +kernel
theorem dX10_init_83 : decode cX10_init 83 = .ok (.sipush 9000, 3) := by decide +kernel
theorem dX10_init_86 : decode cX10_init 86 = .ok (.newarray .int, 2) := by decide +kernel
theorem dX10_init_88 : decode cX10_init 88 = .ok (.putfield 47, 3) := by decide +kernel
theorem dX10_init_91 : decode cX10_init 91 = .ok (.aload_n 0, 1) := by decide +kernel
theorem dX10_init_92 : decode cX10_init 92 = .ok (.sipush 9000, 3) := by decide +kernel
theorem dX10_init_95 : decode cX10_init 95 = .ok (.newarray .int, 2) := by decide +kernel
theorem dX10_init_97 : decode cX10_init 97 = .ok (.putfield 50, 3) := by decide +kernel
theorem dX10_init_100 : decode cX10_init 100 = .ok (.aload_n 0, 1) := by decide +kernel
theorem dX10_init_101 : decode cX10_init 101 = .ok (.sipush 9000, 3) := by decide +kernel
theorem dX10_init_104 : decode cX10_init 104 = .ok (.newarray .int, 2) := by decide +kernel
theorem dX10_init_106 : decode cX10_init 106 = .ok (.putfield 53, 3) := by decide +kernel
theorem dX10_init_109 : decode cX10_init 109 = .ok (.aload_n 0, 1) := by decide +kernel
theorem dX10_init_110 : decode cX10_init 110 = .ok (.sipush 9000, 3) := by decide +kernel
theorem dX10_init_113 : decode cX10_init 113 = .ok (.newarray .int, 2) := by decide +kernel
theorem dX10_init_115 : decode cX10_init 115 = .ok (.putfield 56, 3) := by decide +kernel
theorem dX10_init_118 : decode cX10_init 118 = .ok (.aload_n 0, 1) := by decide +kernel
theorem dX10_init_119 : decode cX10_init 119 = .ok (.sipush 9000, 3) := by decide +kernel
theorem dX10_init_122 : decode cX10_init 122 = .ok (.newarray .int, 2) := by decide +kernel
theorem dX10_init_124 : decode cX10_init 124 = .ok (.putfield 59, 3) := by decide +kernel
theorem dX10_init_127 : decode cX10_init 127 = .ok (.aload_n 0, 1) := by decide +kernel
theorem dX10_init_128 : decode cX10_init 128 = .ok (.bipush 105, 2) := by decide +kernel
theorem dX10_init_130 : decode cX10_init 130 = .ok (.putfield 62, 3) := by decide +kernel
theorem dX10_init_133 : decode cX10_init 133 = .ok (.aload_n 0, 1) := by decide +kernel
theorem dX10_init_134 : decode cX10_init 134 = .ok (.iconst (-1), 1) := by decide +kernel
theorem dX10_init_135 : decode cX10_init 135 = .ok (.putfield 65, 3) := by decide +kernel
theorem dX10_init_138 : decode cX10_init 138 = .ok (.aload_n 0, 1) := by decide +kernel
theorem dX10_init_139 : decode cX10_init 139 = .ok (.bipush 20, 2) := by decide +kernel
theorem dX10_init_141 : decode cX10_init 141 = .ok (.putfield 68, 3) := by decide +kernel
theorem dX10_init_144 : decode cX10_init 144 = .ok (.aload_n 0, 1) := by decide +kernel
theorem dX10_init_145 : decode cX10_init 145 = .ok (.sipush 1728, 3) := by decide +kernel
theorem dX10_init_148 : decode cX10_init 148 = .ok (.newarray .int, 2) := by decide +kernel
theorem dX10_init_150 : decode cX10_init 150 = .ok (.putfield 71, 3) := by decide +kernel
theorem dX10_init_153 : decode cX10_init 153 = .ok (.aload_n 0, 1) := by decide +kernel
theorem dX10_init_154 : decode cX10_init 154 = .ok (.sipush 196, 3) := by decide +kernel
theorem dX10_init_157 : decode cX10_init 157 = .ok (.newarray .int, 2) := by decide +kernel
theorem dX10_init_159 : decode cX10_init 159 = .ok (.putfield 74, 3) := by decide +kernel
theorem dX10_init_162 : decode cX10_init 162 = .ok (.aload_n 0, 1) := by decide +kernel
theorem dX10_init_163 : decode cX10_init 163 = .ok (.sipush 144, 3) := by decide +kernel
theorem dX10_init_166 : decode cX10_init 166 = .ok (.newarray .char, 2) := by decide +kernel
theorem dX10_init_168 : decode cX10_init 168 = .ok (.putfield 77, 3) := by decide +kernel
theorem dX10_init_171 : decode cX10_init 171 = .ok (.aload_n 0, 1) := by decide +kernel
theorem dX10_init_172 : decode cX10_init 172 = .ok (.sipush 144, 3) := by decide +kernel
theorem dX10_init_175 : decode cX10_init 175 = .ok (.newarray .int, 2) := by decide +kernel
theorem dX10_init_177 : decode cX10_init 177 = .ok (.putfield 80, 3) := by decide +kernel
theorem dX10_init_180 : decode cX10_init 180 = .ok (.aload_n 0, 1) := by decide +kernel
theorem dX10_init_181 : decode cX10_init 181 = .ok (.sipush 144, 3) := by decide +kernel
theorem dX10_init_184 : decode cX10_init 184 = .ok (.newarray .int, 2) := by decide +kernel
theorem dX10_init_186 : decode cX10_init 186 = .ok (.putfield 83, 3) := by decide +kernel
theorem dX10_init_189 : decode cX10_init 189 = .ok (.aload_n 0, 1) := by decide +kernel
theorem dX10_init_190 : decode cX10_init 190 = .ok (.sipush 144, 3) := by decide +kernel
theorem dX10_init_193 : decode cX10_init 193 = .ok (.newarray .int, 2) := by decide +kernel
theorem dX10_init_195 : decode cX10_init 195 = .ok (.putfield 86, 3) := by decide +kernel
theorem dX10_init_198 : decode cX10_init 198 = .ok (.aload_n 0, 1) := by decide +kernel
theorem dX10_init_199 : decode cX10_init 199 = .ok (.sipush 144, 3) := by decide +kernel
theorem dX10_init_202 : decode cX10_init 202 = .ok (.newarray .int, 2) := by decide +kernel
theorem dX10_init_204 : decode cX10_init 204 = .ok (.putfield 89, 3) := by decide +kernel
theorem dX10_init_207 : decode cX10_init 207 = .ok (.aload_n 0, 1) := by decide +kernel
theorem dX10_init_208 : decode cX10_init 208 = .ok (.sipush 144, 3) := by decide +kernel
theorem dX10_init_211 : decode cX10_init 211 = .ok (.newarray .char, 2) := by decide +kernel
theorem dX10_init_213 : decode cX10_init 213 = .ok (.putfield 92, 3) := by decide +kernel
theorem dX10_init_216 : decode cX10_init 216 = .ok (.aload_n 0, 1) := by decide +kernel
theorem dX10_init_217 : decode cX10_init 217 = .ok (.sipush 144, 3) := by decide +kernel
theorem dX10_init_220 : decode cX10_init 220 = .ok (.newarray .boolean, 2) := by decide +kernel
theorem dX10_init_222 : decode cX10_init 222 = .ok (.putfield 95, 3) := by decide +kernel
theorem dX10_init_225 : decode cX10_init 225 = .ok (.iconst 0, 1) := by decide +kernel
theorem dX10_init_226 : decode cX10_init 226 = .ok (.istore_n 1, 1) := by decide +kernel
theorem dX10_init_227 : decode cX10_init 227 = .ok (.iload_n 1, 1) := by decide +kernel
theorem dX10_init_228 : decode cX10_init 228 = .ok (.bipush 12, 2) := by decide +kernel
theorem dX10_init_230 : decode cX10_init 230 = .ok (.if_icmp .ge 16, 3) := by decide +kernel
theorem dX10_init_233 : decode cX10_init 233 = .ok (.aload_n 0, 1) := by decide +kernel
theorem dX10_init_234 : decode cX10_init 234 = .ok (.getfield 30, 3) := by decide +kernel
theorem dX10_init_237 : decode cX10_init 237 = .ok (.iload_n 1, 1) := by decide +kernel
theorem dX10_init_238 : decode cX10_init 238 = .ok (.iconst 1, 1) := by decide +kernel
theorem dX10_init_239 : decode cX10_init 239 = .ok (.iastore, 1) := by decide +kernel
theorem dX10_init_240 : decode cX10_init 240 = .ok (.iinc 1 1, 3) := by decide +kernel
theorem dX10_init_243 : decode cX10_init 243 = .ok (.goto (-16), 3) := by decide +kernel
theorem dX10_init_246 : decode cX10_init 246 = .ok (.return_, 1) := by decide +kernel
theorem dX10_thrown_0 : decode cX10_thrown 0 = .ok (.aload_n 0, 1) := by decide +kernel
theorem dX10_thrown_1 : decode cX10_thrown 1 = .ok (.getfield 98, 3) := by decide +kernel
theorem dX10_thrown_4 : decode cX10_thrown 4 = .ok (.ireturn, 1) := by decide +kernel
theorem dX10_in_0 : decode cX10_in 0 = .ok (.iload_n 0, 1) := by decide +kernel
theorem dX10_in_1 : decode cX10_in 1 = .ok (.iload_n 1, 1) := by decide +kernel
theorem dX10_in_2 : decode cX10_in 2 = .ok (.if_icmp .lt 12, 3) := by decide +kernel
theorem dX10_in_5 : decode cX10_in 5 = .ok (.iload_n 0, 1) := by decide +kernel
theorem dX10_in_6 : decode cX10_in 6 = .ok (.iload_n 2, 1) := by decide +kernel
theorem dX10_in_7 : decode cX10_in 7 = .ok (.if_icmp .gt 7, 3) := by decide +kernel
theorem dX10_in_10 : decode cX10_in 10 = .ok (.iconst 1, 1) := by decide +kernel
theorem dX10_in_11 : decode cX10_in 11 = .ok (.goto 4, 3) := by decide +kernel
theorem dX10_in_14 : decode cX10_in 14 = .ok (.iconst 0, 1) := by decide +kernel
theorem dX10_in_15 : decode cX10_in 15 = .ok (.ireturn, 1) := by decide +kernel
theorem dX10_goesOn_0 : decode cX10_goesOn 0 = .ok (.aload_n 0, 1) := by decide +kernel
theorem dX10_goesOn_1 : decode cX10_goesOn 1 = .ok (.iload_n 1, 1) := by decide +kernel
theorem dX10_goesOn_2 : decode cX10_goesOn 2 = .ok (.putfield 98, 3) := by decide +kernel
theorem dX10_goesOn_5 : decode cX10_goesOn 5 = .ok (.iload_n 1, 1) := by decide +kernel
theorem dX10_goesOn_6 : decode cX10_goesOn 6 = .ok (.ifCond .ne 7, 3) := by decide +kernel
theorem dX10_goesOn_9 : decode cX10_goesOn 9 = .ok (.iconst 1, 1) := by decide +kernel
theorem dX10_goesOn_10 : decode cX10_goesOn 10 = .ok (.goto 4, 3) := by decide +kernel
theorem dX10_goesOn_13 : decode cX10_goesOn 13 = .ok (.iconst 0, 1) := by decide +kernel
theorem dX10_goesOn_14 : decode cX10_goesOn 14 = .ok (.ireturn, 1) := by decide +kernel
theorem dX10_isPlace_0 : decode cX10_isPlace 0 = .ok (.iload_n 0, 1) := by decide +kernel
theorem dX10_isPlace_1 : decode cX10_isPlace 1 = .ok (.iconst 0, 1) := by decide +kernel
theorem dX10_isPlace_2 : decode cX10_isPlace 2 = .ok (.bipush 11, 2) := by decide +kernel
theorem dX10_isPlace_4 : decode cX10_isPlace 4 = .ok (.invokestatic 101, 3) := by decide +kernel
theorem dX10_isPlace_7 : decode cX10_isPlace 7 = .ok (.ifCond .eq 27, 3) := by decide +kernel
theorem dX10_isPlace_10 : decode cX10_isPlace 10 = .ok (.iload_n 1, 1) := by decide +kernel
theorem dX10_isPlace_11 : decode cX10_isPlace 11 = .ok (.iconst 0, 1) := by decide +kernel
theorem dX10_isPlace_12 : decode cX10_isPlace 12 = .ok (.bipush 11, 2) := by decide +kernel
theorem dX10_isPlace_14 : decode cX10_isPlace 14 = .ok (.invokestatic 101, 3) := by decide +kernel
theorem dX10_isPlace_17 : decode cX10_isPlace 17 = .ok (.ifCond .eq 17, 3) := by decide +kernel
theorem dX10_isPlace_20 : decode cX10_isPlace 20 = .ok (.iload_n 2, 1) := by decide +kernel
theorem dX10_isPlace_21 : decode cX10_isPlace 21 = .ok (.iconst 0, 1) := by decide +kernel
theorem dX10_isPlace_22 : decode cX10_isPlace 22 = .ok (.bipush 11, 2) := by decide +kernel
theorem dX10_isPlace_24 : decode cX10_isPlace 24 = .ok (.invokestatic 101, 3) := by decide +kernel
theorem dX10_isPlace_27 : decode cX10_isPlace 27 = .ok (.ifCond .eq 7, 3) := by decide +kernel
theorem dX10_isPlace_30 : decode cX10_isPlace 30 = .ok (.iconst 1, 1) := by decide +kernel
theorem dX10_isPlace_31 : decode cX10_isPlace 31 = .ok (.goto 4, 3) := by decide +kernel
theorem dX10_isPlace_34 : decode cX10_isPlace 34 = .ok (.iconst 0, 1) := by decide +kernel
theorem dX10_isPlace_35 : decode cX10_isPlace 35 = .ok (.ireturn, 1) := by decide +kernel
theorem dX10_cell_0 : decode cX10_cell 0 = .ok (.sipush 144, 3) := by decide +kernel
theorem dX10_cell_3 : decode cX10_cell 3 = .ok (.iload_n 2, 1) := by decide +kernel
theorem dX10_cell_4 : decode cX10_cell 4 = .ok (.imul, 1) := by decide +kernel
theorem dX10_cell_5 : decode cX10_cell 5 = .ok (.bipush 12, 2) := by decide +kernel
theorem dX10_cell_7 : decode cX10_cell 7 = .ok (.iload_n 1, 1) := by decide +kernel
theorem dX10_cell_8 : decode cX10_cell 8 = .ok (.imul, 1) := by decide +kernel
theorem dX10_cell_9 : decode cX10_cell 9 = .ok (.iadd, 1) := by decide +kernel
theorem dX10_cell_10 : decode cX10_cell 10 = .ok (.iload_n 0, 1) := by decide +kernel
theorem dX10_cell_11 : decode cX10_cell 11 = .ok (.iadd, 1) := by decide +kernel
theorem dX10_cell_12 : decode cX10_cell 12 = .ok (.ireturn, 1) := by decide +kernel
theorem dX10_isSolid_0 : decode cX10_isSolid 0 = .ok (.iload_n 1, 1) := by decide +kernel
theorem dX10_isSolid_1 : decode cX10_isSolid 1 = .ok (.iload_n 2, 1) := by decide +kernel
theorem dX10_isSolid_2 : decode cX10_isSolid 2 = .ok (.iload_n 3, 1) := by decide +kernel
theorem dX10_isSolid_3 : decode cX10_isSolid 3 = .ok (.invokestatic 105, 3) := by decide +kernel
theorem dX10_isSolid_6 : decode cX10_isSolid 6 = .ok (.ifCond .eq 21, 3) := by decide +kernel
theorem dX10_isSolid_9 : decode cX10_isSolid 9 = .ok (.aload_n 0, 1) := by decide +kernel
theorem dX10_isSolid_10 : decode cX10_isSolid 10 = .ok (.getfield 9, 3) := by decide +kernel
theorem dX10_isSolid_13 : decode cX10_isSolid 13 = .ok (.iload_n 1, 1) := by decide +kernel
theorem dX10_isSolid_14 : decode cX10_isSolid 14 = .ok (.iload_n 2, 1) := by decide +kernel
theorem dX10_isSolid_15 : decode cX10_isSolid 15 = .ok (.iload_n 3, 1) := by decide +kernel
theorem dX10_isSolid_16 : decode cX10_isSolid 16 = .ok (.invokestatic 108, 3) := by decide +kernel
theorem dX10_isSolid_19 : decode cX10_isSolid 19 = .ok (.baload, 1) := by decide +kernel
theorem dX10_isSolid_20 : decode cX10_isSolid 20 = .ok (.ifCond .eq 7, 3) := by decide +kernel
theorem dX10_isSolid_23 : decode cX10_isSolid 23 = .ok (.iconst 1, 1) := by decide +kernel
theorem dX10_isSolid_24 : decode cX10_isSolid 24 = .ok (.goto 4, 3) := by decide +kernel
theorem dX10_isSolid_27 : decode cX10_isSolid 27 = .ok (.iconst 0, 1) := by decide +kernel
theorem dX10_isSolid_28 : decode cX10_isSolid 28 = .ok (.ireturn, 1) := by decide +kernel
theorem dX10_stepX_0 : decode cX10_stepX 0 = .ok (.iload_n 0, 1) := by decide +kernel
theorem dX10_stepX_1 : decode cX10_stepX 1 = .ok (.ifCond .ne 7, 3) := by decide +kernel
theorem dX10_stepX_4 : decode cX10_stepX 4 = .ok (.iconst 1, 1) := by decide +kernel
theorem dX10_stepX_5 : decode cX10_stepX 5 = .ok (.goto 13, 3) := by decide +kernel
theorem dX10_stepX_8 : decode cX10_stepX 8 = .ok (.iload_n 0, 1) := by decide +kernel
theorem dX10_stepX_9 : decode cX10_stepX 9 = .ok (.iconst 1, 1) := by decide +kernel
theorem dX10_stepX_10 : decode cX10_stepX 10 = .ok (.if_icmp .ne 7, 3) := by decide +kernel
theorem dX10_stepX_13 : decode cX10_stepX 13 = .ok (.iconst (-1), 1) := by decide +kernel
theorem dX10_stepX_14 : decode cX10_stepX 14 = .ok (.goto 4, 3) := by decide +kernel
theorem dX10_stepX_17 : decode cX10_stepX 17 = .ok (.iconst 0, 1) := by decide +kernel
theorem dX10_stepX_18 : decode cX10_stepX 18 = .ok (.ireturn, 1) := by decide +kernel
theorem dX10_stepY_0 : decode cX10_stepY 0 = .ok (.iload_n 0, 1) := by decide +kernel
theorem dX10_stepY_1 : decode cX10_stepY 1 = .ok (.iconst 2, 1) := by decide +kernel
theorem dX10_stepY_2 : decode cX10_stepY 2 = .ok (.if_icmp .ne 7, 3) := by decide +kernel
theorem dX10_stepY_5 : decode cX10_stepY 5 = .ok (.iconst 1, 1) := by decide +kernel
theorem dX10_stepY_6 : decode cX10_stepY 6 = .ok (.goto 13, 3) := by decide +kernel
theorem dX10_stepY_9 : decode cX10_stepY 9 = .ok (.iload_n 0, 1) := by decide +kernel
theorem dX10_stepY_10 : decode cX10_stepY 10 = .ok (.iconst 3, 1) := by decide +kernel
theorem dX10_stepY_11 : decode cX10_stepY 11 = .ok (.if_icmp .ne 7, 3) := by decide +kernel
theorem dX10_stepY_14 : decode cX10_stepY 14 = .ok (.iconst (-1), 1) := by decide +kernel
theorem dX10_stepY_15 : decode cX10_stepY 15 = .ok (.goto 4, 3) := by decide +kernel
theorem dX10_stepY_18 : decode cX10_stepY 18 = .ok (.iconst 0, 1) := by decide +kernel
theorem dX10_stepY_19 : decode cX10_stepY 19 = .ok (.ireturn, 1) := by decide +kernel
theorem dX10_sign_0 : decode cX10_sign 0 = .ok (.iload_n 0, 1) := by decide +kernel
theorem dX10_sign_1 : decode cX10_sign 1 = .ok (.ifCond .le 7, 3) := by decide +kernel
theorem dX10_sign_4 : decode cX10_sign 4 = .ok (.iconst 1, 1) := by decide +kernel
theorem dX10_sign_5 : decode cX10_sign 5 = .ok (.goto 12, 3) := by decide +kernel
theorem dX10_sign_8 : decode cX10_sign 8 = .ok (.iload_n 0, 1) := by decide +kernel
theorem dX10_sign_9 : decode cX10_sign 9 = .ok (.ifCond .ge 7, 3) := by decide +kernel
theorem dX10_sign_12 : decode cX10_sign 12 = .ok (.iconst (-1), 1) := by decide +kernel
theorem dX10_sign_13 : decode cX10_sign 13 = .ok (.goto 4, 3) := by decide +kernel
theorem dX10_sign_16 : decode cX10_sign 16 = .ok (.iconst 0, 1) := by decide +kernel
theorem dX10_sign_17 : decode cX10_sign 17 = .ok (.ireturn, 1) := by decide +kernel
theorem dX10_far_0 : decode cX10_far 0 = .ok (.iload_n 0, 1) := by decide +kernel
theorem dX10_far_1 : decode cX10_far 1 = .ok (.ifCond .ge 8, 3) := by decide +kernel
theorem dX10_far_4 : decode cX10_far 4 = .ok (.iload_n 0, 1) := by decide +kernel
theorem dX10_far_5 : decode cX10_far 5 = .ok (.ineg, 1) := by decide +kernel
theorem dX10_far_6 : decode cX10_far 6 = .ok (.goto 4, 3) := by decide +kernel
theorem dX10_far_9 : decode cX10_far 9 = .ok (.iload_n 0, 1) := by decide +kernel
theorem dX10_far_10 : decode cX10_far 10 = .ok (.ireturn, 1) := by decide +kernel
theorem dX10_box_0 : decode cX10_box 0 = .ok (.iload_n 1, 1) := by decide +kernel
theorem dX10_box_1 : decode cX10_box 1 = .ok (.iload_n 2, 1) := by decide +kernel
theorem dX10_box_2 : decode cX10_box 2 = .ok (.iload_n 3, 1) := by decide +kernel
theorem dX10_box_3 : decode cX10_box 3 = .ok (.invokestatic 105, 3) := by decide +kernel
theorem dX10_box_6 : decode cX10_box 6 = .ok (.ifCond .eq 46, 3) := by decide +kernel
theorem dX10_box_9 : decode cX10_box 9 = .ok (.iload 4, 2) := by decide +kernel
theorem dX10_box_11 : decode cX10_box 11 = .ok (.iconst 1, 1) := by decide +kernel
theorem dX10_box_12 : decode cX10_box 12 = .ok (.bipush 12, 2) := by decide +kernel
theorem dX10_box_14 : decode cX10_box 14 = .ok (.iload_n 1, 1) := by decide +kernel
theorem dX10_box_15 : decode cX10_box 15 = .ok (.isub, 1) := by decide +kernel
theorem dX10_box_16 : decode cX10_box 16 = .ok (.invokestatic 101, 3) := by decide +kernel
theorem dX10_box_19 : decode cX10_box 19 = .ok (.ifCond .eq 33, 3) := by decide +kernel
theorem dX10_box_22 : decode cX10_box 22 = .ok (.iload 5, 2) := by decide +kernel
theorem dX10_box_24 : decode cX10_box 24 = .ok (.iconst 1, 1) := by decide +kernel
theorem dX10_box_25 : decode cX10_box 25 = .ok (.bipush 12, 2) := by decide +kernel
theorem dX10_box_27 : decode cX10_box 27 = .ok (.iload_n 2, 1) := by decide +kernel
theorem dX10_box_28 : decode cX10_box 28 = .ok (.isub, 1) := by decide +kernel
theorem dX10_box_29 : decode cX10_box 29 = .ok (.invokestatic 101, 3) := by decide +kernel
theorem dX10_box_32 : decode cX10_box 32 = .ok (.ifCond .eq 20, 3) := by decide +kernel
theorem dX10_box_35 : decode cX10_box 35 = .ok (.iload 6, 2) := by decide +kernel
theorem dX10_box_37 : decode cX10_box 37 = .ok (.iconst 1, 1) := by decide +kernel
theorem dX10_box_38 : decode cX10_box 38 = .ok (.bipush 12, 2) := by decide +kernel
theorem dX10_box_40 : decode cX10_box 40 = .ok (.iload_n 3, 1) := by decide +kernel
theorem dX10_box_41 : decode cX10_box 41 = .ok (.isub, 1) := by decide +kernel
theorem dX10_box_42 : decode cX10_box 42 = .ok (.invokestatic 101, 3) := by decide +kernel
theorem dX10_box_45 : decode cX10_box 45 = .ok (.ifCond .eq 7, 3) := by decide +kernel
theorem dX10_box_48 : decode cX10_box 48 = .ok (.iconst 1, 1) := by decide +kernel
theorem dX10_box_49 : decode cX10_box 49 = .ok (.goto 4, 3) := by decide +kernel
theorem dX10_box_52 : decode cX10_box 52 = .ok (.iconst 0, 1) := by decide +kernel
theorem dX10_box_53 : decode cX10_box 53 = .ok (.istore 8, 2) := by decide +kernel
theorem dX10_box_55 : decode cX10_box 55 = .ok (.aload_n 0, 1) := by decide +kernel
theorem dX10_box_56 : decode cX10_box 56 = .ok (.iload 8, 2) := by decide +kernel
theorem dX10_box_58 : decode cX10_box 58 = .ok (.ifCond .eq 7, 3) := by decide +kernel
theorem dX10_box_61 : decode cX10_box 61 = .ok (.iconst 0, 1) := by decide +kernel
theorem dX10_box_62 : decode cX10_box 62 = .ok (.goto 4, 3) := by decide +kernel
theorem dX10_box_65 : decode cX10_box 65 = .ok (.iconst 1, 1) := by decide +kernel
theorem dX10_box_66 : decode cX10_box 66 = .ok (.invokevirtual 112, 3) := by decide +kernel
theorem dX10_box_69 : decode cX10_box 69 = .ok (.ifCond .ne 5, 3) := by decide +kernel
theorem dX10_box_72 : decode cX10_box 72 = .ok (.iconst 0, 1) := by decide +kernel
theorem dX10_box_73 : decode cX10_box 73 = .ok (.ireturn, 1) := by decide +kernel
theorem dX10_box_74 : decode cX10_box 74 = .ok (.iconst 0, 1) := by decide +kernel
theorem dX10_box_75 : decode cX10_box 75 = .ok (.istore 9, 2) := by decide +kernel
theorem dX10_box_77 : decode cX10_box 77 = .ok (.iconst 0, 1) := by decide +kernel
theorem dX10_box_78 : decode cX10_box 78 = .ok (.istore 10, 2) := by decide +kernel
theorem dX10_box_80 : decode cX10_box 80 = .ok (.iload 10, 2) := by decide +kernel
theorem dX10_box_82 : decode cX10_box 82 = .ok (.iload 4, 2) := by decide +kernel
theorem dX10_box_84 : decode cX10_box 84 = .ok (.iload 5, 2) := by decide +kernel
theorem dX10_box_86 : decode cX10_box 86 = .ok (.imul, 1) := by decide +kernel
theorem dX10_box_87 : decode cX10_box 87 = .ok (.iload 6, 2) := by decide +kernel
theorem dX10_box_89 : decode cX10_box 89 = .ok (.imul, 1) := by decide +kernel
theorem dX10_box_90 : decode cX10_box 90 = .ok (.if_icmp .ge 72, 3) := by decide +kernel
theorem dX10_box_93 : decode cX10_box 93 = .ok (.iload_n 1, 1) := by decide +kernel
theorem dX10_box_94 : decode cX10_box 94 = .ok (.iload 10, 2) := by decide +kernel
theorem dX10_box_96 : decode cX10_box 96 = .ok (.iload 4, 2) := by decide +kernel
theorem dX10_box_98 : decode cX10_box 98 = .ok (.irem, 1) := by decide +kernel
theorem dX10_box_99 : decode cX10_box 99 = .ok (.iadd, 1) := by decide +kernel
theorem dX10_box_100 : decode cX10_box 100 = .ok (.iload_n 2, 1) := by decide +kernel
theorem dX10_box_101 : decode cX10_box 101 = .ok (.iload 10, 2) := by decide +kernel
theorem dX10_box_103 : decode cX10_box 103 = .ok (.iload 4, 2) := by decide +kernel
theorem dX10_box_105 : decode cX10_box 105 = .ok (.idiv, 1) := by decide +kernel
theorem dX10_box_106 : decode cX10_box 106 = .ok (.iload 5, 2) := by decide +kernel
theorem dX10_box_108 : decode cX10_box 108 = .ok (.irem, 1) := by decide +kernel
theorem dX10_box_109 : decode cX10_box 109 = .ok (.iadd, 1) := by decide +kernel
theorem dX10_box_110 : decode cX10_box 110 = .ok (.iload_n 3, 1) := by decide +kernel
theorem dX10_box_111 : decode cX10_box 111 = .ok (.iload 10, 2) := by decide +kernel
theorem dX10_box_113 : decode cX10_box 113 = .ok (.iload 4, 2) := by decide +kernel
theorem dX10_box_115 : decode cX10_box 115 = .ok (.iload 5, 2) := by decide +kernel
theorem dX10_box_117 : decode cX10_box 117 = .ok (.imul, 1) := by decide +kernel
theorem dX10_box_118 : decode cX10_box 118 = .ok (.idiv, 1) := by decide +kernel
theorem dX10_box_119 : decode cX10_box 119 = .ok (.iadd, 1) := by decide +kernel
theorem dX10_box_120 : decode cX10_box 120 = .ok (.invokestatic 108, 3) := by decide +kernel
theorem dX10_box_123 : decode cX10_box 123 = .ok (.istore 11, 2) := by decide +kernel
theorem dX10_box_125 : decode cX10_box 125 = .ok (.iload 9, 2) := by decide +kernel
theorem dX10_box_127 : decode cX10_box 127 = .ok (.aload_n 0, 1) := by decide +kernel
theorem dX10_box_128 : decode cX10_box 128 = .ok (.getfield 9, 3) := by decide +kernel
theorem dX10_box_131 : decode cX10_box 131 = .ok (.iload 11, 2) := by decide +kernel
theorem dX10_box_133 : decode cX10_box 133 = .ok (.baload, 1) := by decide +kernel
theorem dX10_box_134 : decode cX10_box 134 = .ok (.iload 7, 2) := by decide +kernel
theorem dX10_box_136 : decode cX10_box 136 = .ok (.if_icmp .eq 7, 3) := by decide +kernel
theorem dX10_box_139 : decode cX10_box 139 = .ok (.iconst 1, 1) := by decide +kernel
theorem dX10_box_140 : decode cX10_box 140 = .ok (.goto 4, 3) := by decide +kernel
theorem dX10_box_143 : decode cX10_box 143 = .ok (.iconst 0, 1) := by decide +kernel
theorem dX10_box_144 : decode cX10_box 144 = .ok (.iadd, 1) := by decide +kernel
theorem dX10_box_145 : decode cX10_box 145 = .ok (.istore 9, 2) := by decide +kernel
theorem dX10_box_147 : decode cX10_box 147 = .ok (.aload_n 0, 1) := by decide +kernel
theorem dX10_box_148 : decode cX10_box 148 = .ok (.getfield 9, 3) := by decide +kernel
theorem dX10_box_151 : decode cX10_box 151 = .ok (.iload 11, 2) := by decide +kernel
theorem dX10_box_153 : decode cX10_box 153 = .ok (.iload 7, 2) := by decide +kernel
theorem dX10_box_155 : decode cX10_box 155 = .ok (.bastore, 1) := by decide +kernel
theorem dX10_box_156 : decode cX10_box 156 = .ok (.iinc 10 1, 3) := by decide +kernel
theorem dX10_box_159 : decode cX10_box 159 = .ok (.goto (-79), 3) := by decide +kernel
theorem dX10_box_162 : decode cX10_box 162 = .ok (.iload 9, 2) := by decide +kernel
theorem dX10_box_164 : decode cX10_box 164 = .ok (.ireturn, 1) := by decide +kernel
theorem dX10_setting_0 : decode cX10_setting 0 = .ok (.iload_n 1, 1) := by decide +kernel
theorem dX10_setting_1 : decode cX10_setting 1 = .ok (.bipush 119, 2) := by decide +kernel
theorem dX10_setting_3 : decode cX10_setting 3 = .ok (.if_icmp .ne 10, 3) := by decide +kernel
theorem dX10_setting_6 : decode cX10_setting 6 = .ok (.aload_n 0, 1) := by decide +kernel
theorem dX10_setting_7 : decode cX10_setting 7 = .ok (.getfield 13, 3) := by decide +kernel
theorem dX10_setting_10 : decode cX10_setting 10 = .ok (.goto 69, 3) := by decide +kernel
theorem dX10_setting_13 : decode cX10_setting 13 = .ok (.iload_n 1, 1) := by decide +kernel
theorem dX10_setting_14 : decode cX10_setting 14 = .ok (.bipush 107, 2) := by decide +kernel
theorem dX10_setting_16 : decode cX10_setting 16 = .ok (.if_icmp .ne 10, 3) := by decide +kernel
theorem dX10_setting_19 : decode cX10_setting 19 = .ok (.aload_n 0, 1) := by decide +kernel
theorem dX10_setting_20 : decode cX10_setting 20 = .ok (.getfield 17, 3) := by decide +kernel
theorem dX10_setting_23 : decode cX10_setting 23 = .ok (.goto 56, 3) := by decide +kernel
theorem dX10_setting_26 : decode cX10_setting 26 = .ok (.iload_n 1, 1) := by decide +kernel
theorem dX10_setting_27 : decode cX10_setting 27 = .ok (.bipush 100, 2) := by decide +kernel
theorem dX10_setting_29 : decode cX10_setting 29 = .ok (.if_icmp .ne 10, 3) := by decide +kernel
theorem dX10_setting_32 : decode cX10_setting 32 = .ok (.aload_n 0, 1) := by decide +kernel
theorem dX10_setting_33 : decode cX10_setting 33 = .ok (.getfield 20, 3) := by decide +kernel
theorem dX10_setting_36 : decode cX10_setting 36 = .ok (.goto 43, 3) := by decide +kernel
theorem dX10_setting_39 : decode cX10_setting 39 = .ok (.iload_n 1, 1) := by decide +kernel
theorem dX10_setting_40 : decode cX10_setting 40 = .ok (.bipush 115, 2) := by decide +kernel
theorem dX10_setting_42 : decode cX10_setting 42 = .ok (.if_icmp .ne 10, 3) := by decide +kernel
theorem dX10_setting_45 : decode cX10_setting 45 = .ok (.aload_n 0, 1) := by decide +kernel
theorem dX10_setting_46 : decode cX10_setting 46 = .ok (.getfield 116, 3) := by decide +kernel
theorem dX10_setting_49 : decode cX10_setting 49 = .ok (.goto 30, 3) := by decide +kernel
theorem dX10_setting_52 : decode cX10_setting 52 = .ok (.iload_n 1, 1) := by decide +kernel
theorem dX10_setting_53 : decode cX10_setting 53 = .ok (.bipush 103, 2) := by decide +kernel
theorem dX10_setting_55 : decode cX10_setting 55 = .ok (.if_icmp .ne 10, 3) := by decide +kernel
theorem dX10_setting_58 : decode cX10_setting 58 = .ok (.aload_n 0, 1) := by decide +kernel
theorem dX10_setting_59 : decode cX10_setting 59 = .ok (.getfield 119, 3) := by decide +kernel
theorem dX10_setting_62 : decode cX10_setting 62 = .ok (.goto 17, 3) := by decide +kernel
theorem dX10_setting_65 : decode cX10_setting 65 = .ok (.iload_n 1, 1) := by decide +kernel
theorem dX10_setting_66 : decode cX10_setting 66 = .ok (.bipush 114, 2) := by decide +kernel
theorem dX10_setting_68 : decode cX10_setting 68 = .ok (.if_icmp .ne 10, 3) := by decide +kernel
theorem dX10_setting_71 : decode cX10_setting 71 = .ok (.aload_n 0, 1) := by decide +kernel
theorem dX10_setting_72 : decode cX10_setting 72 = .ok (.getfield 23, 3) := by decide +kernel
theorem dX10_setting_75 : decode cX10_setting 75 = .ok (.goto 4, 3) := by decide +kernel
theorem dX10_setting_78 : decode cX10_setting 78 = .ok (.iconst (-1), 1) := by decide +kernel
theorem dX10_setting_79 : decode cX10_setting 79 = .ok (.ireturn, 1) := by decide +kernel
theorem dX10_isIn_0 : decode cX10_isIn 0 = .ok (.iload_n 0, 1) := by decide +kernel
theorem dX10_isIn_1 : decode cX10_isIn 1 = .ok (.lookupswitch 87 #[(100, 65), (103, 80), (107, 58), (115, 73), (119, 51)], 51) := by decide +kernel
theorem dX10_isIn_52 : decode cX10_isIn 52 = .ok (.iload_n 1, 1) := by decide +kernel
theorem dX10_isIn_53 : decode cX10_isIn 53 = .ok (.iconst 1, 1) := by decide +kernel
theorem dX10_isIn_54 : decode cX10_isIn 54 = .ok (.iconst 3, 1) := by decide +kernel
theorem dX10_isIn_55 : decode cX10_isIn 55 = .ok (.invokestatic 101, 3) := by decide +kernel
theorem dX10_isIn_58 : decode cX10_isIn 58 = .ok (.ireturn, 1) := by decide +kernel
theorem dX10_isIn_59 : decode cX10_isIn 59 = .ok (.iload_n 1, 1) := by decide +kernel
theorem dX10_isIn_60 : decode cX10_isIn 60 = .ok (.iconst 0, 1) := by decide +kernel
theorem dX10_isIn_61 : decode cX10_isIn 61 = .ok (.iconst 3, 1) := by decide +kernel
theorem dX10_isIn_62 : decode cX10_isIn 62 = .ok (.invokestatic 101, 3) := by decide +kernel
theorem dX10_isIn_65 : decode cX10_isIn 65 = .ok (.ireturn, 1) := by decide +kernel
theorem dX10_isIn_66 : decode cX10_isIn 66 = .ok (.iload_n 1, 1) := by decide +kernel
theorem dX10_isIn_67 : decode cX10_isIn 67 = .ok (.iconst 1, 1) := by decide +kernel
theorem dX10_isIn_68 : decode cX10_isIn 68 = .ok (.bipush 6, 2) := by decide +kernel
theorem dX10_isIn_70 : decode cX10_isIn 70 = .ok (.invokestatic 101, 3) := by decide +kernel
theorem dX10_isIn_73 : decode cX10_isIn 73 = .ok (.ireturn, 1) := by decide +kernel
theorem dX10_isIn_74 : decode cX10_isIn 74 = .ok (.iload_n 1, 1) := by decide +kernel
theorem dX10_isIn_75 : decode cX10_isIn 75 = .ok (.iconst 0, 1) := by decide +kernel
theorem dX10_isIn_76 : decode cX10_isIn 76 = .ok (.iconst 1, 1) := by decide +kernel
theorem dX10_isIn_77 : decode cX10_isIn 77 = .ok (.invokestatic 101, 3) := by decide +kernel
theorem dX10_isIn_80 : decode cX10_isIn 80 = .ok (.ireturn, 1) := by decide +kernel
theorem dX10_isIn_81 : decode cX10_isIn 81 = .ok (.iload_n 1, 1) := by decide +kernel
theorem dX10_isIn_82 : decode cX10_isIn 82 = .ok (.iconst 0, 1) := by decide +kernel
theorem dX10_isIn_83 : decode cX10_isIn 83 = .ok (.iconst 2, 1) := by decide +kernel
theorem dX10_isIn_84 : decode cX10_isIn 84 = .ok (.invokestatic 101, 3) := by decide +kernel
theorem dX10_isIn_87 : decode cX10_isIn 87 = .ok (.ireturn, 1) := by decide +kernel
theorem dX10_isIn_88 : decode cX10_isIn 88 = .ok (.iload_n 1, 1) := by decide +kernel
theorem dX10_isIn_89 : decode cX10_isIn 89 = .ok (.iconst 0, 1) := by decide +kernel
theorem dX10_isIn_90 : decode cX10_isIn 90 = .ok (.bipush 22, 2) := by decide +kernel
theorem dX10_isIn_92 : decode cX10_isIn 92 = .ok (.invokestatic 101, 3) := by decide +kernel
theorem dX10_isIn_95 : decode cX10_isIn 95 = .ok (.ireturn, 1) := by decide +kernel
theorem dX10_set_0 : decode cX10_set 0 = .ok (.aload_n 0, 1) := by decide +kernel
theorem dX10_set_1 : decode cX10_set 1 = .ok (.iload_n 1, 1) := by decide +kernel
theorem dX10_set_2 : decode cX10_set 2 = .ok (.invokevirtual 122, 3) := by decide +kernel
theorem dX10_set_5 : decode cX10_set 5 = .ok (.istore_n 3, 1) := by decide +kernel
theorem dX10_set_6 : decode cX10_set 6 = .ok (.aload_n 0, 1) := by decide +kernel
theorem dX10_set_7 : decode cX10_set 7 = .ok (.iload_n 3, 1) := by decide +kernel
theorem dX10_set_8 : decode cX10_set 8 = .ok (.iconst (-1), 1) := by decide +kernel
theorem dX10_set_9 : decode cX10_set 9 = .ok (.if_icmp .eq 11, 3) := by decide +kernel
theorem dX10_set_12 : decode cX10_set 12 = .ok (.iload_n 1, 1) := by decide +kernel
theorem dX10_set_13 : decode cX10_set 13 = .ok (.iload_n 2, 1) := by decide +kernel
theorem dX10_set_14 : decode cX10_set 14 = .ok (.invokestatic 126, 3) := by decide +kernel
theorem dX10_set_17 : decode cX10_set 17 = .ok (.ifCond .ne 7, 3) := by decide +kernel
theorem dX10_set_20 : decode cX10_set 20 = .ok (.iconst 1, 1) := by decide +kernel
theorem dX10_set_21 : decode cX10_set 21 = .ok (.goto 4, 3) := by decide +kernel
theorem dX10_set_24 : decode cX10_set 24 = .ok (.iconst 0, 1) := by decide +kernel
theorem dX10_set_25 : decode cX10_set 25 = .ok (.invokevirtual 112, 3) := by decide +kernel
theorem dX10_set_28 : decode cX10_set 28 = .ok (.ifCond .ne 5, 3) := by decide +kernel
theorem dX10_set_31 : decode cX10_set 31 = .ok (.iconst 0, 1) := by decide +kernel
theorem dX10_set_32 : decode cX10_set 32 = .ok (.ireturn, 1) := by decide +kernel
theorem dX10_set_33 : decode cX10_set 33 = .ok (.aload_n 0, 1) := by decide +kernel
theorem dX10_set_34 : decode cX10_set 34 = .ok (.iload_n 1, 1) := by decide +kernel
theorem dX10_set_35 : decode cX10_set 35 = .ok (.bipush 119, 2) := by decide +kernel
theorem dX10_set_37 : decode cX10_set 37 = .ok (.if_icmp .ne 7, 3) := by decide +kernel
theorem dX10_set_40 : decode cX10_set 40 = .ok (.iload_n 2, 1) := by decide +kernel
theorem dX10_set_41 : decode cX10_set 41 = .ok (.goto 7, 3) := by decide +kernel
theorem dX10_set_44 : decode cX10_set 44 = .ok (.aload_n 0, 1) := by decide +kernel
theorem dX10_set_45 : decode cX10_set 45 = .ok (.getfield 13, 3) := by decide +kernel
theorem dX10_set_48 : decode cX10_set 48 = .ok (.putfield 13, 3) := by decide +kernel
theorem dX10_set_51 : decode cX10_set 51 = .ok (.aload_n 0, 1) := by decide +kernel
theorem dX10_set_52 : decode cX10_set 52 = .ok (.iload_n 1, 1) := by decide +kernel
theorem dX10_set_53 : decode cX10_set 53 = .ok (.bipush 107, 2) := by decide +kernel
theorem dX10_set_55 : decode cX10_set 55 = .ok (.if_icmp .ne 7, 3) := by decide +kernel
theorem dX10_set_58 : decode cX10_set 58 = .ok (.iload_n 2, 1) := by decide +kernel
theorem dX10_set_59 : decode cX10_set 59 = .ok (.goto 7, 3) := by decide +kernel
theorem dX10_set_62 : decode cX10_set 62 = .ok (.aload_n 0, 1) := by decide +kernel
theorem dX10_set_63 : decode cX10_set 63 = .ok (.getfield 17, 3) := by decide +kernel
theorem dX10_set_66 : decode cX10_set 66 = .ok (.putfield 17, 3) := by decide +kernel
theorem dX10_set_69 : decode cX10_set 69 = .ok (.aload_n 0, 1) := by decide +kernel
theorem dX10_set_70 : decode cX10_set 70 = .ok (.iload_n 1, 1) := by decide +kernel
theorem dX10_set_71 : decode cX10_set 71 = .ok (.bipush 100, 2) := by decide +kernel
theorem dX10_set_73 : decode cX10_set 73 = .ok (.if_icmp .ne 7, 3) := by decide +kernel
theorem dX10_set_76 : decode cX10_set 76 = .ok (.iload_n 2, 1) := by decide +kernel
theorem dX10_set_77 : decode cX10_set 77 = .ok (.goto 7, 3) := by decide +kernel
theorem dX10_set_80 : decode cX10_set 80 = .ok (.aload_n 0, 1) := by decide +kernel
theorem dX10_set_81 : decode cX10_set 81 = .ok (.getfield 20, 3) := by decide +kernel
theorem dX10_set_84 : decode cX10_set 84 = .ok (.putfield 20, 3) := by decide +kernel
theorem dX10_set_87 : decode cX10_set 87 = .ok (.aload_n 0, 1) := by decide +kernel
theorem dX10_set_88 : decode cX10_set 88 = .ok (.iload_n 1, 1) := by decide +kernel
theorem dX10_set_89 : decode cX10_set 89 = .ok (.bipush 115, 2) := by decide +kernel
theorem dX10_set_91 : decode cX10_set 91 = .ok (.if_icmp .ne 7, 3) := by decide +kernel
theorem dX10_set_94 : decode cX10_set 94 = .ok (.iload_n 2, 1) := by decide +kernel
