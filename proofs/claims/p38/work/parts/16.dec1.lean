theorem dX0_init_0 : decode cX0_init 0 = .ok (.aload_n 0, 1) := by decide +kernel
theorem dX0_init_1 : decode cX0_init 1 = .ok (.invokespecial 3, 3) := by decide +kernel
theorem dX0_init_4 : decode cX0_init 4 = .ok (.aload_n 0, 1) := by decide +kernel
theorem dX0_init_5 : decode cX0_init 5 = .ok (.sipush 1728, 3) := by decide +kernel
theorem dX0_init_8 : decode cX0_init 8 = .ok (.newarray .boolean, 2) := by decide +kernel
theorem dX0_init_10 : decode cX0_init 10 = .ok (.putfield 9, 3) := by decide +kernel
theorem dX0_init_13 : decode cX0_init 13 = .ok (.return_, 1) := by decide +kernel
theorem dX0_isSolid_0 : decode cX0_isSolid 0 = .ok (.iload_n 1, 1) := by decide +kernel
theorem dX0_isSolid_1 : decode cX0_isSolid 1 = .ok (.iload_n 2, 1) := by decide +kernel
theorem dX0_isSolid_2 : decode cX0_isSolid 2 = .ok (.iload_n 3, 1) := by decide +kernel
theorem dX0_isSolid_3 : decode cX0_isSolid 3 = .ok (.invokestatic 15, 3) := by decide +kernel
theorem dX0_isSolid_6 : decode cX0_isSolid 6 = .ok (.ifCond .eq 21, 3) := by decide +kernel
theorem dX0_isSolid_9 : decode cX0_isSolid 9 = .ok (.aload_n 0, 1) := by decide +kernel
theorem dX0_isSolid_10 : decode cX0_isSolid 10 = .ok (.getfield 9, 3) := by decide +kernel
theorem dX0_isSolid_13 : decode cX0_isSolid 13 = .ok (.iload_n 1, 1) := by decide +kernel
theorem dX0_isSolid_14 : decode cX0_isSolid 14 = .ok (.iload_n 2, 1) := by decide +kernel
theorem dX0_isSolid_15 : decode cX0_isSolid 15 = .ok (.iload_n 3, 1) := by decide +kernel
theorem dX0_isSolid_16 : decode cX0_isSolid 16 = .ok (.invokestatic 19, 3) := by decide +kernel
theorem dX0_isSolid_19 : decode cX0_isSolid 19 = .ok (.baload, 1) := by decide +kernel
theorem dX0_isSolid_20 : decode cX0_isSolid 20 = .ok (.ifCond .eq 7, 3) := by decide +kernel
theorem dX0_isSolid_23 : decode cX0_isSolid 23 = .ok (.iconst 1, 1) := by decide +kernel
theorem dX0_isSolid_24 : decode cX0_isSolid 24 = .ok (.goto 4, 3) := by decide +kernel
theorem dX0_isSolid_27 : decode cX0_isSolid 27 = .ok (.iconst 0, 1) := by decide +kernel
theorem dX0_isSolid_28 : decode cX0_isSolid 28 = .ok (.ireturn, 1) := by decide +kernel
theorem dX0_changeLayer_0 : decode cX0_changeLayer 0 = .ok (.iconst 0, 1) := by decide +kernel
theorem dX0_changeLayer_1 : decode cX0_changeLayer 1 = .ok (.istore 7, 2) := by decide +kernel
theorem dX0_changeLayer_3 : decode cX0_changeLayer 3 = .ok (.iload_n 2, 1) := by decide +kernel
theorem dX0_changeLayer_4 : decode cX0_changeLayer 4 = .ok (.istore 8, 2) := by decide +kernel
theorem dX0_changeLayer_6 : decode cX0_changeLayer 6 = .ok (.iload 8, 2) := by decide +kernel
theorem dX0_changeLayer_8 : decode cX0_changeLayer 8 = .ok (.iload_n 2, 1) := by decide +kernel
theorem dX0_changeLayer_9 : decode cX0_changeLayer 9 = .ok (.iload 5, 2) := by decide +kernel
theorem dX0_changeLayer_11 : decode cX0_changeLayer 11 = .ok (.iadd, 1) := by decide +kernel
theorem dX0_changeLayer_12 : decode cX0_changeLayer 12 = .ok (.if_icmp .ge 70, 3) := by decide +kernel
theorem dX0_changeLayer_15 : decode cX0_changeLayer 15 = .ok (.iload_n 1, 1) := by decide +kernel
theorem dX0_changeLayer_16 : decode cX0_changeLayer 16 = .ok (.istore 9, 2) := by decide +kernel
theorem dX0_changeLayer_18 : decode cX0_changeLayer 18 = .ok (.iload 9, 2) := by decide +kernel
theorem dX0_changeLayer_20 : decode cX0_changeLayer 20 = .ok (.iload_n 1, 1) := by decide +kernel
theorem dX0_changeLayer_21 : decode cX0_changeLayer 21 = .ok (.iload 4, 2) := by decide +kernel
theorem dX0_changeLayer_23 : decode cX0_changeLayer 23 = .ok (.iadd, 1) := by decide +kernel
theorem dX0_changeLayer_24 : decode cX0_changeLayer 24 = .ok (.if_icmp .ge 52, 3) := by decide +kernel
theorem dX0_changeLayer_27 : decode cX0_changeLayer 27 = .ok (.iload 9, 2) := by decide +kernel
theorem dX0_changeLayer_29 : decode cX0_changeLayer 29 = .ok (.iload 8, 2) := by decide +kernel
theorem dX0_changeLayer_31 : decode cX0_changeLayer 31 = .ok (.iload_n 3, 1) := by decide +kernel
theorem dX0_changeLayer_32 : decode cX0_changeLayer 32 = .ok (.invokestatic 15, 3) := by decide +kernel
theorem dX0_changeLayer_35 : decode cX0_changeLayer 35 = .ok (.ifCond .eq 35, 3) := by decide +kernel
theorem dX0_changeLayer_38 : decode cX0_changeLayer 38 = .ok (.aload_n 0, 1) := by decide +kernel
theorem dX0_changeLayer_39 : decode cX0_changeLayer 39 = .ok (.iload 9, 2) := by decide +kernel
theorem dX0_changeLayer_41 : decode cX0_changeLayer 41 = .ok (.iload 8, 2) := by decide +kernel
theorem dX0_changeLayer_43 : decode cX0_changeLayer 43 = .ok (.iload_n 3, 1) := by decide +kernel
theorem dX0_changeLayer_44 : decode cX0_changeLayer 44 = .ok (.invokevirtual 23, 3) := by decide +kernel
theorem dX0_changeLayer_47 : decode cX0_changeLayer 47 = .ok (.iload 6, 2) := by decide +kernel
theorem dX0_changeLayer_49 : decode cX0_changeLayer 49 = .ok (.if_icmp .eq 21, 3) := by decide +kernel
theorem dX0_changeLayer_52 : decode cX0_changeLayer 52 = .ok (.aload_n 0, 1) := by decide +kernel
theorem dX0_changeLayer_53 : decode cX0_changeLayer 53 = .ok (.getfield 9, 3) := by decide +kernel
theorem dX0_changeLayer_56 : decode cX0_changeLayer 56 = .ok (.iload 9, 2) := by decide +kernel
theorem dX0_changeLayer_58 : decode cX0_changeLayer 58 = .ok (.iload 8, 2) := by decide +kernel
theorem dX0_changeLayer_60 : decode cX0_changeLayer 60 = .ok (.iload_n 3, 1) := by decide +kernel
theorem dX0_changeLayer_61 : decode cX0_changeLayer 61 = .ok (.invokestatic 19, 3) := by decide +kernel
theorem dX0_changeLayer_64 : decode cX0_changeLayer 64 = .ok (.iload 6, 2) := by decide +kernel
theorem dX0_changeLayer_66 : decode cX0_changeLayer 66 = .ok (.bastore, 1) := by decide +kernel
theorem dX0_changeLayer_67 : decode cX0_changeLayer 67 = .ok (.iinc 7 1, 3) := by decide +kernel
theorem dX0_changeLayer_70 : decode cX0_changeLayer 70 = .ok (.iinc 9 1, 3) := by decide +kernel
theorem dX0_changeLayer_73 : decode cX0_changeLayer 73 = .ok (.goto (-55), 3) := by decide +kernel
theorem dX0_changeLayer_76 : decode cX0_changeLayer 76 = .ok (.iinc 8 1, 3) := by decide +kernel
theorem dX0_changeLayer_79 : decode cX0_changeLayer 79 = .ok (.goto (-73), 3) := by decide +kernel
theorem dX0_changeLayer_82 : decode cX0_changeLayer 82 = .ok (.iload 7, 2) := by decide +kernel
theorem dX0_changeLayer_84 : decode cX0_changeLayer 84 = .ok (.ireturn, 1) := by decide +kernel
theorem dX0_hangs_0 : decode cX0_hangs 0 = .ok (.iload_n 3, 1) := by decide +kernel
theorem dX0_hangs_1 : decode cX0_hangs 1 = .ok (.ifCond .eq 25, 3) := by decide +kernel
theorem dX0_hangs_4 : decode cX0_hangs 4 = .ok (.aload_n 0, 1) := by decide +kernel
theorem dX0_hangs_5 : decode cX0_hangs 5 = .ok (.iload_n 1, 1) := by decide +kernel
theorem dX0_hangs_6 : decode cX0_hangs 6 = .ok (.iload_n 2, 1) := by decide +kernel
theorem dX0_hangs_7 : decode cX0_hangs 7 = .ok (.iload_n 3, 1) := by decide +kernel
theorem dX0_hangs_8 : decode cX0_hangs 8 = .ok (.invokevirtual 23, 3) := by decide +kernel
theorem dX0_hangs_11 : decode cX0_hangs 11 = .ok (.ifCond .eq 15, 3) := by decide +kernel
theorem dX0_hangs_14 : decode cX0_hangs 14 = .ok (.aload_n 0, 1) := by decide +kernel
theorem dX0_hangs_15 : decode cX0_hangs 15 = .ok (.iload_n 1, 1) := by decide +kernel
theorem dX0_hangs_16 : decode cX0_hangs 16 = .ok (.iload_n 2, 1) := by decide +kernel
theorem dX0_hangs_17 : decode cX0_hangs 17 = .ok (.iload_n 3, 1) := by decide +kernel
theorem dX0_hangs_18 : decode cX0_hangs 18 = .ok (.iconst 1, 1) := by decide +kernel
theorem dX0_hangs_19 : decode cX0_hangs 19 = .ok (.isub, 1) := by decide +kernel
theorem dX0_hangs_20 : decode cX0_hangs 20 = .ok (.invokevirtual 23, 3) := by decide +kernel
theorem dX0_hangs_23 : decode cX0_hangs 23 = .ok (.ifCond .eq 5, 3) := by decide +kernel
theorem dX0_hangs_26 : decode cX0_hangs 26 = .ok (.iconst 0, 1) := by decide +kernel
theorem dX0_hangs_27 : decode cX0_hangs 27 = .ok (.ireturn, 1) := by decide +kernel
theorem dX0_hangs_28 : decode cX0_hangs 28 = .ok (.iconst 0, 1) := by decide +kernel
theorem dX0_hangs_29 : decode cX0_hangs 29 = .ok (.istore 4, 2) := by decide +kernel
theorem dX0_hangs_31 : decode cX0_hangs 31 = .ok (.iload 4, 2) := by decide +kernel
theorem dX0_hangs_33 : decode cX0_hangs 33 = .ok (.iconst 4, 1) := by decide +kernel
theorem dX0_hangs_34 : decode cX0_hangs 34 = .ok (.if_icmp .ge 37, 3) := by decide +kernel
theorem dX0_hangs_37 : decode cX0_hangs 37 = .ok (.aload_n 0, 1) := by decide +kernel
theorem dX0_hangs_38 : decode cX0_hangs 38 = .ok (.iload_n 1, 1) := by decide +kernel
theorem dX0_hangs_39 : decode cX0_hangs 39 = .ok (.getstatic 29, 3) := by decide +kernel
theorem dX0_hangs_42 : decode cX0_hangs 42 = .ok (.iload 4, 2) := by decide +kernel
theorem dX0_hangs_44 : decode cX0_hangs 44 = .ok (.iaload, 1) := by decide +kernel
theorem dX0_hangs_45 : decode cX0_hangs 45 = .ok (.iadd, 1) := by decide +kernel
theorem dX0_hangs_46 : decode cX0_hangs 46 = .ok (.iload_n 2, 1) := by decide +kernel
theorem dX0_hangs_47 : decode cX0_hangs 47 = .ok (.getstatic 33, 3) := by decide +kernel
theorem dX0_hangs_50 : decode cX0_hangs 50 = .ok (.iload 4, 2) := by decide +kernel
theorem dX0_hangs_52 : decode cX0_hangs 52 = .ok (.iaload, 1) := by decide +kernel
theorem dX0_hangs_53 : decode cX0_hangs 53 = .ok (.iadd, 1) := by decide +kernel
theorem dX0_hangs_54 : decode cX0_hangs 54 = .ok (.iload_n 3, 1) := by decide +kernel
theorem dX0_hangs_55 : decode cX0_hangs 55 = .ok (.iconst 1, 1) := by decide +kernel
theorem dX0_hangs_56 : decode cX0_hangs 56 = .ok (.isub, 1) := by decide +kernel
theorem dX0_hangs_57 : decode cX0_hangs 57 = .ok (.invokevirtual 23, 3) := by decide +kernel
theorem dX0_hangs_60 : decode cX0_hangs 60 = .ok (.ifCond .eq 5, 3) := by decide +kernel
theorem dX0_hangs_63 : decode cX0_hangs 63 = .ok (.iconst 0, 1) := by decide +kernel
theorem dX0_hangs_64 : decode cX0_hangs 64 = .ok (.ireturn, 1) := by decide +kernel
theorem dX0_hangs_65 : decode cX0_hangs 65 = .ok (.iinc 4 1, 3) := by decide +kernel
theorem dX0_hangs_68 : decode cX0_hangs 68 = .ok (.goto (-37), 3) := by decide +kernel
theorem dX0_hangs_71 : decode cX0_hangs 71 = .ok (.iconst 1, 1) := by decide +kernel
theorem dX0_hangs_72 : decode cX0_hangs 72 = .ok (.ireturn, 1) := by decide +kernel
theorem dX0_isOpen_0 : decode cX0_isOpen 0 = .ok (.iconst 1, 1) := by decide +kernel
theorem dX0_isOpen_1 : decode cX0_isOpen 1 = .ok (.istore 6, 2) := by decide +kernel
theorem dX0_isOpen_3 : decode cX0_isOpen 3 = .ok (.iload 6, 2) := by decide +kernel
theorem dX0_isOpen_5 : decode cX0_isOpen 5 = .ok (.iload 5, 2) := by decide +kernel
theorem dX0_isOpen_7 : decode cX0_isOpen 7 = .ok (.if_icmp .gt 27, 3) := by decide +kernel
theorem dX0_isOpen_10 : decode cX0_isOpen 10 = .ok (.aload_n 0, 1) := by decide +kernel
theorem dX0_isOpen_11 : decode cX0_isOpen 11 = .ok (.iload_n 1, 1) := by decide +kernel
theorem dX0_isOpen_12 : decode cX0_isOpen 12 = .ok (.iload_n 2, 1) := by decide +kernel
theorem dX0_isOpen_13 : decode cX0_isOpen 13 = .ok (.iload_n 3, 1) := by decide +kernel
theorem dX0_isOpen_14 : decode cX0_isOpen 14 = .ok (.iload 6, 2) := by decide +kernel
theorem dX0_isOpen_16 : decode cX0_isOpen 16 = .ok (.iload 4, 2) := by decide +kernel
theorem dX0_isOpen_18 : decode cX0_isOpen 18 = .ok (.imul, 1) := by decide +kernel
theorem dX0_isOpen_19 : decode cX0_isOpen 19 = .ok (.iadd, 1) := by decide +kernel
theorem dX0_isOpen_20 : decode cX0_isOpen 20 = .ok (.invokevirtual 23, 3) := by decide +kernel
theorem dX0_isOpen_23 : decode cX0_isOpen 23 = .ok (.ifCond .ne 5, 3) := by decide +kernel
theorem dX0_isOpen_26 : decode cX0_isOpen 26 = .ok (.iconst 1, 1) := by decide +kernel
theorem dX0_isOpen_27 : decode cX0_isOpen 27 = .ok (.ireturn, 1) := by decide +kernel
theorem dX0_isOpen_28 : decode cX0_isOpen 28 = .ok (.iinc 6 1, 3) := by decide +kernel
theorem dX0_isOpen_31 : decode cX0_isOpen 31 = .ok (.goto (-28), 3) := by decide +kernel
theorem dX0_isOpen_34 : decode cX0_isOpen 34 = .ok (.iconst 0, 1) := by decide +kernel
theorem dX0_isOpen_35 : decode cX0_isOpen 35 = .ok (.ireturn, 1) := by decide +kernel
theorem dX0_firstSolidAbove_0 : decode cX0_firstSolidAbove 0 = .ok (.iload_n 3, 1) := by decide +kernel
theorem dX0_firstSolidAbove_1 : decode cX0_firstSolidAbove 1 = .ok (.iconst 1, 1) := by decide +kernel
theorem dX0_firstSolidAbove_2 : decode cX0_firstSolidAbove 2 = .ok (.iadd, 1) := by decide +kernel
theorem dX0_firstSolidAbove_3 : decode cX0_firstSolidAbove 3 = .ok (.istore 4, 2) := by decide +kernel
theorem dX0_firstSolidAbove_5 : decode cX0_firstSolidAbove 5 = .ok (.iload 4, 2) := by decide +kernel
theorem dX0_firstSolidAbove_7 : decode cX0_firstSolidAbove 7 = .ok (.bipush 12, 2) := by decide +kernel
theorem dX0_firstSolidAbove_9 : decode cX0_firstSolidAbove 9 = .ok (.if_icmp .ge 23, 3) := by decide +kernel
theorem dX0_firstSolidAbove_12 : decode cX0_firstSolidAbove 12 = .ok (.aload_n 0, 1) := by decide +kernel
theorem dX0_firstSolidAbove_13 : decode cX0_firstSolidAbove 13 = .ok (.iload_n 1, 1) := by decide +kernel
theorem dX0_firstSolidAbove_14 : decode cX0_firstSolidAbove 14 = .ok (.iload_n 2, 1) := by decide +kernel
theorem dX0_firstSolidAbove_15 : decode cX0_firstSolidAbove 15 = .ok (.iload 4, 2) := by decide +kernel
theorem dX0_firstSolidAbove_17 : decode cX0_firstSolidAbove 17 = .ok (.invokevirtual 23, 3) := by decide +kernel
theorem dX0_firstSolidAbove_20 : decode cX0_firstSolidAbove 20 = .ok (.ifCond .eq 6, 3) := by decide +kernel
theorem dX0_firstSolidAbove_23 : decode cX0_firstSolidAbove 23 = .ok (.iload 4, 2) := by decide +kernel
theorem dX0_firstSolidAbove_25 : decode cX0_firstSolidAbove 25 = .ok (.ireturn, 1) := by decide +kernel
theorem dX0_firstSolidAbove_26 : decode cX0_firstSolidAbove 26 = .ok (.iinc 4 1, 3) := by decide +kernel
theorem dX0_firstSolidAbove_29 : decode cX0_firstSolidAbove 29 = .ok (.goto (-24), 3) := by decide +kernel
theorem dX0_firstSolidAbove_32 : decode cX0_firstSolidAbove 32 = .ok (.bipush 12, 2) := by decide +kernel
theorem dX0_firstSolidAbove_34 : decode cX0_firstSolidAbove 34 = .ok (.ireturn, 1) := by decide +kernel
theorem dX1_init_0 : decode cX1_init 0 = .ok (.aload_n 0, 1) := by decide +kernel
theorem dX1_init_1 : decode cX1_init 1 = .ok (.invokespecial 3, 3) := by decide +kernel
theorem dX1_init_4 : decode cX1_init 4 = .ok (.aload_n 0, 1) := by decide +kernel
theorem dX1_init_5 : decode cX1_init 5 = .ok (.sipush 6936, 3) := by decide +kernel
theorem dX1_init_8 : decode cX1_init 8 = .ok (.newarray .char, 2) := by decide +kernel
theorem dX1_init_10 : decode cX1_init 10 = .ok (.putfield 9, 3) := by decide +kernel
theorem dX1_init_13 : decode cX1_init 13 = .ok (.aload_n 0, 1) := by decide +kernel
theorem dX1_init_14 : decode cX1_init 14 = .ok (.sipush 6936, 3) := by decide +kernel
theorem dX1_init_17 : decode cX1_init 17 = .ok (.newarray .int, 2) := by decide +kernel
theorem dX1_init_19 : decode cX1_init 19 = .ok (.putfield 15, 3) := by decide +kernel
theorem dX1_init_22 : decode cX1_init 22 = .ok (.aload_n 0, 1) := by decide +kernel
theorem dX1_init_23 : decode cX1_init 23 = .ok (.sipush 6936, 3) := by decide +kernel
theorem dX1_init_26 : decode cX1_init 26 = .ok (.newarray .int, 2) := by decide +kernel
theorem dX1_init_28 : decode cX1_init 28 = .ok (.putfield 19, 3) := by decide +kernel
theorem dX1_init_31 : decode cX1_init 31 = .ok (.aload_n 0, 1) := by decide +kernel
theorem dX1_init_32 : decode cX1_init 32 = .ok (.sipush 6936, 3) := by decide +kernel
theorem dX1_init_35 : decode cX1_init 35 = .ok (.newarray .int, 2) := by decide +kernel
theorem dX1_init_37 : decode cX1_init 37 = .ok (.putfield 22, 3) := by decide +kernel
theorem dX1_init_40 : decode cX1_init 40 = .ok (.aload_n 0, 1) := by decide +kernel
theorem dX1_init_41 : decode cX1_init 41 = .ok (.bipush 12, 2) := by decide +kernel
theorem dX1_init_43 : decode cX1_init 43 = .ok (.newarray .int, 2) := by decide +kernel
theorem dX1_init_45 : decode cX1_init 45 = .ok (.putfield 25, 3) := by decide +kernel
theorem dX1_init_48 : decode cX1_init 48 = .ok (.return_, 1) := by decide +kernel
theorem dX1_clear_0 : decode cX1_clear 0 = .ok (.aload_n 0, 1) := by decide +kernel
theorem dX1_clear_1 : decode cX1_clear 1 = .ok (.iconst 0, 1) := by decide +kernel
theorem dX1_clear_2 : decode cX1_clear 2 = .ok (.putfield 28, 3) := by decide +kernel
theorem dX1_clear_5 : decode cX1_clear 5 = .ok (.aload_n 0, 1) := by decide +kernel
theorem dX1_clear_6 : decode cX1_clear 6 = .ok (.iconst 0, 1) := by decide +kernel
theorem dX1_clear_7 : decode cX1_clear 7 = .ok (.putfield 32, 3) := by decide +kernel
theorem dX1_clear_10 : decode cX1_clear 10 = .ok (.aload_n 0, 1) := by decide +kernel
theorem dX1_clear_11 : decode cX1_clear 11 = .ok (.lconst 0, 1) := by decide +kernel
theorem dX1_clear_12 : decode cX1_clear 12 = .ok (.putfield 35, 3) := by decide +kernel
theorem dX1_clear_15 : decode cX1_clear 15 = .ok (.return_, 1) := by decide +kernel
theorem dX1_keepAmount_0 : decode cX1_keepAmount 0 = .ok (.iload_n 1, 1) := by decide +kernel
theorem dX1_keepAmount_1 : decode cX1_keepAmount 1 = .ok (.invokestatic 39, 3) := by decide +kernel
theorem dX1_keepAmount_4 : decode cX1_keepAmount 4 = .ok (.ifCond .eq 10, 3) := by decide +kernel
theorem dX1_keepAmount_7 : decode cX1_keepAmount 7 = .ok (.aload_n 0, 1) := by decide +kernel
theorem dX1_keepAmount_8 : decode cX1_keepAmount 8 = .ok (.getfield 25, 3) := by decide +kernel
theorem dX1_keepAmount_11 : decode cX1_keepAmount 11 = .ok (.iload_n 1, 1) := by decide +kernel
theorem dX1_keepAmount_12 : decode cX1_keepAmount 12 = .ok (.iload_n 2, 1) := by decide +kernel
theorem dX1_keepAmount_13 : decode cX1_keepAmount 13 = .ok (.iastore, 1) := by decide +kernel
theorem dX1_keepAmount_14 : decode cX1_keepAmount 14 = .ok (.return_, 1) := by decide +kernel
theorem dX1_add_0 : decode cX1_add 0 = .ok (.aload_n 0, 1) := by decide +kernel
theorem dX1_add_1 : decode cX1_add 1 = .ok (.getfield 28, 3) := by decide +kernel
theorem dX1_add_4 : decode cX1_add 4 = .ok (.sipush 6936, 3) := by decide +kernel
theorem dX1_add_7 : decode cX1_add 7 = .ok (.if_icmp .ge 11, 3) := by decide +kernel
theorem dX1_add_10 : decode cX1_add 10 = .ok (.iload 4, 2) := by decide +kernel
theorem dX1_add_12 : decode cX1_add 12 = .ok (.invokestatic 39, 3) := by decide +kernel
theorem dX1_add_15 : decode cX1_add 15 = .ok (.ifCond .ne 4, 3) := by decide +kernel
theorem dX1_add_18 : decode cX1_add 18 = .ok (.return_, 1) := by decide +kernel
theorem dX1_add_19 : decode cX1_add 19 = .ok (.aload_n 0, 1) := by decide +kernel
theorem dX1_add_20 : decode cX1_add 20 = .ok (.aload_n 0, 1) := by decide +kernel
theorem dX1_add_21 : decode cX1_add 21 = .ok (.getfield 28, 3) := by decide +kernel
theorem dX1_add_24 : decode cX1_add 24 = .ok (.iconst 1, 1) := by decide +kernel
theorem dX1_add_25 : decode cX1_add 25 = .ok (.isub, 1) := by decide +kernel
theorem dX1_add_26 : decode cX1_add 26 = .ok (.invokevirtual 43, 3) := by decide +kernel
theorem dX1_add_29 : decode cX1_add 29 = .ok (.aload_n 0, 1) := by decide +kernel
theorem dX1_add_30 : decode cX1_add 30 = .ok (.aload_n 0, 1) := by decide +kernel
theorem dX1_add_31 : decode cX1_add 31 = .ok (.getfield 28, 3) := by decide +kernel
theorem dX1_add_34 : decode cX1_add 34 = .ok (.iconst 1, 1) := by decide +kernel
theorem dX1_add_35 : decode cX1_add 35 = .ok (.isub, 1) := by decide +kernel
theorem dX1_add_36 : decode cX1_add 36 = .ok (.invokevirtual 47, 3) := by decide +kernel
theorem dX1_add_39 : decode cX1_add 39 = .ok (.iload_n 2, 1) := by decide +kernel
theorem dX1_add_40 : decode cX1_add 40 = .ok (.iload_n 3, 1) := by decide +kernel
theorem dX1_add_41 : decode cX1_add 41 = .ok (.invokestatic 50, 3) := by decide +kernel
theorem dX1_add_44 : decode cX1_add 44 = .ok (.istore 5, 2) := by decide +kernel
theorem dX1_add_46 : decode cX1_add 46 = .ok (.iload_n 1, 1) := by decide +kernel
theorem dX1_add_47 : decode cX1_add 47 = .ok (.bipush 103, 2) := by decide +kernel
theorem dX1_add_49 : decode cX1_add 49 = .ok (.if_icmp .ne 17, 3) := by decide +kernel
theorem dX1_add_52 : decode cX1_add 52 = .ok (.aload_n 0, 1) := by decide +kernel
theorem dX1_add_53 : decode cX1_add 53 = .ok (.dup, 1) := by decide +kernel
theorem dX1_add_54 : decode cX1_add 54 = .ok (.getfield 32, 3) := by decide +kernel
theorem dX1_add_57 : decode cX1_add 57 = .ok (.iload 5, 2) := by decide +kernel
theorem dX1_add_59 : decode cX1_add 59 = .ok (.iadd, 1) := by decide +kernel
theorem dX1_add_60 : decode cX1_add 60 = .ok (.putfield 32, 3) := by decide +kernel
theorem dX1_add_63 : decode cX1_add 63 = .ok (.goto 31, 3) := by decide +kernel
theorem dX1_add_66 : decode cX1_add 66 = .ok (.iload_n 1, 1) := by decide +kernel
theorem dX1_add_67 : decode cX1_add 67 = .ok (.bipush 100, 2) := by decide +kernel
theorem dX1_add_69 : decode cX1_add 69 = .ok (.if_icmp .ne 25, 3) := by decide +kernel
theorem dX1_add_72 : decode cX1_add 72 = .ok (.aload_n 0, 1) := by decide +kernel
theorem dX1_add_73 : decode cX1_add 73 = .ok (.dup, 1) := by decide +kernel
theorem dX1_add_74 : decode cX1_add 74 = .ok (.getfield 35, 3) := by decide +kernel
theorem dX1_add_77 : decode cX1_add 77 = .ok (.iload 5, 2) := by decide +kernel
theorem dX1_add_79 : decode cX1_add 79 = .ok (.iconst 1, 1) := by decide +kernel
theorem dX1_add_80 : decode cX1_add 80 = .ok (.iadd, 1) := by decide +kernel
theorem dX1_add_81 : decode cX1_add 81 = .ok (.aload_n 0, 1) := by decide +kernel
theorem dX1_add_82 : decode cX1_add 82 = .ok (.getfield 25, 3) := by decide +kernel
theorem dX1_add_85 : decode cX1_add 85 = .ok (.iload 4, 2) := by decide +kernel
theorem dX1_add_87 : decode cX1_add 87 = .ok (.iaload, 1) := by decide +kernel
theorem dX1_add_88 : decode cX1_add 88 = .ok (.imul, 1) := by decide +kernel
theorem dX1_add_89 : decode cX1_add 89 = .ok (.i2l, 1) := by decide +kernel
theorem dX1_add_90 : decode cX1_add 90 = .ok (.ladd, 1) := by decide +kernel
theorem dX1_add_91 : decode cX1_add 91 = .ok (.putfield 35, 3) := by decide +kernel
theorem dX1_add_94 : decode cX1_add 94 = .ok (.aload_n 0, 1) := by decide +kernel
theorem dX1_add_95 : decode cX1_add 95 = .ok (.getfield 9, 3) := by decide +kernel
theorem dX1_add_98 : decode cX1_add 98 = .ok (.aload_n 0, 1) := by decide +kernel
theorem dX1_add_99 : decode cX1_add 99 = .ok (.getfield 28, 3) := by decide +kernel
theorem dX1_add_102 : decode cX1_add 102 = .ok (.iload_n 1, 1) := by decide +kernel
theorem dX1_add_103 : decode cX1_add 103 = .ok (.castore, 1) := by decide +kernel
theorem dX1_add_104 : decode cX1_add 104 = .ok (.aload_n 0, 1) := by decide +kernel
theorem dX1_add_105 : decode cX1_add 105 = .ok (.getfield 15, 3) := by decide +kernel
theorem dX1_add_108 : decode cX1_add 108 = .ok (.aload_n 0, 1) := by decide +kernel
theorem dX1_add_109 : decode cX1_add 109 = .ok (.getfield 28, 3) := by decide +kernel
theorem dX1_add_112 : decode cX1_add 112 = .ok (.iload_n 2, 1) := by decide +kernel
theorem dX1_add_113 : decode cX1_add 113 = .ok (.iastore, 1) := by decide +kernel
theorem dX1_add_114 : decode cX1_add 114 = .ok (.aload_n 0, 1) := by decide +kernel
theorem dX1_add_115 : decode cX1_add 115 = .ok (.getfield 19, 3) := by decide +kernel
theorem dX1_add_118 : decode cX1_add 118 = .ok (.aload_n 0, 1) := by decide +kernel
theorem dX1_add_119 : decode cX1_add 119 = .ok (.getfield 28, 3) := by decide +kernel
theorem dX1_add_122 : decode cX1_add 122 = .ok (.iload_n 3, 1) := by decide +kernel
theorem dX1_add_123 : decode cX1_add 123 = .ok (.iastore, 1) := by decide +kernel
theorem dX1_add_124 : decode cX1_add 124 = .ok (.aload_n 0, 1) := by decide +kernel
theorem dX1_add_125 : decode cX1_add 125 = .ok (.getfield 22, 3) := by decide +kernel
theorem dX1_add_128 : decode cX1_add 128 = .ok (.aload_n 0, 1) := by decide +kernel
theorem dX1_add_129 : decode cX1_add 129 = .ok (.getfield 28, 3) := by decide +kernel
theorem dX1_add_132 : decode cX1_add 132 = .ok (.iload 4, 2) := by decide +kernel
theorem dX1_add_134 : decode cX1_add 134 = .ok (.iastore, 1) := by decide +kernel
theorem dX1_add_135 : decode cX1_add 135 = .ok (.aload_n 0, 1) := by decide +kernel
theorem dX1_add_136 : decode cX1_add 136 = .ok (.dup, 1) := by decide +kernel
theorem dX1_add_137 : decode cX1_add 137 = .ok (.getfield 28, 3) := by decide +kernel
theorem dX1_add_140 : decode cX1_add 140 = .ok (.iconst 1, 1) := by decide +kernel
theorem dX1_add_141 : decode cX1_add 141 = .ok (.iadd, 1) := by decide +kernel
theorem dX1_add_142 : decode cX1_add 142 = .ok (.putfield 28, 3) := by decide +kernel
theorem dX1_add_145 : decode cX1_add 145 = .ok (.return_, 1) := by decide +kernel
theorem dX1_size_0 : decode cX1_size 0 = .ok (.aload_n 0, 1) := by decide +kernel
theorem dX1_size_1 : decode cX1_size 1 = .ok (.getfield 28, 3) := by decide +kernel
theorem dX1_size_4 : decode cX1_size 4 = .ok (.ireturn, 1) := by decide +kernel
theorem dX1_travelled_0 : decode cX1_travelled 0 = .ok (.aload_n 0, 1) := by decide +kernel
theorem dX1_travelled_1 : decode cX1_travelled 1 = .ok (.getfield 32, 3) := by decide +kernel
theorem dX1_travelled_4 : decode cX1_travelled 4 = .ok (.ireturn, 1) := by decide +kernel
theorem dX1_amountInAll_0 : decode cX1_amountInAll 0 = .ok (.aload_n 0, 1) := by decide +kernel
theorem dX1_amountInAll_1 : decode cX1_amountInAll 1 = .ok (.getfield 35, 3) := by decide +kernel
theorem dX1_amountInAll_4 : decode cX1_amountInAll 4 = .ok (.lreturn, 1) := by decide +kernel
theorem dX1_has_0 : decode cX1_has 0 = .ok (.iload_n 1, 1) := by decide +kernel
theorem dX1_has_1 : decode cX1_has 1 = .ok (.ifCond .lt 15, 3) := by decide +kernel
theorem dX1_has_4 : decode cX1_has 4 = .ok (.iload_n 1, 1) := by decide +kernel
theorem dX1_has_5 : decode cX1_has 5 = .ok (.aload_n 0, 1) := by decide +kernel
theorem dX1_has_6 : decode cX1_has 6 = .ok (.getfield 28, 3) := by decide +kernel
theorem dX1_has_9 : decode cX1_has 9 = .ok (.if_icmp .ge 7, 3) := by decide +kernel
theorem dX1_has_12 : decode cX1_has 12 = .ok (.iconst 1, 1) := by decide +kernel
theorem dX1_has_13 : decode cX1_has 13 = .ok (.goto 4, 3) := by decide +kernel
theorem dX1_has_16 : decode cX1_has 16 = .ok (.iconst 0, 1) := by decide +kernel
theorem dX1_has_17 : decode cX1_has 17 = .ok (.ireturn, 1) := by decide +kernel
theorem dX1_kindOf_0 : decode cX1_kindOf 0 = .ok (.iload_n 1, 1) := by decide +kernel
theorem dX1_kindOf_1 : decode cX1_kindOf 1 = .ok (.ifCond .lt 20, 3) := by decide +kernel
theorem dX1_kindOf_4 : decode cX1_kindOf 4 = .ok (.iload_n 1, 1) := by decide +kernel
theorem dX1_kindOf_5 : decode cX1_kindOf 5 = .ok (.aload_n 0, 1) := by decide +kernel
theorem dX1_kindOf_6 : decode cX1_kindOf 6 = .ok (.getfield 28, 3) := by decide +kernel
theorem dX1_kindOf_9 : decode cX1_kindOf 9 = .ok (.if_icmp .ge 12, 3) := by decide +kernel
theorem dX1_kindOf_12 : decode cX1_kindOf 12 = .ok (.aload_n 0, 1) := by decide +kernel
theorem dX1_kindOf_13 : decode cX1_kindOf 13 = .ok (.getfield 9, 3) := by decide +kernel
theorem dX1_kindOf_16 : decode cX1_kindOf 16 = .ok (.iload_n 1, 1) := by decide +kernel
theorem dX1_kindOf_17 : decode cX1_kindOf 17 = .ok (.caload, 1) := by decide +kernel
theorem dX1_kindOf_18 : decode cX1_kindOf 18 = .ok (.goto 5, 3) := by decide +kernel
theorem dX1_kindOf_21 : decode cX1_kindOf 21 = .ok (.bipush 32, 2) := by decide +kernel
theorem dX1_kindOf_23 : decode cX1_kindOf 23 = .ok (.ireturn, 1) := by decide +kernel
theorem dX1_behindX_0 : decode cX1_behindX 0 = .ok (.iload_n 1, 1) := by decide +kernel
theorem dX1_behindX_1 : decode cX1_behindX 1 = .ok (.ifCond .lt 20, 3) := by decide +kernel
theorem dX1_behindX_4 : decode cX1_behindX 4 = .ok (.iload_n 1, 1) := by decide +kernel
theorem dX1_behindX_5 : decode cX1_behindX 5 = .ok (.aload_n 0, 1) := by decide +kernel
theorem dX1_behindX_6 : decode cX1_behindX 6 = .ok (.getfield 28, 3) := by decide +kernel
theorem dX1_behindX_9 : decode cX1_behindX 9 = .ok (.if_icmp .ge 12, 3) := by decide +kernel
theorem dX1_behindX_12 : decode cX1_behindX 12 = .ok (.aload_n 0, 1) := by decide +kernel
theorem dX1_behindX_13 : decode cX1_behindX 13 = .ok (.getfield 15, 3) := by decide +kernel
theorem dX1_behindX_16 : decode cX1_behindX 16 = .ok (.iload_n 1, 1) := by decide +kernel
theorem dX1_behindX_17 : decode cX1_behindX 17 = .ok (.iaload, 1) := by decide +kernel
theorem dX1_behindX_18 : decode cX1_behindX 18 = .ok (.goto 4, 3) := by decide +kernel
theorem dX1_behindX_21 : decode cX1_behindX 21 = .ok (.iconst 0, 1) := by decide +kernel
theorem dX1_behindX_22 : decode cX1_behindX 22 = .ok (.ireturn, 1) := by decide +kernel
theorem dX1_behindY_0 : decode cX1_behindY 0 = .ok (.iload_n 1, 1) := by decide +kernel
theorem dX1_behindY_1 : decode cX1_behindY 1 = .ok (.ifCond .lt 20, 3) := by decide +kernel
theorem dX1_behindY_4 : decode cX1_behindY 4 = .ok (.iload_n 1, 1) := by decide +kernel
theorem dX1_behindY_5 : decode cX1_behindY 5 = .ok (.aload_n 0, 1) := by decide +kernel
theorem dX1_behindY_6 : decode cX1_behindY 6 = .ok (.getfield 28, 3) := by decide +kernel
theorem dX1_behindY_9 : decode cX1_behindY 9 = .ok (.if_icmp .ge 12, 3) := by decide +kernel
theorem dX1_behindY_12 : decode cX1_behindY 12 = .ok (.aload_n 0, 1) := by decide +kernel
theorem dX1_behindY_13 : decode cX1_behindY 13 = .ok (.getfield 19, 3) := by decide +kernel
theorem dX1_behindY_16 : decode cX1_behindY 16 = .ok (.iload_n 1, 1) := by decide +kernel
theorem dX1_behindY_17 : decode cX1_behindY 17 = .ok (.iaload, 1) := by decide +kernel
theorem dX1_behindY_18 : decode cX1_behindY 18 = .ok (.goto 4, 3) := by decide +kernel
theorem dX1_behindY_21 : decode cX1_behindY 21 = .ok (.iconst 0, 1) := by decide +kernel
theorem dX1_behindY_22 : decode cX1_behindY 22 = .ok (.ireturn, 1) := by decide +kernel
theorem dX1_layerOf_0 : decode cX1_layerOf 0 = .ok (.iload_n 1, 1) := by decide +kernel
theorem dX1_layerOf_1 : decode cX1_layerOf 1 = .ok (.ifCond .lt 20, 3) := by decide +kernel
theorem dX1_layerOf_4 : decode cX1_layerOf 4 = .ok (.iload_n 1, 1) := by decide +kernel
theorem dX1_layerOf_5 : decode cX1_layerOf 5 = .ok (.aload_n 0, 1) := by decide +kernel
theorem dX1_layerOf_6 : decode cX1_layerOf 6 = .ok (.getfield 28, 3) := by decide +kernel
theorem dX1_layerOf_9 : decode cX1_layerOf 9 = .ok (.if_icmp .ge 12, 3) := by decide +kernel
theorem dX1_layerOf_12 : decode cX1_layerOf 12 = .ok (.aload_n 0, 1) := by decide +kernel
theorem dX1_layerOf_13 : decode cX1_layerOf 13 = .ok (.getfield 22, 3) := by decide +kernel
theorem dX1_layerOf_16 : decode cX1_layerOf 16 = .ok (.iload_n 1, 1) := by decide +kernel
theorem dX1_layerOf_17 : decode cX1_layerOf 17 = .ok (.iaload, 1) := by decide +kernel
theorem dX1_layerOf_18 : decode cX1_layerOf 18 = .ok (.goto 4, 3) := by decide +kernel
theorem dX1_layerOf_21 : decode cX1_layerOf 21 = .ok (.iconst 0, 1) := by decide +kernel
theorem dX1_layerOf_22 : decode cX1_layerOf 22 = .ok (.ireturn, 1) := by decide +kernel
theorem dX1_distanceX_0 : decode cX1_distanceX 0 = .ok (.aload_n 0, 1) := by decide +kernel
theorem dX1_distanceX_1 : decode cX1_distanceX 1 = .ok (.iload_n 1, 1) := by decide +kernel
theorem dX1_distanceX_2 : decode cX1_distanceX 2 = .ok (.invokevirtual 43, 3) := by decide +kernel
theorem dX1_distanceX_5 : decode cX1_distanceX 5 = .ok (.aload_n 0, 1) := by decide +kernel
theorem dX1_distanceX_6 : decode cX1_distanceX 6 = .ok (.iload_n 1, 1) := by decide +kernel
theorem dX1_distanceX_7 : decode cX1_distanceX 7 = .ok (.iconst 1, 1) := by decide +kernel
theorem dX1_distanceX_8 : decode cX1_distanceX 8 = .ok (.isub, 1) := by decide +kernel
theorem dX1_distanceX_9 : decode cX1_distanceX 9 = .ok (.invokevirtual 43, 3) := by decide +kernel
theorem dX1_distanceX_12 : decode cX1_distanceX 12 = .ok (.isub, 1) := by decide +kernel
theorem dX1_distanceX_13 : decode cX1_distanceX 13 = .ok (.ireturn, 1) := by decide +kernel
theorem dX1_distanceY_0 : decode cX1_distanceY 0 = .ok (.aload_n 0, 1) := by decide +kernel
theorem dX1_distanceY_1 : decode cX1_distanceY 1 = .ok (.iload_n 1, 1) := by decide +kernel
theorem dX1_distanceY_2 : decode cX1_distanceY 2 = .ok (.invokevirtual 47, 3) := by decide +kernel
theorem dX1_distanceY_5 : decode cX1_distanceY 5 = .ok (.aload_n 0, 1) := by decide +kernel
theorem dX1_distanceY_6 : decode cX1_distanceY 6 = .ok (.iload_n 1, 1) := by decide +kernel
theorem dX1_distanceY_7 : decode cX1_distanceY 7 = .ok (.iconst 1, 1) := by decide +kernel
theorem dX1_distanceY_8 : decode cX1_distanceY 8 = .ok (.isub, 1) := by decide +kernel
theorem dX1_distanceY_9 : decode cX1_distanceY 9 = .ok (.invokevirtual 47, 3) := by decide +kernel
theorem dX1_distanceY_12 : decode cX1_distanceY 12 = .ok (.isub, 1) := by decide +kernel
theorem dX1_distanceY_13 : decode cX1_distanceY 13 = .ok (.ireturn, 1) := by decide +kernel
theorem dX1_isMove_0 : decode cX1_isMove 0 = .ok (.aload_n 0, 1) := by decide +kernel
theorem dX1_isMove_1 : decode cX1_isMove 1 = .ok (.iload_n 1, 1) := by decide +kernel
theorem dX1_isMove_2 : decode cX1_isMove 2 = .ok (.invokevirtual 54, 3) := by decide +kernel
theorem dX1_isMove_5 : decode cX1_isMove 5 = .ok (.bipush 103, 2) := by decide +kernel
theorem dX1_isMove_7 : decode cX1_isMove 7 = .ok (.if_icmp .eq 13, 3) := by decide +kernel
theorem dX1_isMove_10 : decode cX1_isMove 10 = .ok (.aload_n 0, 1) := by decide +kernel
theorem dX1_isMove_11 : decode cX1_isMove 11 = .ok (.iload_n 1, 1) := by decide +kernel
theorem dX1_isMove_12 : decode cX1_isMove 12 = .ok (.invokevirtual 54, 3) := by decide +kernel
theorem dX1_isMove_15 : decode cX1_isMove 15 = .ok (.bipush 100, 2) := by decide +kernel
theorem dX1_isMove_17 : decode cX1_isMove 17 = .ok (.if_icmp .ne 7, 3) := by decide +kernel
theorem dX1_isMove_20 : decode cX1_isMove 20 = .ok (.iconst 1, 1) := by decide +kernel
theorem dX1_isMove_21 : decode cX1_isMove 21 = .ok (.goto 4, 3) := by decide +kernel
theorem dX1_isMove_24 : decode cX1_isMove 24 = .ok (.iconst 0, 1) := by decide +kernel
theorem dX1_isMove_25 : decode cX1_isMove 25 = .ok (.ireturn, 1) := by decide +kernel
theorem dX1_hasNumber_0 : decode cX1_hasNumber 0 = .ok (.iload_n 2, 1) := by decide +kernel
theorem dX1_hasNumber_1 : decode cX1_hasNumber 1 = .ok (.lookupswitch 57 #[(97, 41), (120, 35), (121, 35)], 35) := by decide +kernel
theorem dX1_hasNumber_36 : decode cX1_hasNumber 36 = .ok (.aload_n 0, 1) := by decide +kernel
theorem dX1_hasNumber_37 : decode cX1_hasNumber 37 = .ok (.iload_n 1, 1) := by decide +kernel
theorem dX1_hasNumber_38 : decode cX1_hasNumber 38 = .ok (.invokevirtual 58, 3) := by decide +kernel
theorem dX1_hasNumber_41 : decode cX1_hasNumber 41 = .ok (.ireturn, 1) := by decide +kernel
theorem dX1_hasNumber_42 : decode cX1_hasNumber 42 = .ok (.aload_n 0, 1) := by decide +kernel
theorem dX1_hasNumber_43 : decode cX1_hasNumber 43 = .ok (.iload_n 1, 1) := by decide +kernel
theorem dX1_hasNumber_44 : decode cX1_hasNumber 44 = .ok (.invokevirtual 54, 3) := by decide +kernel
theorem dX1_hasNumber_47 : decode cX1_hasNumber 47 = .ok (.bipush 100, 2) := by decide +kernel
theorem dX1_hasNumber_49 : decode cX1_hasNumber 49 = .ok (.if_icmp .ne 7, 3) := by decide +kernel
theorem dX1_hasNumber_52 : decode cX1_hasNumber 52 = .ok (.iconst 1, 1) := by decide +kernel
theorem dX1_hasNumber_53 : decode cX1_hasNumber 53 = .ok (.goto 4, 3) := by decide +kernel
theorem dX1_hasNumber_56 : decode cX1_hasNumber 56 = .ok (.iconst 0, 1) := by decide +kernel
theorem dX1_hasNumber_57 : decode cX1_hasNumber 57 = .ok (.ireturn, 1) := by decide +kernel
theorem dX1_hasNumber_58 : decode cX1_hasNumber 58 = .ok (.aload_n 0, 1) := by decide +kernel
theorem dX1_hasNumber_59 : decode cX1_hasNumber 59 = .ok (.iload_n 1, 1) := by decide +kernel
theorem dX1_hasNumber_60 : decode cX1_hasNumber 60 = .ok (.invokevirtual 54, 3) := by decide +kernel
theorem dX1_hasNumber_63 : decode cX1_hasNumber 63 = .ok (.bipush 122, 2) := by decide +kernel
theorem dX1_hasNumber_65 : decode cX1_hasNumber 65 = .ok (.if_icmp .ne 7, 3) := by decide +kernel
theorem dX1_hasNumber_68 : decode cX1_hasNumber 68 = .ok (.iconst 1, 1) := by decide +kernel
theorem dX1_hasNumber_69 : decode cX1_hasNumber 69 = .ok (.goto 4, 3) := by decide +kernel
theorem dX1_hasNumber_72 : decode cX1_hasNumber 72 = .ok (.iconst 0, 1) := by decide +kernel
theorem dX1_hasNumber_73 : decode cX1_hasNumber 73 = .ok (.ireturn, 1) := by decide +kernel
theorem dX1_numberOf_0 : decode cX1_numberOf 0 = .ok (.iload_n 2, 1) := by decide +kernel
theorem dX1_numberOf_1 : decode cX1_numberOf 1 = .ok (.lookupswitch 59 #[(97, 47), (120, 35), (121, 41)], 35) := by decide +kernel
theorem dX1_numberOf_36 : decode cX1_numberOf 36 = .ok (.aload_n 0, 1) := by decide +kernel
theorem dX1_numberOf_37 : decode cX1_numberOf 37 = .ok (.iload_n 1, 1) := by decide +kernel
theorem dX1_numberOf_38 : decode cX1_numberOf 38 = .ok (.invokevirtual 43, 3) := by decide +kernel
theorem dX1_numberOf_41 : decode cX1_numberOf 41 = .ok (.ireturn, 1) := by decide +kernel
theorem dX1_numberOf_42 : decode cX1_numberOf 42 = .ok (.aload_n 0, 1) := by decide +kernel
theorem dX1_numberOf_43 : decode cX1_numberOf 43 = .ok (.iload_n 1, 1) := by decide +kernel
theorem dX1_numberOf_44 : decode cX1_numberOf 44 = .ok (.invokevirtual 47, 3) := by decide +kernel
theorem dX1_numberOf_47 : decode cX1_numberOf 47 = .ok (.ireturn, 1) := by decide +kernel
theorem dX1_numberOf_48 : decode cX1_numberOf 48 = .ok (.aload_n 0, 1) := by decide +kernel
theorem dX1_numberOf_49 : decode cX1_numberOf 49 = .ok (.iload_n 1, 1) := by decide +kernel
theorem dX1_numberOf_50 : decode cX1_numberOf 50 = .ok (.invokevirtual 61, 3) := by decide +kernel
theorem dX1_numberOf_53 : decode cX1_numberOf 53 = .ok (.aload_n 0, 1) := by decide +kernel
theorem dX1_numberOf_54 : decode cX1_numberOf 54 = .ok (.iload_n 1, 1) := by decide +kernel
theorem dX1_numberOf_55 : decode cX1_numberOf 55 = .ok (.invokevirtual 64, 3) := by decide +kernel
theorem dX1_numberOf_58 : decode cX1_numberOf 58 = .ok (.imul, 1) := by decide +kernel
theorem dX1_numberOf_59 : decode cX1_numberOf 59 = .ok (.ireturn, 1) := by decide +kernel
theorem dX1_numberOf_60 : decode cX1_numberOf 60 = .ok (.aload_n 0, 1) := by decide +kernel
theorem dX1_numberOf_61 : decode cX1_numberOf 61 = .ok (.iload_n 1, 1) := by decide +kernel
theorem dX1_numberOf_62 : decode cX1_numberOf 62 = .ok (.invokevirtual 67, 3) := by decide +kernel
theorem dX1_numberOf_65 : decode cX1_numberOf 65 = .ok (.ireturn, 1) := by decide +kernel
theorem dX1_cellAmount_0 : decode cX1_cellAmount 0 = .ok (.aload_n 0, 1) := by decide +kernel
theorem dX1_cellAmount_1 : decode cX1_cellAmount 1 = .ok (.iload_n 1, 1) := by decide +kernel
theorem dX1_cellAmount_2 : decode cX1_cellAmount 2 = .ok (.invokevirtual 67, 3) := by decide +kernel
theorem dX1_cellAmount_5 : decode cX1_cellAmount 5 = .ok (.istore_n 2, 1) := by decide +kernel
theorem dX1_cellAmount_6 : decode cX1_cellAmount 6 = .ok (.iload_n 2, 1) := by decide +kernel
theorem dX1_cellAmount_7 : decode cX1_cellAmount 7 = .ok (.invokestatic 39, 3) := by decide +kernel
theorem dX1_cellAmount_10 : decode cX1_cellAmount 10 = .ok (.ifCond .eq 12, 3) := by decide +kernel
theorem dX1_cellAmount_13 : decode cX1_cellAmount 13 = .ok (.aload_n 0, 1) := by decide +kernel
theorem dX1_cellAmount_14 : decode cX1_cellAmount 14 = .ok (.getfield 25, 3) := by decide +kernel
theorem dX1_cellAmount_17 : decode cX1_cellAmount 17 = .ok (.iload_n 2, 1) := by decide +kernel
theorem dX1_cellAmount_18 : decode cX1_cellAmount 18 = .ok (.iaload, 1) := by decide +kernel
theorem dX1_cellAmount_19 : decode cX1_cellAmount 19 = .ok (.goto 4, 3) := by decide +kernel
theorem dX1_cellAmount_22 : decode cX1_cellAmount 22 = .ok (.iconst 0, 1) := by decide +kernel
theorem dX1_cellAmount_23 : decode cX1_cellAmount 23 = .ok (.ireturn, 1) := by decide +kernel
theorem dX1_cellsOf_0 : decode cX1_cellsOf 0 = .ok (.aload_n 0, 1) := by decide +kernel
theorem dX1_cellsOf_1 : decode cX1_cellsOf 1 = .ok (.iload_n 1, 1) := by decide +kernel
theorem dX1_cellsOf_2 : decode cX1_cellsOf 2 = .ok (.invokevirtual 70, 3) := by decide +kernel
theorem dX1_cellsOf_5 : decode cX1_cellsOf 5 = .ok (.invokestatic 73, 3) := by decide +kernel
theorem dX1_cellsOf_8 : decode cX1_cellsOf 8 = .ok (.aload_n 0, 1) := by decide +kernel
theorem dX1_cellsOf_9 : decode cX1_cellsOf 9 = .ok (.iload_n 1, 1) := by decide +kernel
theorem dX1_cellsOf_10 : decode cX1_cellsOf 10 = .ok (.invokevirtual 78, 3) := by decide +kernel
theorem dX1_cellsOf_13 : decode cX1_cellsOf 13 = .ok (.invokestatic 73, 3) := by decide +kernel
theorem dX1_cellsOf_16 : decode cX1_cellsOf 16 = .ok (.iadd, 1) := by decide +kernel
theorem dX1_cellsOf_17 : decode cX1_cellsOf 17 = .ok (.iconst 1, 1) := by decide +kernel
theorem dX1_cellsOf_18 : decode cX1_cellsOf 18 = .ok (.iadd, 1) := by decide +kernel
theorem dX1_cellsOf_19 : decode cX1_cellsOf 19 = .ok (.ireturn, 1) := by decide +kernel
theorem dX1_lengthOf_0 : decode cX1_lengthOf 0 = .ok (.bipush 10, 2) := by decide +kernel
theorem dX1_lengthOf_2 : decode cX1_lengthOf 2 = .ok (.aload_n 0, 1) := by decide +kernel
theorem dX1_lengthOf_3 : decode cX1_lengthOf 3 = .ok (.iload_n 1, 1) := by decide +kernel
theorem dX1_lengthOf_4 : decode cX1_lengthOf 4 = .ok (.invokevirtual 70, 3) := by decide +kernel
theorem dX1_lengthOf_7 : decode cX1_lengthOf 7 = .ok (.invokestatic 73, 3) := by decide +kernel
theorem dX1_lengthOf_10 : decode cX1_lengthOf 10 = .ok (.aload_n 0, 1) := by decide +kernel
theorem dX1_lengthOf_11 : decode cX1_lengthOf 11 = .ok (.iload_n 1, 1) := by decide +kernel
theorem dX1_lengthOf_12 : decode cX1_lengthOf 12 = .ok (.invokevirtual 78, 3) := by decide +kernel
theorem dX1_lengthOf_15 : decode cX1_lengthOf 15 = .ok (.invokestatic 73, 3) := by decide +kernel
theorem dX1_lengthOf_18 : decode cX1_lengthOf 18 = .ok (.invokestatic 81, 3) := by decide +kernel
theorem dX1_lengthOf_21 : decode cX1_lengthOf 21 = .ok (.imul, 1) := by decide +kernel
theorem dX1_lengthOf_22 : decode cX1_lengthOf 22 = .ok (.ireturn, 1) := by decide +kernel
theorem dX1_greatestSpeed_0 : decode cX1_greatestSpeed 0 = .ok (.aload_n 0, 1) := by decide +kernel
theorem dX1_greatestSpeed_1 : decode cX1_greatestSpeed 1 = .ok (.iload_n 1, 1) := by decide +kernel
theorem dX1_greatestSpeed_2 : decode cX1_greatestSpeed 2 = .ok (.invokevirtual 54, 3) := by decide +kernel
theorem dX1_greatestSpeed_5 : decode cX1_greatestSpeed 5 = .ok (.bipush 103, 2) := by decide +kernel
theorem dX1_greatestSpeed_7 : decode cX1_greatestSpeed 7 = .ok (.if_icmp .ne 8, 3) := by decide +kernel
theorem dX1_greatestSpeed_10 : decode cX1_greatestSpeed 10 = .ok (.bipush 8, 2) := by decide +kernel
theorem dX1_greatestSpeed_12 : decode cX1_greatestSpeed 12 = .ok (.goto 4, 3) := by decide +kernel
theorem dX1_greatestSpeed_15 : decode cX1_greatestSpeed 15 = .ok (.iconst 4, 1) := by decide +kernel
theorem dX1_greatestSpeed_16 : decode cX1_greatestSpeed 16 = .ok (.ireturn, 1) := by decide +kernel
theorem dX1_goesOn_0 : decode cX1_goesOn 0 = .ok (.aload_n 0, 1) := by decide +kernel
theorem dX1_goesOn_1 : decode cX1_goesOn 1 = .ok (.iload_n 1, 1) := by decide +kernel
theorem dX1_goesOn_2 : decode cX1_goesOn 2 = .ok (.invokevirtual 58, 3) := by decide +kernel
theorem dX1_goesOn_5 : decode cX1_goesOn 5 = .ok (.ifCond .eq 13, 3) := by decide +kernel
theorem dX1_goesOn_8 : decode cX1_goesOn 8 = .ok (.aload_n 0, 1) := by decide +kernel
theorem dX1_goesOn_9 : decode cX1_goesOn 9 = .ok (.iload_n 1, 1) := by decide +kernel
theorem dX1_goesOn_10 : decode cX1_goesOn 10 = .ok (.iconst 1, 1) := by decide +kernel
theorem dX1_goesOn_11 : decode cX1_goesOn 11 = .ok (.iadd, 1) := by decide +kernel
theorem dX1_goesOn_12 : decode cX1_goesOn 12 = .ok (.invokevirtual 58, 3) := by decide +kernel
theorem dX1_goesOn_15 : decode cX1_goesOn 15 = .ok (.ifCond .ne 5, 3) := by decide +kernel
theorem dX1_goesOn_18 : decode cX1_goesOn 18 = .ok (.iconst 0, 1) := by decide +kernel
theorem dX1_goesOn_19 : decode cX1_goesOn 19 = .ok (.ireturn, 1) := by decide +kernel
theorem dX1_goesOn_20 : decode cX1_goesOn 20 = .ok (.aload_n 0, 1) := by decide +kernel
theorem dX1_goesOn_21 : decode cX1_goesOn 21 = .ok (.iload_n 1, 1) := by decide +kernel
theorem dX1_goesOn_22 : decode cX1_goesOn 22 = .ok (.invokevirtual 70, 3) := by decide +kernel
theorem dX1_goesOn_25 : decode cX1_goesOn 25 = .ok (.invokestatic 85, 3) := by decide +kernel
theorem dX1_goesOn_28 : decode cX1_goesOn 28 = .ok (.istore_n 2, 1) := by decide +kernel
theorem dX1_goesOn_29 : decode cX1_goesOn 29 = .ok (.aload_n 0, 1) := by decide +kernel
theorem dX1_goesOn_30 : decode cX1_goesOn 30 = .ok (.iload_n 1, 1) := by decide +kernel
theorem dX1_goesOn_31 : decode cX1_goesOn 31 = .ok (.invokevirtual 78, 3) := by decide +kernel
theorem dX1_goesOn_34 : decode cX1_goesOn 34 = .ok (.invokestatic 85, 3) := by decide +kernel
theorem dX1_goesOn_37 : decode cX1_goesOn 37 = .ok (.istore_n 3, 1) := by decide +kernel
theorem dX1_goesOn_38 : decode cX1_goesOn 38 = .ok (.iload_n 2, 1) := by decide +kernel
theorem dX1_goesOn_39 : decode cX1_goesOn 39 = .ok (.ifCond .ne 7, 3) := by decide +kernel
theorem dX1_goesOn_42 : decode cX1_goesOn 42 = .ok (.iload_n 3, 1) := by decide +kernel
theorem dX1_goesOn_43 : decode cX1_goesOn 43 = .ok (.ifCond .eq 35, 3) := by decide +kernel
theorem dX1_goesOn_46 : decode cX1_goesOn 46 = .ok (.iload_n 2, 1) := by decide +kernel
theorem dX1_goesOn_47 : decode cX1_goesOn 47 = .ok (.aload_n 0, 1) := by decide +kernel
theorem dX1_goesOn_48 : decode cX1_goesOn 48 = .ok (.iload_n 1, 1) := by decide +kernel
theorem dX1_goesOn_49 : decode cX1_goesOn 49 = .ok (.iconst 1, 1) := by decide +kernel
theorem dX1_goesOn_50 : decode cX1_goesOn 50 = .ok (.iadd, 1) := by decide +kernel
theorem dX1_goesOn_51 : decode cX1_goesOn 51 = .ok (.invokevirtual 70, 3) := by decide +kernel
theorem dX1_goesOn_54 : decode cX1_goesOn 54 = .ok (.invokestatic 85, 3) := by decide +kernel
theorem dX1_goesOn_57 : decode cX1_goesOn 57 = .ok (.if_icmp .ne 21, 3) := by decide +kernel
theorem dX1_goesOn_60 : decode cX1_goesOn 60 = .ok (.iload_n 3, 1) := by decide +kernel
theorem dX1_goesOn_61 : decode cX1_goesOn 61 = .ok (.aload_n 0, 1) := by decide +kernel
theorem dX1_goesOn_62 : decode cX1_goesOn 62 = .ok (.iload_n 1, 1) := by decide +kernel
theorem dX1_goesOn_63 : decode cX1_goesOn 63 = .ok (.iconst 1, 1) := by decide +kernel
theorem dX1_goesOn_64 : decode cX1_goesOn 64 = .ok (.iadd, 1) := by decide +kernel
theorem dX1_goesOn_65 : decode cX1_goesOn 65 = .ok (.invokevirtual 78, 3) := by decide +kernel
theorem dX1_goesOn_68 : decode cX1_goesOn 68 = .ok (.invokestatic 85, 3) := by decide +kernel
theorem dX1_goesOn_71 : decode cX1_goesOn 71 = .ok (.if_icmp .ne 7, 3) := by decide +kernel
theorem dX1_goesOn_74 : decode cX1_goesOn 74 = .ok (.iconst 1, 1) := by decide +kernel
theorem dX1_goesOn_75 : decode cX1_goesOn 75 = .ok (.goto 4, 3) := by decide +kernel
theorem dX1_goesOn_78 : decode cX1_goesOn 78 = .ok (.iconst 0, 1) := by decide +kernel
theorem dX1_goesOn_79 : decode cX1_goesOn 79 = .ok (.ireturn, 1) := by decide +kernel
theorem dX1_lastSpeed_0 : decode cX1_lastSpeed 0 = .ok (.aload_n 0, 1) := by decide +kernel
theorem dX1_lastSpeed_1 : decode cX1_lastSpeed 1 = .ok (.iload_n 1, 1) := by decide +kernel
theorem dX1_lastSpeed_2 : decode cX1_lastSpeed 2 = .ok (.invokevirtual 88, 3) := by decide +kernel
theorem dX1_lastSpeed_5 : decode cX1_lastSpeed 5 = .ok (.ifCond .eq 21, 3) := by decide +kernel
theorem dX1_lastSpeed_8 : decode cX1_lastSpeed 8 = .ok (.aload_n 0, 1) := by decide +kernel
theorem dX1_lastSpeed_9 : decode cX1_lastSpeed 9 = .ok (.iload_n 1, 1) := by decide +kernel
theorem dX1_lastSpeed_10 : decode cX1_lastSpeed 10 = .ok (.invokevirtual 91, 3) := by decide +kernel
theorem dX1_lastSpeed_13 : decode cX1_lastSpeed 13 = .ok (.aload_n 0, 1) := by decide +kernel
theorem dX1_lastSpeed_14 : decode cX1_lastSpeed 14 = .ok (.iload_n 1, 1) := by decide +kernel
theorem dX1_lastSpeed_15 : decode cX1_lastSpeed 15 = .ok (.iconst 1, 1) := by decide +kernel
theorem dX1_lastSpeed_16 : decode cX1_lastSpeed 16 = .ok (.iadd, 1) := by decide +kernel
theorem dX1_lastSpeed_17 : decode cX1_lastSpeed 17 = .ok (.invokevirtual 91, 3) := by decide +kernel
theorem dX1_lastSpeed_20 : decode cX1_lastSpeed 20 = .ok (.invokestatic 94, 3) := by decide +kernel
theorem dX1_lastSpeed_23 : decode cX1_lastSpeed 23 = .ok (.goto 4, 3) := by decide +kernel
theorem dX1_lastSpeed_26 : decode cX1_lastSpeed 26 = .ok (.iconst 1, 1) := by decide +kernel
theorem dX1_lastSpeed_27 : decode cX1_lastSpeed 27 = .ok (.ireturn, 1) := by decide +kernel
theorem dX2_init_0 : decode cX2_init 0 = .ok (.aload_n 0, 1) := by decide +kernel
theorem dX2_init_1 : decode cX2_init 1 = .ok (.invokespecial 1, 3) := by decide +kernel
theorem dX2_init_4 : decode cX2_init 4 = .ok (.aload_n 0, 1) := by decide +kernel
theorem dX2_init_5 : decode cX2_init 5 = .ok (.bipush 20, 2) := by decide +kernel
theorem dX2_init_7 : decode cX2_init 7 = .ok (.putfield 9, 3) := by decide +kernel
theorem dX2_init_10 : decode cX2_init 10 = .ok (.return_, 1) := by decide +kernel
theorem dX2_changeTarget_0 : decode cX2_changeTarget 0 = .ok (.aload_n 0, 1) := by decide +kernel
theorem dX2_changeTarget_1 : decode cX2_changeTarget 1 = .ok (.getfield 13, 3) := by decide +kernel
theorem dX2_changeTarget_4 : decode cX2_changeTarget 4 = .ok (.istore_n 2, 1) := by decide +kernel
theorem dX2_changeTarget_5 : decode cX2_changeTarget 5 = .ok (.aload_n 0, 1) := by decide +kernel
theorem dX2_changeTarget_6 : decode cX2_changeTarget 6 = .ok (.iload_n 1, 1) := by decide +kernel
theorem dX2_changeTarget_7 : decode cX2_changeTarget 7 = .ok (.putfield 13, 3) := by decide +kernel
theorem dX2_changeTarget_10 : decode cX2_changeTarget 10 = .ok (.iload_n 2, 1) := by decide +kernel
theorem dX2_changeTarget_11 : decode cX2_changeTarget 11 = .ok (.ireturn, 1) := by decide +kernel
theorem dX2_passTick_0 : decode cX2_passTick 0 = .ok (.aload_n 0, 1) := by decide +kernel
theorem dX2_passTick_1 : decode cX2_passTick 1 = .ok (.getfield 9, 3) := by decide +kernel
theorem dX2_passTick_4 : decode cX2_passTick 4 = .ok (.aload_n 0, 1) := by decide +kernel
theorem dX2_passTick_5 : decode cX2_passTick 5 = .ok (.getfield 13, 3) := by decide +kernel
theorem dX2_passTick_8 : decode cX2_passTick 8 = .ok (.iconst 2, 1) := by decide +kernel
theorem dX2_passTick_9 : decode cX2_passTick 9 = .ok (.isub, 1) := by decide +kernel
theorem dX2_passTick_10 : decode cX2_passTick 10 = .ok (.if_icmp .ge 11, 3) := by decide +kernel
theorem dX2_passTick_13 : decode cX2_passTick 13 = .ok (.aload_n 0, 1) := by decide +kernel
theorem dX2_passTick_14 : decode cX2_passTick 14 = .ok (.iconst 1, 1) := by decide +kernel
theorem dX2_passTick_15 : decode cX2_passTick 15 = .ok (.putfield 16, 3) := by decide +kernel
theorem dX2_passTick_18 : decode cX2_passTick 18 = .ok (.goto 21, 3) := by decide +kernel
theorem dX2_passTick_21 : decode cX2_passTick 21 = .ok (.aload_n 0, 1) := by decide +kernel
theorem dX2_passTick_22 : decode cX2_passTick 22 = .ok (.getfield 9, 3) := by decide +kernel
theorem dX2_passTick_25 : decode cX2_passTick 25 = .ok (.aload_n 0, 1) := by decide +kernel
theorem dX2_passTick_26 : decode cX2_passTick 26 = .ok (.getfield 13, 3) := by decide +kernel
theorem dX2_passTick_29 : decode cX2_passTick 29 = .ok (.iconst 2, 1) := by decide +kernel
theorem dX2_passTick_30 : decode cX2_passTick 30 = .ok (.iadd, 1) := by decide +kernel
theorem dX2_passTick_31 : decode cX2_passTick 31 = .ok (.if_icmp .le 8, 3) := by decide +kernel
theorem dX2_passTick_34 : decode cX2_passTick 34 = .ok (.aload_n 0, 1) := by decide +kernel
theorem dX2_passTick_35 : decode cX2_passTick 35 = .ok (.iconst 0, 1) := by decide +kernel
theorem dX2_passTick_36 : decode cX2_passTick 36 = .ok (.putfield 16, 3) := by decide +kernel
theorem dX2_passTick_39 : decode cX2_passTick 39 = .ok (.aload_n 0, 1) := by decide +kernel
theorem dX2_passTick_40 : decode cX2_passTick 40 = .ok (.aload_n 0, 1) := by decide +kernel
theorem dX2_passTick_41 : decode cX2_passTick 41 = .ok (.getfield 16, 3) := by decide +kernel
theorem dX2_passTick_44 : decode cX2_passTick 44 = .ok (.ifCond .eq 12, 3) := by decide +kernel
theorem dX2_passTick_47 : decode cX2_passTick 47 = .ok (.aload_n 0, 1) := by decide +kernel
theorem dX2_passTick_48 : decode cX2_passTick 48 = .ok (.getfield 9, 3) := by decide +kernel
theorem dX2_passTick_51 : decode cX2_passTick 51 = .ok (.iconst 3, 1) := by decide +kernel
theorem dX2_passTick_52 : decode cX2_passTick 52 = .ok (.iadd, 1) := by decide +kernel
theorem dX2_passTick_53 : decode cX2_passTick 53 = .ok (.goto 14, 3) := by decide +kernel
theorem dX2_passTick_56 : decode cX2_passTick 56 = .ok (.aload_n 0, 1) := by decide +kernel
theorem dX2_passTick_57 : decode cX2_passTick 57 = .ok (.getfield 9, 3) := by decide +kernel
theorem dX2_passTick_60 : decode cX2_passTick 60 = .ok (.iconst 1, 1) := by decide +kernel
theorem dX2_passTick_61 : decode cX2_passTick 61 = .ok (.isub, 1) := by decide +kernel
theorem dX2_passTick_62 : decode cX2_passTick 62 = .ok (.bipush 20, 2) := by decide +kernel
theorem dX2_passTick_64 : decode cX2_passTick 64 = .ok (.invokestatic 20, 3) := by decide +kernel
theorem dX2_passTick_67 : decode cX2_passTick 67 = .ok (.putfield 9, 3) := by decide +kernel
theorem dX2_passTick_70 : decode cX2_passTick 70 = .ok (.return_, 1) := by decide +kernel
theorem dX2_isEnough_0 : decode cX2_isEnough 0 = .ok (.aload_n 0, 1) := by decide +kernel
theorem dX2_isEnough_1 : decode cX2_isEnough 1 = .ok (.getfield 13, 3) := by decide +kernel
theorem dX2_isEnough_4 : decode cX2_isEnough 4 = .ok (.sipush 150, 3) := by decide +kernel
theorem dX2_isEnough_7 : decode cX2_isEnough 7 = .ok (.if_icmp .lt 21, 3) := by decide +kernel
theorem dX2_isEnough_10 : decode cX2_isEnough 10 = .ok (.aload_n 0, 1) := by decide +kernel
theorem dX2_isEnough_11 : decode cX2_isEnough 11 = .ok (.getfield 9, 3) := by decide +kernel
theorem dX2_isEnough_14 : decode cX2_isEnough 14 = .ok (.aload_n 0, 1) := by decide +kernel
theorem dX2_isEnough_15 : decode cX2_isEnough 15 = .ok (.getfield 13, 3) := by decide +kernel
theorem dX2_isEnough_18 : decode cX2_isEnough 18 = .ok (.bipush 10, 2) := by decide +kernel
theorem dX2_isEnough_20 : decode cX2_isEnough 20 = .ok (.isub, 1) := by decide +kernel
theorem dX2_isEnough_21 : decode cX2_isEnough 21 = .ok (.if_icmp .lt 7, 3) := by decide +kernel
theorem dX2_isEnough_24 : decode cX2_isEnough 24 = .ok (.iconst 1, 1) := by decide +kernel
theorem dX2_isEnough_25 : decode cX2_isEnough 25 = .ok (.goto 4, 3) := by decide +kernel
theorem dX2_isEnough_28 : decode cX2_isEnough 28 = .ok (.iconst 0, 1) := by decide +kernel
theorem dX2_isEnough_29 : decode cX2_isEnough 29 = .ok (.ireturn, 1) := by decide +kernel
theorem dX2_currentTemperature_0 : decode cX2_currentTemperature 0 = .ok (.aload_n 0, 1) := by decide +kernel
theorem dX2_currentTemperature_1 : decode cX2_currentTemperature 1 = .ok (.getfield 9, 3) := by decide +kernel
theorem dX2_currentTemperature_4 : decode cX2_currentTemperature 4 = .ok (.ireturn, 1) := by decide +kernel
theorem dX3_init_0 : decode cX3_init 0 = .ok (.aload_n 0, 1) := by decide +kernel
theorem dX3_init_1 : decode cX3_init 1 = .ok (.invokespecial 3, 3) := by decide +kernel
theorem dX3_init_4 : decode cX3_init 4 = .ok (.aload_n 0, 1) := by decide +kernel
theorem dX3_init_5 : decode cX3_init 5 = .ok (.aload_n 1, 1) := by decide +kernel
theorem dX3_init_6 : decode cX3_init 6 = .ok (.putfield 9, 3) := by decide +kernel
theorem dX3_init_9 : decode cX3_init 9 = .ok (.aload_n 0, 1) := by decide +kernel
theorem dX3_init_10 : decode cX3_init 10 = .ok (.aload_n 2, 1) := by decide +kernel
theorem dX3_init_11 : decode cX3_init 11 = .ok (.putfield 15, 3) := by decide +kernel
theorem dX3_init_14 : decode cX3_init 14 = .ok (.aload_n 0, 1) := by decide +kernel
theorem dX3_init_15 : decode cX3_init 15 = .ok (.sipush 1728, 3) := by decide +kernel
theorem dX3_init_18 : decode cX3_init 18 = .ok (.newarray .char, 2) := by decide +kernel
theorem dX3_init_20 : decode cX3_init 20 = .ok (.putfield 19, 3) := by decide +kernel
theorem dX3_init_23 : decode cX3_init 23 = .ok (.aload_n 0, 1) := by decide +kernel
theorem dX3_init_24 : decode cX3_init 24 = .ok (.bipush 12, 2) := by decide +kernel
theorem dX3_init_26 : decode cX3_init 26 = .ok (.newarray .boolean, 2) := by decide +kernel
theorem dX3_init_28 : decode cX3_init 28 = .ok (.putfield 23, 3) := by decide +kernel
theorem dX3_init_31 : decode cX3_init 31 = .ok (.aload_n 0, 1) := by decide +kernel
theorem dX3_init_32 : decode cX3_init 32 = .ok (.sipush 144, 3) := by decide +kernel
theorem dX3_init_35 : decode cX3_init 35 = .ok (.newarray .int, 2) := by decide +kernel
theorem dX3_init_37 : decode cX3_init 37 = .ok (.putfield 27, 3) := by decide +kernel
theorem dX3_init_40 : decode cX3_init 40 = .ok (.return_, 1) := by decide +kernel
theorem dX3_forgetAll_0 : decode cX3_forgetAll 0 = .ok (.iconst 0, 1) := by decide +kernel
theorem dX3_forgetAll_1 : decode cX3_forgetAll 1 = .ok (.istore_n 1, 1) := by decide +kernel
theorem dX3_forgetAll_2 : decode cX3_forgetAll 2 = .ok (.iload_n 1, 1) := by decide +kernel
theorem dX3_forgetAll_3 : decode cX3_forgetAll 3 = .ok (.aload_n 0, 1) := by decide +kernel
theorem dX3_forgetAll_4 : decode cX3_forgetAll 4 = .ok (.getfield 23, 3) := by decide +kernel
theorem dX3_forgetAll_7 : decode cX3_forgetAll 7 = .ok (.arraylength, 1) := by decide +kernel
theorem dX3_forgetAll_8 : decode cX3_forgetAll 8 = .ok (.if_icmp .ge 16, 3) := by decide +kernel
theorem dX3_forgetAll_11 : decode cX3_forgetAll 11 = .ok (.aload_n 0, 1) := by decide +kernel
theorem dX3_forgetAll_12 : decode cX3_forgetAll 12 = .ok (.getfield 23, 3) := by decide +kernel
theorem dX3_forgetAll_15 : decode cX3_forgetAll 15 = .ok (.iload_n 1, 1) := by decide +kernel
theorem dX3_forgetAll_16 : decode cX3_forgetAll 16 = .ok (.iconst 0, 1) := by decide +kernel
theorem dX3_forgetAll_17 : decode cX3_forgetAll 17 = .ok (.bastore, 1) := by decide +kernel
theorem dX3_forgetAll_18 : decode cX3_forgetAll 18 = .ok (.iinc 1 1, 3) := by decide +kernel
theorem dX3_forgetAll_21 : decode cX3_forgetAll 21 = .ok (.goto (-19), 3) := by decide +kernel
theorem dX3_forgetAll_24 : decode cX3_forgetAll 24 = .ok (.return_, 1) := by decide +kernel
theorem dX3_kindOf_0 : decode cX3_kindOf 0 = .ok (.iload_n 1, 1) := by decide +kernel
theorem dX3_kindOf_1 : decode cX3_kindOf 1 = .ok (.iload_n 2, 1) := by decide +kernel
theorem dX3_kindOf_2 : decode cX3_kindOf 2 = .ok (.iload_n 3, 1) := by decide +kernel
theorem dX3_kindOf_3 : decode cX3_kindOf 3 = .ok (.invokestatic 31, 3) := by decide +kernel
theorem dX3_kindOf_6 : decode cX3_kindOf 6 = .ok (.ifCond .eq 17, 3) := by decide +kernel
theorem dX3_kindOf_9 : decode cX3_kindOf 9 = .ok (.aload_n 0, 1) := by decide +kernel
theorem dX3_kindOf_10 : decode cX3_kindOf 10 = .ok (.getfield 19, 3) := by decide +kernel
theorem dX3_kindOf_13 : decode cX3_kindOf 13 = .ok (.iload_n 1, 1) := by decide +kernel
theorem dX3_kindOf_14 : decode cX3_kindOf 14 = .ok (.iload_n 2, 1) := by decide +kernel
theorem dX3_kindOf_15 : decode cX3_kindOf 15 = .ok (.iload_n 3, 1) := by decide +kernel
theorem dX3_kindOf_16 : decode cX3_kindOf 16 = .ok (.invokestatic 35, 3) := by decide +kernel
theorem dX3_kindOf_19 : decode cX3_kindOf 19 = .ok (.caload, 1) := by decide +kernel
theorem dX3_kindOf_20 : decode cX3_kindOf 20 = .ok (.goto 5, 3) := by decide +kernel
theorem dX3_kindOf_23 : decode cX3_kindOf 23 = .ok (.bipush 46, 2) := by decide +kernel
theorem dX3_kindOf_25 : decode cX3_kindOf 25 = .ok (.ireturn, 1) := by decide +kernel
theorem dX3_findAll_0 : decode cX3_findAll 0 = .ok (.iconst 0, 1) := by decide +kernel
theorem dX3_findAll_1 : decode cX3_findAll 1 = .ok (.istore_n 1, 1) := by decide +kernel
theorem dX3_findAll_2 : decode cX3_findAll 2 = .ok (.iload_n 1, 1) := by decide +kernel
theorem dX3_findAll_3 : decode cX3_findAll 3 = .ok (.bipush 12, 2) := by decide +kernel
theorem dX3_findAll_5 : decode cX3_findAll 5 = .ok (.if_icmp .ge 14, 3) := by decide +kernel
theorem dX3_findAll_8 : decode cX3_findAll 8 = .ok (.aload_n 0, 1) := by decide +kernel
theorem dX3_findAll_9 : decode cX3_findAll 9 = .ok (.iload_n 1, 1) := by decide +kernel
theorem dX3_findAll_10 : decode cX3_findAll 10 = .ok (.invokevirtual 39, 3) := by decide +kernel
theorem dX3_findAll_13 : decode cX3_findAll 13 = .ok (.iinc 1 1, 3) := by decide +kernel
theorem dX3_findAll_16 : decode cX3_findAll 16 = .ok (.goto (-14), 3) := by decide +kernel
theorem dX3_findAll_19 : decode cX3_findAll 19 = .ok (.return_, 1) := by decide +kernel
theorem dX3_findLayer_0 : decode cX3_findLayer 0 = .ok (.iload_n 1, 1) := by decide +kernel
theorem dX3_findLayer_1 : decode cX3_findLayer 1 = .ok (.invokestatic 43, 3) := by decide +kernel
theorem dX3_findLayer_4 : decode cX3_findLayer 4 = .ok (.ifCond .eq 12, 3) := by decide +kernel
theorem dX3_findLayer_7 : decode cX3_findLayer 7 = .ok (.aload_n 0, 1) := by decide +kernel
theorem dX3_findLayer_8 : decode cX3_findLayer 8 = .ok (.getfield 23, 3) := by decide +kernel
theorem dX3_findLayer_11 : decode cX3_findLayer 11 = .ok (.iload_n 1, 1) := by decide +kernel
theorem dX3_findLayer_12 : decode cX3_findLayer 12 = .ok (.baload, 1) := by decide +kernel
theorem dX3_findLayer_13 : decode cX3_findLayer 13 = .ok (.ifCond .eq 4, 3) := by decide +kernel
theorem dX3_findLayer_16 : decode cX3_findLayer 16 = .ok (.return_, 1) := by decide +kernel
theorem dX3_findLayer_17 : decode cX3_findLayer 17 = .ok (.aload_n 0, 1) := by decide +kernel
theorem dX3_findLayer_18 : decode cX3_findLayer 18 = .ok (.iload_n 1, 1) := by decide +kernel
theorem dX3_findLayer_19 : decode cX3_findLayer 19 = .ok (.invokevirtual 47, 3) := by decide +kernel
theorem dX3_findLayer_22 : decode cX3_findLayer 22 = .ok (.iconst 0, 1) := by decide +kernel
theorem dX3_findLayer_23 : decode cX3_findLayer 23 = .ok (.istore_n 2, 1) := by decide +kernel
theorem dX3_findLayer_24 : decode cX3_findLayer 24 = .ok (.iload_n 2, 1) := by decide +kernel
theorem dX3_findLayer_25 : decode cX3_findLayer 25 = .ok (.bipush 12, 2) := by decide +kernel
theorem dX3_findLayer_27 : decode cX3_findLayer 27 = .ok (.if_icmp .ge 59, 3) := by decide +kernel
theorem dX3_findLayer_30 : decode cX3_findLayer 30 = .ok (.iconst 0, 1) := by decide +kernel
theorem dX3_findLayer_31 : decode cX3_findLayer 31 = .ok (.istore_n 3, 1) := by decide +kernel
theorem dX3_findLayer_32 : decode cX3_findLayer 32 = .ok (.iload_n 3, 1) := by decide +kernel
theorem dX3_findLayer_33 : decode cX3_findLayer 33 = .ok (.bipush 12, 2) := by decide +kernel
theorem dX3_findLayer_35 : decode cX3_findLayer 35 = .ok (.if_icmp .ge 45, 3) := by decide +kernel
theorem dX3_findLayer_38 : decode cX3_findLayer 38 = .ok (.aload_n 0, 1) := by decide +kernel
theorem dX3_findLayer_39 : decode cX3_findLayer 39 = .ok (.getfield 19, 3) := by decide +kernel
theorem dX3_findLayer_42 : decode cX3_findLayer 42 = .ok (.iload_n 3, 1) := by decide +kernel
theorem dX3_findLayer_43 : decode cX3_findLayer 43 = .ok (.iload_n 2, 1) := by decide +kernel
theorem dX3_findLayer_44 : decode cX3_findLayer 44 = .ok (.iload_n 1, 1) := by decide +kernel
theorem dX3_findLayer_45 : decode cX3_findLayer 45 = .ok (.invokestatic 35, 3) := by decide +kernel
theorem dX3_findLayer_48 : decode cX3_findLayer 48 = .ok (.aload_n 0, 1) := by decide +kernel
theorem dX3_findLayer_49 : decode cX3_findLayer 49 = .ok (.getfield 9, 3) := by decide +kernel
theorem dX3_findLayer_52 : decode cX3_findLayer 52 = .ok (.iload_n 3, 1) := by decide +kernel
theorem dX3_findLayer_53 : decode cX3_findLayer 53 = .ok (.iload_n 2, 1) := by decide +kernel
theorem dX3_findLayer_54 : decode cX3_findLayer 54 = .ok (.iload_n 1, 1) := by decide +kernel
theorem dX3_findLayer_55 : decode cX3_findLayer 55 = .ok (.invokevirtual 50, 3) := by decide +kernel
theorem dX3_findLayer_58 : decode cX3_findLayer 58 = .ok (.ifCond .eq 13, 3) := by decide +kernel
theorem dX3_findLayer_61 : decode cX3_findLayer 61 = .ok (.aload_n 0, 1) := by decide +kernel
theorem dX3_findLayer_62 : decode cX3_findLayer 62 = .ok (.iload_n 3, 1) := by decide +kernel
theorem dX3_findLayer_63 : decode cX3_findLayer 63 = .ok (.iload_n 2, 1) := by decide +kernel
theorem dX3_findLayer_64 : decode cX3_findLayer 64 = .ok (.iload_n 1, 1) := by decide +kernel
theorem dX3_findLayer_65 : decode cX3_findLayer 65 = .ok (.invokevirtual 55, 3) := by decide +kernel
theorem dX3_findLayer_68 : decode cX3_findLayer 68 = .ok (.goto 5, 3) := by decide +kernel
theorem dX3_findLayer_71 : decode cX3_findLayer 71 = .ok (.bipush 46, 2) := by decide +kernel
theorem dX3_findLayer_73 : decode cX3_findLayer 73 = .ok (.castore, 1) := by decide +kernel
theorem dX3_findLayer_74 : decode cX3_findLayer 74 = .ok (.iinc 3 1, 3) := by decide +kernel
theorem dX3_findLayer_77 : decode cX3_findLayer 77 = .ok (.goto (-45), 3) := by decide +kernel
theorem dX3_findLayer_80 : decode cX3_findLayer 80 = .ok (.iinc 2 1, 3) := by decide +kernel
theorem dX3_findLayer_83 : decode cX3_findLayer 83 = .ok (.goto (-59), 3) := by decide +kernel
theorem dX3_findLayer_86 : decode cX3_findLayer 86 = .ok (.aload_n 0, 1) := by decide +kernel
theorem dX3_findLayer_87 : decode cX3_findLayer 87 = .ok (.getfield 15, 3) := by decide +kernel
theorem dX3_findLayer_90 : decode cX3_findLayer 90 = .ok (.invokevirtual 59, 3) := by decide +kernel
theorem dX3_findLayer_93 : decode cX3_findLayer 93 = .ok (.ifCond .eq 8, 3) := by decide +kernel
theorem dX3_findLayer_96 : decode cX3_findLayer 96 = .ok (.aload_n 0, 1) := by decide +kernel
theorem dX3_findLayer_97 : decode cX3_findLayer 97 = .ok (.iload_n 1, 1) := by decide +kernel
theorem dX3_findLayer_98 : decode cX3_findLayer 98 = .ok (.invokevirtual 65, 3) := by decide +kernel
theorem dX3_findLayer_101 : decode cX3_findLayer 101 = .ok (.aload_n 0, 1) := by decide +kernel
theorem dX3_findLayer_102 : decode cX3_findLayer 102 = .ok (.getfield 23, 3) := by decide +kernel
theorem dX3_findLayer_105 : decode cX3_findLayer 105 = .ok (.iload_n 1, 1) := by decide +kernel
theorem dX3_findLayer_106 : decode cX3_findLayer 106 = .ok (.iconst 1, 1) := by decide +kernel
theorem dX3_findLayer_107 : decode cX3_findLayer 107 = .ok (.bastore, 1) := by decide +kernel
theorem dX3_findLayer_108 : decode cX3_findLayer 108 = .ok (.return_, 1) := by decide +kernel
theorem dX3_findWalls_0 : decode cX3_findWalls 0 = .ok (.aload_n 0, 1) := by decide +kernel
theorem dX3_findWalls_1 : decode cX3_findWalls 1 = .ok (.getfield 27, 3) := by decide +kernel
theorem dX3_findWalls_4 : decode cX3_findWalls 4 = .ok (.iconst 0, 1) := by decide +kernel
theorem dX3_findWalls_5 : decode cX3_findWalls 5 = .ok (.invokestatic 68, 3) := by decide +kernel
theorem dX3_findWalls_8 : decode cX3_findWalls 8 = .ok (.iconst 1, 1) := by decide +kernel
theorem dX3_findWalls_9 : decode cX3_findWalls 9 = .ok (.istore_n 2, 1) := by decide +kernel
theorem dX3_findWalls_10 : decode cX3_findWalls 10 = .ok (.iload_n 2, 1) := by decide +kernel
theorem dX3_findWalls_11 : decode cX3_findWalls 11 = .ok (.aload_n 0, 1) := by decide +kernel
theorem dX3_findWalls_12 : decode cX3_findWalls 12 = .ok (.getfield 15, 3) := by decide +kernel
theorem dX3_findWalls_15 : decode cX3_findWalls 15 = .ok (.invokevirtual 74, 3) := by decide +kernel
theorem dX3_findWalls_18 : decode cX3_findWalls 18 = .ok (.if_icmp .gt 90, 3) := by decide +kernel
theorem dX3_findWalls_21 : decode cX3_findWalls 21 = .ok (.iconst 0, 1) := by decide +kernel
theorem dX3_findWalls_22 : decode cX3_findWalls 22 = .ok (.istore_n 3, 1) := by decide +kernel
theorem dX3_findWalls_23 : decode cX3_findWalls 23 = .ok (.iload_n 3, 1) := by decide +kernel
theorem dX3_findWalls_24 : decode cX3_findWalls 24 = .ok (.bipush 12, 2) := by decide +kernel
theorem dX3_findWalls_26 : decode cX3_findWalls 26 = .ok (.if_icmp .ge 76, 3) := by decide +kernel
theorem dX3_findWalls_29 : decode cX3_findWalls 29 = .ok (.iconst 0, 1) := by decide +kernel
theorem dX3_findWalls_30 : decode cX3_findWalls 30 = .ok (.istore 4, 2) := by decide +kernel
theorem dX3_findWalls_32 : decode cX3_findWalls 32 = .ok (.iload 4, 2) := by decide +kernel
theorem dX3_findWalls_34 : decode cX3_findWalls 34 = .ok (.bipush 12, 2) := by decide +kernel
theorem dX3_findWalls_36 : decode cX3_findWalls 36 = .ok (.if_icmp .ge 60, 3) := by decide +kernel
theorem dX3_findWalls_39 : decode cX3_findWalls 39 = .ok (.aload_n 0, 1) := by decide +kernel
theorem dX3_findWalls_40 : decode cX3_findWalls 40 = .ok (.getfield 9, 3) := by decide +kernel
theorem dX3_findWalls_43 : decode cX3_findWalls 43 = .ok (.iload 4, 2) := by decide +kernel
theorem dX3_findWalls_45 : decode cX3_findWalls 45 = .ok (.iload_n 3, 1) := by decide +kernel
theorem dX3_findWalls_46 : decode cX3_findWalls 46 = .ok (.iload_n 1, 1) := by decide +kernel
theorem dX3_findWalls_47 : decode cX3_findWalls 47 = .ok (.invokevirtual 50, 3) := by decide +kernel
theorem dX3_findWalls_50 : decode cX3_findWalls 50 = .ok (.ifCond .eq 40, 3) := by decide +kernel
theorem dX3_findWalls_53 : decode cX3_findWalls 53 = .ok (.aload_n 0, 1) := by decide +kernel
theorem dX3_findWalls_54 : decode cX3_findWalls 54 = .ok (.iload 4, 2) := by decide +kernel
theorem dX3_findWalls_56 : decode cX3_findWalls 56 = .ok (.iload_n 3, 1) := by decide +kernel
theorem dX3_findWalls_57 : decode cX3_findWalls 57 = .ok (.invokevirtual 78, 3) := by decide +kernel
theorem dX3_findWalls_60 : decode cX3_findWalls 60 = .ok (.ifCond .ne 30, 3) := by decide +kernel
theorem dX3_findWalls_63 : decode cX3_findWalls 63 = .ok (.aload_n 0, 1) := by decide +kernel
theorem dX3_findWalls_64 : decode cX3_findWalls 64 = .ok (.iload 4, 2) := by decide +kernel
theorem dX3_findWalls_66 : decode cX3_findWalls 66 = .ok (.iload_n 3, 1) := by decide +kernel
theorem dX3_findWalls_67 : decode cX3_findWalls 67 = .ok (.iload_n 1, 1) := by decide +kernel
theorem dX3_findWalls_68 : decode cX3_findWalls 68 = .ok (.iload_n 2, 1) := by decide +kernel
theorem dX3_findWalls_69 : decode cX3_findWalls 69 = .ok (.iconst 1, 1) := by decide +kernel
theorem dX3_findWalls_70 : decode cX3_findWalls 70 = .ok (.isub, 1) := by decide +kernel
theorem dX3_findWalls_71 : decode cX3_findWalls 71 = .ok (.invokevirtual 82, 3) := by decide +kernel
theorem dX3_findWalls_74 : decode cX3_findWalls 74 = .ok (.ifCond .eq 16, 3) := by decide +kernel
theorem dX3_findWalls_77 : decode cX3_findWalls 77 = .ok (.aload_n 0, 1) := by decide +kernel
theorem dX3_findWalls_78 : decode cX3_findWalls 78 = .ok (.getfield 27, 3) := by decide +kernel
theorem dX3_findWalls_81 : decode cX3_findWalls 81 = .ok (.iload 4, 2) := by decide +kernel
theorem dX3_findWalls_83 : decode cX3_findWalls 83 = .ok (.iload_n 3, 1) := by decide +kernel
theorem dX3_findWalls_84 : decode cX3_findWalls 84 = .ok (.iconst 0, 1) := by decide +kernel
theorem dX3_findWalls_85 : decode cX3_findWalls 85 = .ok (.invokestatic 35, 3) := by decide +kernel
theorem dX3_findWalls_88 : decode cX3_findWalls 88 = .ok (.iload_n 2, 1) := by decide +kernel
theorem dX3_findWalls_89 : decode cX3_findWalls 89 = .ok (.iastore, 1) := by decide +kernel
theorem dX3_findWalls_90 : decode cX3_findWalls 90 = .ok (.iinc 4 1, 3) := by decide +kernel
theorem dX3_findWalls_93 : decode cX3_findWalls 93 = .ok (.goto (-61), 3) := by decide +kernel
theorem dX3_findWalls_96 : decode cX3_findWalls 96 = .ok (.iinc 3 1, 3) := by decide +kernel
theorem dX3_findWalls_99 : decode cX3_findWalls 99 = .ok (.goto (-76), 3) := by decide +kernel
theorem dX3_findWalls_102 : decode cX3_findWalls 102 = .ok (.iinc 2 1, 3) := by decide +kernel
theorem dX3_findWalls_105 : decode cX3_findWalls 105 = .ok (.goto (-95), 3) := by decide +kernel
theorem dX3_findWalls_108 : decode cX3_findWalls 108 = .ok (.return_, 1) := by decide +kernel
theorem dX3_touches_0 : decode cX3_touches 0 = .ok (.iconst 0, 1) := by decide +kernel
theorem dX3_touches_1 : decode cX3_touches 1 = .ok (.istore 5, 2) := by decide +kernel
theorem dX3_touches_3 : decode cX3_touches 3 = .ok (.iload 5, 2) := by decide +kernel
theorem dX3_touches_5 : decode cX3_touches 5 = .ok (.iconst 4, 1) := by decide +kernel
theorem dX3_touches_6 : decode cX3_touches 6 = .ok (.if_icmp .ge 67, 3) := by decide +kernel
theorem dX3_touches_9 : decode cX3_touches 9 = .ok (.iload_n 1, 1) := by decide +kernel
theorem dX3_touches_10 : decode cX3_touches 10 = .ok (.getstatic 86, 3) := by decide +kernel
theorem dX3_touches_13 : decode cX3_touches 13 = .ok (.iload 5, 2) := by decide +kernel
theorem dX3_touches_15 : decode cX3_touches 15 = .ok (.iaload, 1) := by decide +kernel
theorem dX3_touches_16 : decode cX3_touches 16 = .ok (.iadd, 1) := by decide +kernel
theorem dX3_touches_17 : decode cX3_touches 17 = .ok (.istore 6, 2) := by decide +kernel
theorem dX3_touches_19 : decode cX3_touches 19 = .ok (.iload_n 2, 1) := by decide +kernel
theorem dX3_touches_20 : decode cX3_touches 20 = .ok (.getstatic 89, 3) := by decide +kernel
theorem dX3_touches_23 : decode cX3_touches 23 = .ok (.iload 5, 2) := by decide +kernel
theorem dX3_touches_25 : decode cX3_touches 25 = .ok (.iaload, 1) := by decide +kernel
theorem dX3_touches_26 : decode cX3_touches 26 = .ok (.iadd, 1) := by decide +kernel
theorem dX3_touches_27 : decode cX3_touches 27 = .ok (.istore 7, 2) := by decide +kernel
theorem dX3_touches_29 : decode cX3_touches 29 = .ok (.iload 4, 2) := by decide +kernel
theorem dX3_touches_31 : decode cX3_touches 31 = .ok (.ifCond .ne 21, 3) := by decide +kernel
theorem dX3_touches_34 : decode cX3_touches 34 = .ok (.aload_n 0, 1) := by decide +kernel
theorem dX3_touches_35 : decode cX3_touches 35 = .ok (.getfield 9, 3) := by decide +kernel
theorem dX3_touches_38 : decode cX3_touches 38 = .ok (.iload 6, 2) := by decide +kernel
theorem dX3_touches_40 : decode cX3_touches 40 = .ok (.iload 7, 2) := by decide +kernel
theorem dX3_touches_42 : decode cX3_touches 42 = .ok (.iload_n 3, 1) := by decide +kernel
theorem dX3_touches_43 : decode cX3_touches 43 = .ok (.invokevirtual 50, 3) := by decide +kernel
theorem dX3_touches_46 : decode cX3_touches 46 = .ok (.ifCond .ne 21, 3) := by decide +kernel
theorem dX3_touches_49 : decode cX3_touches 49 = .ok (.goto 16, 3) := by decide +kernel
theorem dX3_touches_52 : decode cX3_touches 52 = .ok (.aload_n 0, 1) := by decide +kernel
theorem dX3_touches_53 : decode cX3_touches 53 = .ok (.iload 6, 2) := by decide +kernel
theorem dX3_touches_55 : decode cX3_touches 55 = .ok (.iload 7, 2) := by decide +kernel
theorem dX3_touches_57 : decode cX3_touches 57 = .ok (.invokevirtual 78, 3) := by decide +kernel
theorem dX3_touches_60 : decode cX3_touches 60 = .ok (.iload 4, 2) := by decide +kernel
theorem dX3_touches_62 : decode cX3_touches 62 = .ok (.if_icmp .ne 5, 3) := by decide +kernel
theorem dX3_touches_65 : decode cX3_touches 65 = .ok (.iconst 1, 1) := by decide +kernel
theorem dX3_touches_66 : decode cX3_touches 66 = .ok (.ireturn, 1) := by decide +kernel
theorem dX3_touches_67 : decode cX3_touches 67 = .ok (.iinc 5 1, 3) := by decide +kernel
theorem dX3_touches_70 : decode cX3_touches 70 = .ok (.goto (-67), 3) := by decide +kernel
theorem dX3_touches_73 : decode cX3_touches 73 = .ok (.iconst 0, 1) := by decide +kernel
theorem dX3_touches_74 : decode cX3_touches 74 = .ok (.ireturn, 1) := by decide +kernel
theorem dX3_wallAt_0 : decode cX3_wallAt 0 = .ok (.iload_n 1, 1) := by decide +kernel
theorem dX3_wallAt_1 : decode cX3_wallAt 1 = .ok (.iload_n 2, 1) := by decide +kernel
theorem dX3_wallAt_2 : decode cX3_wallAt 2 = .ok (.iconst 0, 1) := by decide +kernel
theorem dX3_wallAt_3 : decode cX3_wallAt 3 = .ok (.invokestatic 31, 3) := by decide +kernel
theorem dX3_wallAt_6 : decode cX3_wallAt 6 = .ok (.ifCond .eq 17, 3) := by decide +kernel
theorem dX3_wallAt_9 : decode cX3_wallAt 9 = .ok (.aload_n 0, 1) := by decide +kernel
theorem dX3_wallAt_10 : decode cX3_wallAt 10 = .ok (.getfield 27, 3) := by decide +kernel
theorem dX3_wallAt_13 : decode cX3_wallAt 13 = .ok (.iload_n 1, 1) := by decide +kernel
theorem dX3_wallAt_14 : decode cX3_wallAt 14 = .ok (.iload_n 2, 1) := by decide +kernel
theorem dX3_wallAt_15 : decode cX3_wallAt 15 = .ok (.iconst 0, 1) := by decide +kernel
theorem dX3_wallAt_16 : decode cX3_wallAt 16 = .ok (.invokestatic 35, 3) := by decide +kernel
theorem dX3_wallAt_19 : decode cX3_wallAt 19 = .ok (.iaload, 1) := by decide +kernel
theorem dX3_wallAt_20 : decode cX3_wallAt 20 = .ok (.goto 4, 3) := by decide +kernel
theorem dX3_wallAt_23 : decode cX3_wallAt 23 = .ok (.iconst 0, 1) := by decide +kernel
theorem dX3_wallAt_24 : decode cX3_wallAt 24 = .ok (.ireturn, 1) := by decide +kernel
theorem dX3_solidKind_0 : decode cX3_solidKind 0 = .ok (.aload_n 0, 1) := by decide +kernel
theorem dX3_solidKind_1 : decode cX3_solidKind 1 = .ok (.iload_n 1, 1) := by decide +kernel
theorem dX3_solidKind_2 : decode cX3_solidKind 2 = .ok (.iload_n 2, 1) := by decide +kernel
theorem dX3_solidKind_3 : decode cX3_solidKind 3 = .ok (.invokevirtual 78, 3) := by decide +kernel
theorem dX3_solidKind_6 : decode cX3_solidKind 6 = .ok (.ifCond .le 6, 3) := by decide +kernel
theorem dX3_solidKind_9 : decode cX3_solidKind 9 = .ok (.bipush 119, 2) := by decide +kernel
theorem dX3_solidKind_11 : decode cX3_solidKind 11 = .ok (.ireturn, 1) := by decide +kernel
theorem dX3_solidKind_12 : decode cX3_solidKind 12 = .ok (.aload_n 0, 1) := by decide +kernel
theorem dX3_solidKind_13 : decode cX3_solidKind 13 = .ok (.getfield 9, 3) := by decide +kernel
theorem dX3_solidKind_16 : decode cX3_solidKind 16 = .ok (.iload_n 1, 1) := by decide +kernel
theorem dX3_solidKind_17 : decode cX3_solidKind 17 = .ok (.iload_n 2, 1) := by decide +kernel
theorem dX3_solidKind_18 : decode cX3_solidKind 18 = .ok (.iload_n 3, 1) := by decide +kernel
theorem dX3_solidKind_19 : decode cX3_solidKind 19 = .ok (.iconst (-1), 1) := by decide +kernel
theorem dX3_solidKind_20 : decode cX3_solidKind 20 = .ok (.aload_n 0, 1) := by decide +kernel
theorem dX3_solidKind_21 : decode cX3_solidKind 21 = .ok (.getfield 15, 3) := by decide +kernel
theorem dX3_solidKind_24 : decode cX3_solidKind 24 = .ok (.invokevirtual 92, 3) := by decide +kernel
theorem dX3_solidKind_27 : decode cX3_solidKind 27 = .ok (.invokevirtual 95, 3) := by decide +kernel
theorem dX3_solidKind_30 : decode cX3_solidKind 30 = .ok (.ifCond .eq 6, 3) := by decide +kernel
theorem dX3_solidKind_33 : decode cX3_solidKind 33 = .ok (.bipush 98, 2) := by decide +kernel
theorem dX3_solidKind_35 : decode cX3_solidKind 35 = .ok (.ireturn, 1) := by decide +kernel
theorem dX3_solidKind_36 : decode cX3_solidKind 36 = .ok (.aload_n 0, 1) := by decide +kernel
theorem dX3_solidKind_37 : decode cX3_solidKind 37 = .ok (.getfield 9, 3) := by decide +kernel
theorem dX3_solidKind_40 : decode cX3_solidKind 40 = .ok (.iload_n 1, 1) := by decide +kernel
theorem dX3_solidKind_41 : decode cX3_solidKind 41 = .ok (.iload_n 2, 1) := by decide +kernel
theorem dX3_solidKind_42 : decode cX3_solidKind 42 = .ok (.iload_n 3, 1) := by decide +kernel
theorem dX3_solidKind_43 : decode cX3_solidKind 43 = .ok (.iconst 1, 1) := by decide +kernel
theorem dX3_solidKind_44 : decode cX3_solidKind 44 = .ok (.aload_n 0, 1) := by decide +kernel
theorem dX3_solidKind_45 : decode cX3_solidKind 45 = .ok (.getfield 15, 3) := by decide +kernel
theorem dX3_solidKind_48 : decode cX3_solidKind 48 = .ok (.invokevirtual 92, 3) := by decide +kernel
theorem dX3_solidKind_51 : decode cX3_solidKind 51 = .ok (.invokevirtual 95, 3) := by decide +kernel
theorem dX3_solidKind_54 : decode cX3_solidKind 54 = .ok (.ifCond .eq 6, 3) := by decide +kernel
theorem dX3_solidKind_57 : decode cX3_solidKind 57 = .ok (.bipush 116, 2) := by decide +kernel
theorem dX3_solidKind_59 : decode cX3_solidKind 59 = .ok (.ireturn, 1) := by decide +kernel
theorem dX3_solidKind_60 : decode cX3_solidKind 60 = .ok (.aload_n 0, 1) := by decide +kernel
theorem dX3_solidKind_61 : decode cX3_solidKind 61 = .ok (.getfield 15, 3) := by decide +kernel
theorem dX3_solidKind_64 : decode cX3_solidKind 64 = .ok (.iload_n 1, 1) := by decide +kernel
theorem dX3_solidKind_65 : decode cX3_solidKind 65 = .ok (.iload_n 2, 1) := by decide +kernel
theorem dX3_solidKind_66 : decode cX3_solidKind 66 = .ok (.iload_n 3, 1) := by decide +kernel
theorem dX3_solidKind_67 : decode cX3_solidKind 67 = .ok (.invokevirtual 99, 3) := by decide +kernel
theorem dX3_solidKind_70 : decode cX3_solidKind 70 = .ok (.ifCond .eq 8, 3) := by decide +kernel
theorem dX3_solidKind_73 : decode cX3_solidKind 73 = .ok (.bipush 105, 2) := by decide +kernel
theorem dX3_solidKind_75 : decode cX3_solidKind 75 = .ok (.goto 5, 3) := by decide +kernel
theorem dX3_solidKind_78 : decode cX3_solidKind 78 = .ok (.bipush 101, 2) := by decide +kernel
theorem dX3_solidKind_80 : decode cX3_solidKind 80 = .ok (.ireturn, 1) := by decide +kernel
theorem dX3_findSupports_0 : decode cX3_findSupports 0 = .ok (.iconst 0, 1) := by decide +kernel
theorem dX3_findSupports_1 : decode cX3_findSupports 1 = .ok (.istore_n 2, 1) := by decide +kernel
theorem dX3_findSupports_2 : decode cX3_findSupports 2 = .ok (.iload_n 2, 1) := by decide +kernel
theorem dX3_findSupports_3 : decode cX3_findSupports 3 = .ok (.bipush 12, 2) := by decide +kernel
theorem dX3_findSupports_5 : decode cX3_findSupports 5 = .ok (.if_icmp .ge 59, 3) := by decide +kernel
theorem dX3_findSupports_8 : decode cX3_findSupports 8 = .ok (.iconst 0, 1) := by decide +kernel
theorem dX3_findSupports_9 : decode cX3_findSupports 9 = .ok (.istore_n 3, 1) := by decide +kernel
theorem dX3_findSupports_10 : decode cX3_findSupports 10 = .ok (.iload_n 3, 1) := by decide +kernel
theorem dX3_findSupports_11 : decode cX3_findSupports 11 = .ok (.bipush 12, 2) := by decide +kernel
theorem dX3_findSupports_13 : decode cX3_findSupports 13 = .ok (.if_icmp .ge 45, 3) := by decide +kernel
theorem dX3_findSupports_16 : decode cX3_findSupports 16 = .ok (.aload_n 0, 1) := by decide +kernel
theorem dX3_findSupports_17 : decode cX3_findSupports 17 = .ok (.getfield 9, 3) := by decide +kernel
theorem dX3_findSupports_20 : decode cX3_findSupports 20 = .ok (.iload_n 3, 1) := by decide +kernel
theorem dX3_findSupports_21 : decode cX3_findSupports 21 = .ok (.iload_n 2, 1) := by decide +kernel
theorem dX3_findSupports_22 : decode cX3_findSupports 22 = .ok (.iload_n 1, 1) := by decide +kernel
theorem dX3_findSupports_23 : decode cX3_findSupports 23 = .ok (.invokevirtual 50, 3) := by decide +kernel
theorem dX3_findSupports_26 : decode cX3_findSupports 26 = .ok (.ifCond .ne 26, 3) := by decide +kernel
theorem dX3_findSupports_29 : decode cX3_findSupports 29 = .ok (.aload_n 0, 1) := by decide +kernel
theorem dX3_findSupports_30 : decode cX3_findSupports 30 = .ok (.iload_n 3, 1) := by decide +kernel
theorem dX3_findSupports_31 : decode cX3_findSupports 31 = .ok (.iload_n 2, 1) := by decide +kernel
theorem dX3_findSupports_32 : decode cX3_findSupports 32 = .ok (.iload_n 1, 1) := by decide +kernel
theorem dX3_findSupports_33 : decode cX3_findSupports 33 = .ok (.invokevirtual 102, 3) := by decide +kernel
theorem dX3_findSupports_36 : decode cX3_findSupports 36 = .ok (.ifCond .eq 16, 3) := by decide +kernel
theorem dX3_findSupports_39 : decode cX3_findSupports 39 = .ok (.aload_n 0, 1) := by decide +kernel
theorem dX3_findSupports_40 : decode cX3_findSupports 40 = .ok (.getfield 19, 3) := by decide +kernel
theorem dX3_findSupports_43 : decode cX3_findSupports 43 = .ok (.iload_n 3, 1) := by decide +kernel
theorem dX3_findSupports_44 : decode cX3_findSupports 44 = .ok (.iload_n 2, 1) := by decide +kernel
theorem dX3_findSupports_45 : decode cX3_findSupports 45 = .ok (.iload_n 1, 1) := by decide +kernel
theorem dX3_findSupports_46 : decode cX3_findSupports 46 = .ok (.invokestatic 35, 3) := by decide +kernel
theorem dX3_findSupports_49 : decode cX3_findSupports 49 = .ok (.bipush 115, 2) := by decide +kernel
theorem dX3_findSupports_51 : decode cX3_findSupports 51 = .ok (.castore, 1) := by decide +kernel
theorem dX3_findSupports_52 : decode cX3_findSupports 52 = .ok (.iinc 3 1, 3) := by decide +kernel
theorem dX3_findSupports_55 : decode cX3_findSupports 55 = .ok (.goto (-45), 3) := by decide +kernel
theorem dX3_findSupports_58 : decode cX3_findSupports 58 = .ok (.iinc 2 1, 3) := by decide +kernel
theorem dX3_findSupports_61 : decode cX3_findSupports 61 = .ok (.goto (-59), 3) := by decide +kernel
theorem dX3_findSupports_64 : decode cX3_findSupports 64 = .ok (.return_, 1) := by decide +kernel
theorem dX3_isSupport_0 : decode cX3_isSupport 0 = .ok (.aload_n 0, 1) := by decide +kernel
theorem dX3_isSupport_1 : decode cX3_isSupport 1 = .ok (.getfield 9, 3) := by decide +kernel
theorem dX3_isSupport_4 : decode cX3_isSupport 4 = .ok (.iload_n 1, 1) := by decide +kernel
theorem dX3_isSupport_5 : decode cX3_isSupport 5 = .ok (.iload_n 2, 1) := by decide +kernel
theorem dX3_isSupport_6 : decode cX3_isSupport 6 = .ok (.iload_n 3, 1) := by decide +kernel
theorem dX3_isSupport_7 : decode cX3_isSupport 7 = .ok (.invokevirtual 105, 3) := by decide +kernel
theorem dX3_isSupport_10 : decode cX3_isSupport 10 = .ok (.istore 4, 2) := by decide +kernel
theorem dX3_isSupport_12 : decode cX3_isSupport 12 = .ok (.iload 4, 2) := by decide +kernel
theorem dX3_isSupport_14 : decode cX3_isSupport 14 = .ok (.iload_n 3, 1) := by decide +kernel
theorem dX3_isSupport_15 : decode cX3_isSupport 15 = .ok (.isub, 1) := by decide +kernel
theorem dX3_isSupport_16 : decode cX3_isSupport 16 = .ok (.aload_n 0, 1) := by decide +kernel
theorem dX3_isSupport_17 : decode cX3_isSupport 17 = .ok (.getfield 15, 3) := by decide +kernel
theorem dX3_isSupport_20 : decode cX3_isSupport 20 = .ok (.invokevirtual 108, 3) := by decide +kernel
theorem dX3_isSupport_23 : decode cX3_isSupport 23 = .ok (.if_icmp .le 21, 3) := by decide +kernel
theorem dX3_isSupport_26 : decode cX3_isSupport 26 = .ok (.aload_n 0, 1) := by decide +kernel
theorem dX3_isSupport_27 : decode cX3_isSupport 27 = .ok (.getfield 9, 3) := by decide +kernel
theorem dX3_isSupport_30 : decode cX3_isSupport 30 = .ok (.iload_n 1, 1) := by decide +kernel
theorem dX3_isSupport_31 : decode cX3_isSupport 31 = .ok (.iload_n 2, 1) := by decide +kernel
theorem dX3_isSupport_32 : decode cX3_isSupport 32 = .ok (.iload 4, 2) := by decide +kernel
theorem dX3_isSupport_34 : decode cX3_isSupport 34 = .ok (.invokevirtual 111, 3) := by decide +kernel
theorem dX3_isSupport_37 : decode cX3_isSupport 37 = .ok (.ifCond .eq 7, 3) := by decide +kernel
theorem dX3_isSupport_40 : decode cX3_isSupport 40 = .ok (.iconst 1, 1) := by decide +kernel
theorem dX3_isSupport_41 : decode cX3_isSupport 41 = .ok (.goto 4, 3) := by decide +kernel
theorem dX3_isSupport_44 : decode cX3_isSupport 44 = .ok (.iconst 0, 1) := by decide +kernel
theorem dX3_isSupport_45 : decode cX3_isSupport 45 = .ok (.ireturn, 1) := by decide +kernel
theorem dX4_init_0 : decode cX4_init 0 = .ok (.aload_n 0, 1) := by decide +kernel
theorem dX4_init_1 : decode cX4_init 1 = .ok (.invokespecial 3, 3) := by decide +kernel
theorem dX4_init_4 : decode cX4_init 4 = .ok (.aload_n 0, 1) := by decide +kernel
theorem dX4_init_5 : decode cX4_init 5 = .ok (.aload_n 1, 1) := by decide +kernel
theorem dX4_init_6 : decode cX4_init 6 = .ok (.putfield 9, 3) := by decide +kernel
theorem dX4_init_9 : decode cX4_init 9 = .ok (.aload_n 0, 1) := by decide +kernel
theorem dX4_init_10 : decode cX4_init 10 = .ok (.aload_n 2, 1) := by decide +kernel
theorem dX4_init_11 : decode cX4_init 11 = .ok (.putfield 15, 3) := by decide +kernel
theorem dX4_init_14 : decode cX4_init 14 = .ok (.aload_n 0, 1) := by decide +kernel
theorem dX4_init_15 : decode cX4_init 15 = .ok (.bipush 105, 2) := by decide +kernel
theorem dX4_init_17 : decode cX4_init 17 = .ok (.putfield 19, 3) := by decide +kernel
theorem dX4_init_20 : decode cX4_init 20 = .ok (.aload_n 0, 1) := by decide +kernel
theorem dX4_init_21 : decode cX4_init 21 = .ok (.bipush 105, 2) := by decide +kernel
theorem dX4_init_23 : decode cX4_init 23 = .ok (.putfield 23, 3) := by decide +kernel
theorem dX4_init_26 : decode cX4_init 26 = .ok (.aload_n 0, 1) := by decide +kernel
theorem dX4_init_27 : decode cX4_init 27 = .ok (.iconst (-1), 1) := by decide +kernel
theorem dX4_init_28 : decode cX4_init 28 = .ok (.putfield 26, 3) := by decide +kernel
theorem dX4_init_31 : decode cX4_init 31 = .ok (.aload_n 0, 1) := by decide +kernel
theorem dX4_init_32 : decode cX4_init 32 = .ok (.sipush 1728, 3) := by decide +kernel
theorem dX4_init_35 : decode cX4_init 35 = .ok (.newarray .int, 2) := by decide +kernel
theorem dX4_init_37 : decode cX4_init 37 = .ok (.putfield 30, 3) := by decide +kernel
theorem dX4_init_40 : decode cX4_init 40 = .ok (.return_, 1) := by decide +kernel
theorem dX4_isBusy_0 : decode cX4_isBusy 0 = .ok (.aload_n 0, 1) := by decide +kernel
theorem dX4_isBusy_1 : decode cX4_isBusy 1 = .ok (.getfield 19, 3) := by decide +kernel
theorem dX4_isBusy_4 : decode cX4_isBusy 4 = .ok (.invokestatic 34, 3) := by decide +kernel
theorem dX4_isBusy_7 : decode cX4_isBusy 7 = .ok (.ifCond .ne 12, 3) := by decide +kernel
theorem dX4_isBusy_10 : decode cX4_isBusy 10 = .ok (.aload_n 0, 1) := by decide +kernel
theorem dX4_isBusy_11 : decode cX4_isBusy 11 = .ok (.getfield 19, 3) := by decide +kernel
theorem dX4_isBusy_14 : decode cX4_isBusy 14 = .ok (.bipush 102, 2) := by decide +kernel
theorem dX4_isBusy_16 : decode cX4_isBusy 16 = .ok (.if_icmp .ne 7, 3) := by decide +kernel
theorem dX4_isBusy_19 : decode cX4_isBusy 19 = .ok (.iconst 1, 1) := by decide +kernel
theorem dX4_isBusy_20 : decode cX4_isBusy 20 = .ok (.goto 4, 3) := by decide +kernel
theorem dX4_isBusy_23 : decode cX4_isBusy 23 = .ok (.iconst 0, 1) := by decide +kernel
theorem dX4_isBusy_24 : decode cX4_isBusy 24 = .ok (.ireturn, 1) := by decide +kernel
theorem dX4_isPrinting_0 : decode cX4_isPrinting 0 = .ok (.iload_n 0, 1) := by decide +kernel
theorem dX4_isPrinting_1 : decode cX4_isPrinting 1 = .ok (.bipush 114, 2) := by decide +kernel
theorem dX4_isPrinting_3 : decode cX4_isPrinting 3 = .ok (.if_icmp .eq 15, 3) := by decide +kernel
theorem dX4_isPrinting_6 : decode cX4_isPrinting 6 = .ok (.iload_n 0, 1) := by decide +kernel
theorem dX4_isPrinting_7 : decode cX4_isPrinting 7 = .ok (.bipush 119, 2) := by decide +kernel
theorem dX4_isPrinting_9 : decode cX4_isPrinting 9 = .ok (.if_icmp .eq 9, 3) := by decide +kernel
theorem dX4_isPrinting_12 : decode cX4_isPrinting 12 = .ok (.iload_n 0, 1) := by decide +kernel
theorem dX4_isPrinting_13 : decode cX4_isPrinting 13 = .ok (.bipush 112, 2) := by decide +kernel
theorem dX4_isPrinting_15 : decode cX4_isPrinting 15 = .ok (.if_icmp .ne 7, 3) := by decide +kernel
theorem dX4_isPrinting_18 : decode cX4_isPrinting 18 = .ok (.iconst 1, 1) := by decide +kernel
theorem dX4_isPrinting_19 : decode cX4_isPrinting 19 = .ok (.goto 4, 3) := by decide +kernel
theorem dX4_isPrinting_22 : decode cX4_isPrinting 22 = .ok (.iconst 0, 1) := by decide +kernel
theorem dX4_isPrinting_23 : decode cX4_isPrinting 23 = .ok (.ireturn, 1) := by decide +kernel
theorem dX4_rest_0 : decode cX4_rest 0 = .ok (.aload_n 0, 1) := by decide +kernel
theorem dX4_rest_1 : decode cX4_rest 1 = .ok (.bipush 105, 2) := by decide +kernel
theorem dX4_rest_3 : decode cX4_rest 3 = .ok (.putfield 19, 3) := by decide +kernel
theorem dX4_rest_6 : decode cX4_rest 6 = .ok (.aload_n 0, 1) := by decide +kernel
theorem dX4_rest_7 : decode cX4_rest 7 = .ok (.iconst 0, 1) := by decide +kernel
theorem dX4_rest_8 : decode cX4_rest 8 = .ok (.putfield 38, 3) := by decide +kernel
theorem dX4_rest_11 : decode cX4_rest 11 = .ok (.aload_n 0, 1) := by decide +kernel
theorem dX4_rest_12 : decode cX4_rest 12 = .ok (.iconst (-1), 1) := by decide +kernel
theorem dX4_rest_13 : decode cX4_rest 13 = .ok (.putfield 26, 3) := by decide +kernel
theorem dX4_rest_16 : decode cX4_rest 16 = .ok (.aload_n 0, 1) := by decide +kernel
theorem dX4_rest_17 : decode cX4_rest 17 = .ok (.iconst 0, 1) := by decide +kernel
theorem dX4_rest_18 : decode cX4_rest 18 = .ok (.invokevirtual 42, 3) := by decide +kernel
theorem dX4_rest_21 : decode cX4_rest 21 = .ok (.return_, 1) := by decide +kernel
theorem dX4_beginPrint_0 : decode cX4_beginPrint 0 = .ok (.aload_n 0, 1) := by decide +kernel
theorem dX4_beginPrint_1 : decode cX4_beginPrint 1 = .ok (.bipush 114, 2) := by decide +kernel
theorem dX4_beginPrint_3 : decode cX4_beginPrint 3 = .ok (.putfield 19, 3) := by decide +kernel
theorem dX4_beginPrint_6 : decode cX4_beginPrint 6 = .ok (.aload_n 0, 1) := by decide +kernel
theorem dX4_beginPrint_7 : decode cX4_beginPrint 7 = .ok (.iconst 0, 1) := by decide +kernel
theorem dX4_beginPrint_8 : decode cX4_beginPrint 8 = .ok (.putfield 38, 3) := by decide +kernel
theorem dX4_beginPrint_11 : decode cX4_beginPrint 11 = .ok (.aload_n 0, 1) := by decide +kernel
theorem dX4_beginPrint_12 : decode cX4_beginPrint 12 = .ok (.iconst (-1), 1) := by decide +kernel
theorem dX4_beginPrint_13 : decode cX4_beginPrint 13 = .ok (.putfield 26, 3) := by decide +kernel
theorem dX4_beginPrint_16 : decode cX4_beginPrint 16 = .ok (.aload_n 0, 1) := by decide +kernel
theorem dX4_beginPrint_17 : decode cX4_beginPrint 17 = .ok (.iconst 0, 1) := by decide +kernel
theorem dX4_beginPrint_18 : decode cX4_beginPrint 18 = .ok (.invokevirtual 42, 3) := by decide +kernel
theorem dX4_beginPrint_21 : decode cX4_beginPrint 21 = .ok (.aload_n 0, 1) := by decide +kernel
theorem dX4_beginPrint_22 : decode cX4_beginPrint 22 = .ok (.getfield 30, 3) := by decide +kernel
theorem dX4_beginPrint_25 : decode cX4_beginPrint 25 = .ok (.iconst 0, 1) := by decide +kernel
theorem dX4_beginPrint_26 : decode cX4_beginPrint 26 = .ok (.invokestatic 46, 3) := by decide +kernel
theorem dX4_beginPrint_29 : decode cX4_beginPrint 29 = .ok (.aload_n 0, 1) := by decide +kernel
theorem dX4_beginPrint_30 : decode cX4_beginPrint 30 = .ok (.lconst 0, 1) := by decide +kernel
theorem dX4_beginPrint_31 : decode cX4_beginPrint 31 = .ok (.putfield 52, 3) := by decide +kernel
theorem dX4_beginPrint_34 : decode cX4_beginPrint 34 = .ok (.return_, 1) := by decide +kernel
theorem dX4_goTo_0 : decode cX4_goTo 0 = .ok (.aload_n 0, 1) := by decide +kernel
theorem dX4_goTo_1 : decode cX4_goTo 1 = .ok (.iload_n 1, 1) := by decide +kernel
theorem dX4_goTo_2 : decode cX4_goTo 2 = .ok (.putfield 56, 3) := by decide +kernel
theorem dX4_goTo_5 : decode cX4_goTo 5 = .ok (.aload_n 0, 1) := by decide +kernel
theorem dX4_goTo_6 : decode cX4_goTo 6 = .ok (.iconst 0, 1) := by decide +kernel
theorem dX4_goTo_7 : decode cX4_goTo 7 = .ok (.putfield 59, 3) := by decide +kernel
theorem dX4_goTo_10 : decode cX4_goTo 10 = .ok (.aload_n 0, 1) := by decide +kernel
theorem dX4_goTo_11 : decode cX4_goTo 11 = .ok (.iconst 0, 1) := by decide +kernel
theorem dX4_goTo_12 : decode cX4_goTo 12 = .ok (.putfield 62, 3) := by decide +kernel
theorem dX4_goTo_15 : decode cX4_goTo 15 = .ok (.return_, 1) := by decide +kernel
theorem dX4_passTicks_0 : decode cX4_passTicks 0 = .ok (.iconst 0, 1) := by decide +kernel
theorem dX4_passTicks_1 : decode cX4_passTicks 1 = .ok (.istore_n 2, 1) := by decide +kernel
theorem dX4_passTicks_2 : decode cX4_passTicks 2 = .ok (.iconst 0, 1) := by decide +kernel
theorem dX4_passTicks_3 : decode cX4_passTicks 3 = .ok (.istore_n 3, 1) := by decide +kernel
theorem dX4_passTicks_4 : decode cX4_passTicks 4 = .ok (.iload_n 3, 1) := by decide +kernel
theorem dX4_passTicks_5 : decode cX4_passTicks 5 = .ok (.iload_n 1, 1) := by decide +kernel
theorem dX4_passTicks_6 : decode cX4_passTicks 6 = .ok (.if_icmp .ge 54, 3) := by decide +kernel
theorem dX4_passTicks_9 : decode cX4_passTicks 9 = .ok (.aload_n 0, 1) := by decide +kernel
theorem dX4_passTicks_10 : decode cX4_passTicks 10 = .ok (.dup, 1) := by decide +kernel
theorem dX4_passTicks_11 : decode cX4_passTicks 11 = .ok (.getfield 65, 3) := by decide +kernel
theorem dX4_passTicks_14 : decode cX4_passTicks 14 = .ok (.lconst 1, 1) := by decide +kernel
theorem dX4_passTicks_15 : decode cX4_passTicks 15 = .ok (.ladd, 1) := by decide +kernel
theorem dX4_passTicks_16 : decode cX4_passTicks 16 = .ok (.putfield 65, 3) := by decide +kernel
theorem dX4_passTicks_19 : decode cX4_passTicks 19 = .ok (.aload_n 0, 1) := by decide +kernel
theorem dX4_passTicks_20 : decode cX4_passTicks 20 = .ok (.getfield 15, 3) := by decide +kernel
theorem dX4_passTicks_23 : decode cX4_passTicks 23 = .ok (.invokevirtual 68, 3) := by decide +kernel
theorem dX4_passTicks_26 : decode cX4_passTicks 26 = .ok (.aload_n 0, 1) := by decide +kernel
theorem dX4_passTicks_27 : decode cX4_passTicks 27 = .ok (.getfield 19, 3) := by decide +kernel
theorem dX4_passTicks_30 : decode cX4_passTicks 30 = .ok (.bipush 114, 2) := by decide +kernel
theorem dX4_passTicks_32 : decode cX4_passTicks 32 = .ok (.if_icmp .eq 12, 3) := by decide +kernel
theorem dX4_passTicks_35 : decode cX4_passTicks 35 = .ok (.aload_n 0, 1) := by decide +kernel
theorem dX4_passTicks_36 : decode cX4_passTicks 36 = .ok (.getfield 19, 3) := by decide +kernel
theorem dX4_passTicks_39 : decode cX4_passTicks 39 = .ok (.bipush 119, 2) := by decide +kernel
theorem dX4_passTicks_41 : decode cX4_passTicks 41 = .ok (.if_icmp .ne 13, 3) := by decide +kernel
theorem dX4_passTicks_44 : decode cX4_passTicks 44 = .ok (.aload_n 0, 1) := by decide +kernel
theorem dX4_passTicks_45 : decode cX4_passTicks 45 = .ok (.invokevirtual 73, 3) := by decide +kernel
theorem dX4_passTicks_48 : decode cX4_passTicks 48 = .ok (.ifCond .eq 6, 3) := by decide +kernel
theorem dX4_passTicks_51 : decode cX4_passTicks 51 = .ok (.iinc 2 1, 3) := by decide +kernel
theorem dX4_passTicks_54 : decode cX4_passTicks 54 = .ok (.iinc 3 1, 3) := by decide +kernel
theorem dX4_passTicks_57 : decode cX4_passTicks 57 = .ok (.goto (-53), 3) := by decide +kernel
theorem dX4_passTicks_60 : decode cX4_passTicks 60 = .ok (.iload_n 2, 1) := by decide +kernel
theorem dX4_passTicks_61 : decode cX4_passTicks 61 = .ok (.ireturn, 1) := by decide +kernel
theorem dX4_doTick_0 : decode cX4_doTick 0 = .ok (.aload_n 0, 1) := by decide +kernel
theorem dX4_doTick_1 : decode cX4_doTick 1 = .ok (.getfield 9, 3) := by decide +kernel
theorem dX4_doTick_4 : decode cX4_doTick 4 = .ok (.aload_n 0, 1) := by decide +kernel
theorem dX4_doTick_5 : decode cX4_doTick 5 = .ok (.getfield 56, 3) := by decide +kernel
theorem dX4_doTick_8 : decode cX4_doTick 8 = .ok (.invokevirtual 77, 3) := by decide +kernel
theorem dX4_doTick_11 : decode cX4_doTick 11 = .ok (.bipush 100, 2) := by decide +kernel
theorem dX4_doTick_13 : decode cX4_doTick 13 = .ok (.if_icmp .ne 26, 3) := by decide +kernel
theorem dX4_doTick_16 : decode cX4_doTick 16 = .ok (.aload_n 0, 1) := by decide +kernel
theorem dX4_doTick_17 : decode cX4_doTick 17 = .ok (.getfield 15, 3) := by decide +kernel
theorem dX4_doTick_20 : decode cX4_doTick 20 = .ok (.invokevirtual 83, 3) := by decide +kernel
theorem dX4_doTick_23 : decode cX4_doTick 23 = .ok (.ifCond .ne 16, 3) := by decide +kernel
theorem dX4_doTick_26 : decode cX4_doTick 26 = .ok (.aload_n 0, 1) := by decide +kernel
theorem dX4_doTick_27 : decode cX4_doTick 27 = .ok (.bipush 119, 2) := by decide +kernel
theorem dX4_doTick_29 : decode cX4_doTick 29 = .ok (.putfield 19, 3) := by decide +kernel
theorem dX4_doTick_32 : decode cX4_doTick 32 = .ok (.aload_n 0, 1) := by decide +kernel
theorem dX4_doTick_33 : decode cX4_doTick 33 = .ok (.iconst 0, 1) := by decide +kernel
theorem dX4_doTick_34 : decode cX4_doTick 34 = .ok (.putfield 62, 3) := by decide +kernel
theorem dX4_doTick_37 : decode cX4_doTick 37 = .ok (.iconst 0, 1) := by decide +kernel
theorem dX4_doTick_38 : decode cX4_doTick 38 = .ok (.ireturn, 1) := by decide +kernel
theorem dX4_doTick_39 : decode cX4_doTick 39 = .ok (.aload_n 0, 1) := by decide +kernel
theorem dX4_doTick_40 : decode cX4_doTick 40 = .ok (.bipush 114, 2) := by decide +kernel
theorem dX4_doTick_42 : decode cX4_doTick 42 = .ok (.putfield 19, 3) := by decide +kernel
theorem dX4_doTick_45 : decode cX4_doTick 45 = .ok (.aload_n 0, 1) := by decide +kernel
theorem dX4_doTick_46 : decode cX4_doTick 46 = .ok (.getfield 9, 3) := by decide +kernel
theorem dX4_doTick_49 : decode cX4_doTick 49 = .ok (.aload_n 0, 1) := by decide +kernel
theorem dX4_doTick_50 : decode cX4_doTick 50 = .ok (.getfield 56, 3) := by decide +kernel
theorem dX4_doTick_53 : decode cX4_doTick 53 = .ok (.invokevirtual 86, 3) := by decide +kernel
theorem dX4_doTick_56 : decode cX4_doTick 56 = .ok (.aload_n 0, 1) := by decide +kernel
theorem dX4_doTick_57 : decode cX4_doTick 57 = .ok (.getfield 59, 3) := by decide +kernel
theorem dX4_doTick_60 : decode cX4_doTick 60 = .ok (.isub, 1) := by decide +kernel
theorem dX4_doTick_61 : decode cX4_doTick 61 = .ok (.istore_n 1, 1) := by decide +kernel
theorem dX4_doTick_62 : decode cX4_doTick 62 = .ok (.iload_n 1, 1) := by decide +kernel
theorem dX4_doTick_63 : decode cX4_doTick 63 = .ok (.ifCond .le 25, 3) := by decide +kernel
theorem dX4_doTick_66 : decode cX4_doTick 66 = .ok (.aload_n 0, 1) := by decide +kernel
theorem dX4_doTick_67 : decode cX4_doTick 67 = .ok (.aload_n 0, 1) := by decide +kernel
theorem dX4_doTick_68 : decode cX4_doTick 68 = .ok (.iload_n 1, 1) := by decide +kernel
theorem dX4_doTick_69 : decode cX4_doTick 69 = .ok (.invokevirtual 90, 3) := by decide +kernel
theorem dX4_doTick_72 : decode cX4_doTick 72 = .ok (.putfield 62, 3) := by decide +kernel
theorem dX4_doTick_75 : decode cX4_doTick 75 = .ok (.aload_n 0, 1) := by decide +kernel
theorem dX4_doTick_76 : decode cX4_doTick 76 = .ok (.dup, 1) := by decide +kernel
theorem dX4_doTick_77 : decode cX4_doTick 77 = .ok (.getfield 59, 3) := by decide +kernel
theorem dX4_doTick_80 : decode cX4_doTick 80 = .ok (.aload_n 0, 1) := by decide +kernel
theorem dX4_doTick_81 : decode cX4_doTick 81 = .ok (.getfield 62, 3) := by decide +kernel
theorem dX4_doTick_84 : decode cX4_doTick 84 = .ok (.iadd, 1) := by decide +kernel
theorem dX4_doTick_85 : decode cX4_doTick 85 = .ok (.putfield 59, 3) := by decide +kernel
theorem dX4_doTick_88 : decode cX4_doTick 88 = .ok (.iload_n 1, 1) := by decide +kernel
theorem dX4_doTick_89 : decode cX4_doTick 89 = .ok (.aload_n 0, 1) := by decide +kernel
theorem dX4_doTick_90 : decode cX4_doTick 90 = .ok (.getfield 62, 3) := by decide +kernel
theorem dX4_doTick_93 : decode cX4_doTick 93 = .ok (.if_icmp .le 5, 3) := by decide +kernel
theorem dX4_doTick_96 : decode cX4_doTick 96 = .ok (.iconst 0, 1) := by decide +kernel
theorem dX4_doTick_97 : decode cX4_doTick 97 = .ok (.ireturn, 1) := by decide +kernel
theorem dX4_doTick_98 : decode cX4_doTick 98 = .ok (.aload_n 0, 1) := by decide +kernel
theorem dX4_doTick_99 : decode cX4_doTick 99 = .ok (.invokevirtual 93, 3) := by decide +kernel
theorem dX4_doTick_102 : decode cX4_doTick 102 = .ok (.iconst 1, 1) := by decide +kernel
theorem dX4_doTick_103 : decode cX4_doTick 103 = .ok (.ireturn, 1) := by decide +kernel
theorem dX4_speedFor_0 : decode cX4_speedFor 0 = .ok (.aload_n 0, 1) := by decide +kernel
theorem dX4_speedFor_1 : decode cX4_speedFor 1 = .ok (.getfield 9, 3) := by decide +kernel
theorem dX4_speedFor_4 : decode cX4_speedFor 4 = .ok (.aload_n 0, 1) := by decide +kernel
theorem dX4_speedFor_5 : decode cX4_speedFor 5 = .ok (.getfield 56, 3) := by decide +kernel
theorem dX4_speedFor_8 : decode cX4_speedFor 8 = .ok (.invokevirtual 96, 3) := by decide +kernel
theorem dX4_speedFor_11 : decode cX4_speedFor 11 = .ok (.istore_n 2, 1) := by decide +kernel
theorem dX4_speedFor_12 : decode cX4_speedFor 12 = .ok (.aload_n 0, 1) := by decide +kernel
theorem dX4_speedFor_13 : decode cX4_speedFor 13 = .ok (.getfield 62, 3) := by decide +kernel
theorem dX4_speedFor_16 : decode cX4_speedFor 16 = .ok (.iconst 1, 1) := by decide +kernel
theorem dX4_speedFor_17 : decode cX4_speedFor 17 = .ok (.iadd, 1) := by decide +kernel
theorem dX4_speedFor_18 : decode cX4_speedFor 18 = .ok (.aload_n 0, 1) := by decide +kernel
theorem dX4_speedFor_19 : decode cX4_speedFor 19 = .ok (.getfield 9, 3) := by decide +kernel
theorem dX4_speedFor_22 : decode cX4_speedFor 22 = .ok (.aload_n 0, 1) := by decide +kernel
theorem dX4_speedFor_23 : decode cX4_speedFor 23 = .ok (.getfield 56, 3) := by decide +kernel
theorem dX4_speedFor_26 : decode cX4_speedFor 26 = .ok (.invokevirtual 99, 3) := by decide +kernel
theorem dX4_speedFor_29 : decode cX4_speedFor 29 = .ok (.iload_n 1, 1) := by decide +kernel
theorem dX4_speedFor_30 : decode cX4_speedFor 30 = .ok (.invokestatic 102, 3) := by decide +kernel
theorem dX4_speedFor_33 : decode cX4_speedFor 33 = .ok (.invokestatic 102, 3) := by decide +kernel
theorem dX4_speedFor_36 : decode cX4_speedFor 36 = .ok (.istore_n 3, 1) := by decide +kernel
theorem dX4_speedFor_37 : decode cX4_speedFor 37 = .ok (.iload_n 3, 1) := by decide +kernel
theorem dX4_speedFor_38 : decode cX4_speedFor 38 = .ok (.iconst 1, 1) := by decide +kernel
theorem dX4_speedFor_39 : decode cX4_speedFor 39 = .ok (.if_icmp .le 20, 3) := by decide +kernel
theorem dX4_speedFor_42 : decode cX4_speedFor 42 = .ok (.iload_n 3, 1) := by decide +kernel
theorem dX4_speedFor_43 : decode cX4_speedFor 43 = .ok (.iload_n 1, 1) := by decide +kernel
theorem dX4_speedFor_44 : decode cX4_speedFor 44 = .ok (.iload_n 3, 1) := by decide +kernel
theorem dX4_speedFor_45 : decode cX4_speedFor 45 = .ok (.isub, 1) := by decide +kernel
theorem dX4_speedFor_46 : decode cX4_speedFor 46 = .ok (.iload_n 2, 1) := by decide +kernel
theorem dX4_speedFor_47 : decode cX4_speedFor 47 = .ok (.invokestatic 108, 3) := by decide +kernel
theorem dX4_speedFor_50 : decode cX4_speedFor 50 = .ok (.ifCond .ne 9, 3) := by decide +kernel
theorem dX4_speedFor_53 : decode cX4_speedFor 53 = .ok (.iinc 3 (-1), 3) := by decide +kernel
theorem dX4_speedFor_56 : decode cX4_speedFor 56 = .ok (.goto (-19), 3) := by decide +kernel
theorem dX4_speedFor_59 : decode cX4_speedFor 59 = .ok (.iload_n 3, 1) := by decide +kernel
theorem dX4_speedFor_60 : decode cX4_speedFor 60 = .ok (.iconst 1, 1) := by decide +kernel
theorem dX4_speedFor_61 : decode cX4_speedFor 61 = .ok (.invokestatic 112, 3) := by decide +kernel
theorem dX4_speedFor_64 : decode cX4_speedFor 64 = .ok (.ireturn, 1) := by decide +kernel
theorem dX4_canEnd_0 : decode cX4_canEnd 0 = .ok (.iconst 0, 1) := by decide +kernel
theorem dX4_canEnd_1 : decode cX4_canEnd 1 = .ok (.istore_n 3, 1) := by decide +kernel
theorem dX4_canEnd_2 : decode cX4_canEnd 2 = .ok (.iload_n 2, 1) := by decide +kernel
theorem dX4_canEnd_3 : decode cX4_canEnd 3 = .ok (.istore 4, 2) := by decide +kernel
theorem dX4_canEnd_5 : decode cX4_canEnd 5 = .ok (.iload 4, 2) := by decide +kernel
theorem dX4_canEnd_7 : decode cX4_canEnd 7 = .ok (.iload_n 0, 1) := by decide +kernel
theorem dX4_canEnd_8 : decode cX4_canEnd 8 = .ok (.if_icmp .ge 14, 3) := by decide +kernel
theorem dX4_canEnd_11 : decode cX4_canEnd 11 = .ok (.iload_n 3, 1) := by decide +kernel
theorem dX4_canEnd_12 : decode cX4_canEnd 12 = .ok (.iload 4, 2) := by decide +kernel
theorem dX4_canEnd_14 : decode cX4_canEnd 14 = .ok (.iadd, 1) := by decide +kernel
theorem dX4_canEnd_15 : decode cX4_canEnd 15 = .ok (.istore_n 3, 1) := by decide +kernel
theorem dX4_canEnd_16 : decode cX4_canEnd 16 = .ok (.iinc 4 1, 3) := by decide +kernel
theorem dX4_canEnd_19 : decode cX4_canEnd 19 = .ok (.goto (-14), 3) := by decide +kernel
theorem dX4_canEnd_22 : decode cX4_canEnd 22 = .ok (.iload_n 1, 1) := by decide +kernel
theorem dX4_canEnd_23 : decode cX4_canEnd 23 = .ok (.iload_n 3, 1) := by decide +kernel
theorem dX4_canEnd_24 : decode cX4_canEnd 24 = .ok (.if_icmp .lt 7, 3) := by decide +kernel
theorem dX4_canEnd_27 : decode cX4_canEnd 27 = .ok (.iconst 1, 1) := by decide +kernel
theorem dX4_canEnd_28 : decode cX4_canEnd 28 = .ok (.goto 4, 3) := by decide +kernel
theorem dX4_canEnd_31 : decode cX4_canEnd 31 = .ok (.iconst 0, 1) := by decide +kernel
theorem dX4_canEnd_32 : decode cX4_canEnd 32 = .ok (.ireturn, 1) := by decide +kernel
theorem dX4_endCommand_0 : decode cX4_endCommand 0 = .ok (.aload_n 0, 1) := by decide +kernel
theorem dX4_endCommand_1 : decode cX4_endCommand 1 = .ok (.getfield 9, 3) := by decide +kernel
theorem dX4_endCommand_4 : decode cX4_endCommand 4 = .ok (.aload_n 0, 1) := by decide +kernel
theorem dX4_endCommand_5 : decode cX4_endCommand 5 = .ok (.getfield 56, 3) := by decide +kernel
theorem dX4_endCommand_8 : decode cX4_endCommand 8 = .ok (.invokevirtual 77, 3) := by decide +kernel
theorem dX4_endCommand_11 : decode cX4_endCommand 11 = .ok (.istore_n 1, 1) := by decide +kernel
theorem dX4_endCommand_12 : decode cX4_endCommand 12 = .ok (.aload_n 0, 1) := by decide +kernel
theorem dX4_endCommand_13 : decode cX4_endCommand 13 = .ok (.aload_n 0, 1) := by decide +kernel
theorem dX4_endCommand_14 : decode cX4_endCommand 14 = .ok (.getfield 9, 3) := by decide +kernel
theorem dX4_endCommand_17 : decode cX4_endCommand 17 = .ok (.aload_n 0, 1) := by decide +kernel
theorem dX4_endCommand_18 : decode cX4_endCommand 18 = .ok (.getfield 56, 3) := by decide +kernel
theorem dX4_endCommand_21 : decode cX4_endCommand 21 = .ok (.invokevirtual 115, 3) := by decide +kernel
theorem dX4_endCommand_24 : decode cX4_endCommand 24 = .ok (.ifCond .eq 26, 3) := by decide +kernel
theorem dX4_endCommand_27 : decode cX4_endCommand 27 = .ok (.aload_n 0, 1) := by decide +kernel
theorem dX4_endCommand_28 : decode cX4_endCommand 28 = .ok (.getfield 62, 3) := by decide +kernel
theorem dX4_endCommand_31 : decode cX4_endCommand 31 = .ok (.aload_n 0, 1) := by decide +kernel
theorem dX4_endCommand_32 : decode cX4_endCommand 32 = .ok (.getfield 9, 3) := by decide +kernel
theorem dX4_endCommand_35 : decode cX4_endCommand 35 = .ok (.aload_n 0, 1) := by decide +kernel
theorem dX4_endCommand_36 : decode cX4_endCommand 36 = .ok (.getfield 56, 3) := by decide +kernel
theorem dX4_endCommand_39 : decode cX4_endCommand 39 = .ok (.iconst 1, 1) := by decide +kernel
theorem dX4_endCommand_40 : decode cX4_endCommand 40 = .ok (.iadd, 1) := by decide +kernel
theorem dX4_endCommand_41 : decode cX4_endCommand 41 = .ok (.invokevirtual 99, 3) := by decide +kernel
theorem dX4_endCommand_44 : decode cX4_endCommand 44 = .ok (.invokestatic 102, 3) := by decide +kernel
theorem dX4_endCommand_47 : decode cX4_endCommand 47 = .ok (.goto 4, 3) := by decide +kernel
theorem dX4_endCommand_50 : decode cX4_endCommand 50 = .ok (.iconst 0, 1) := by decide +kernel
theorem dX4_endCommand_51 : decode cX4_endCommand 51 = .ok (.putfield 62, 3) := by decide +kernel
theorem dX4_endCommand_54 : decode cX4_endCommand 54 = .ok (.iload_n 1, 1) := by decide +kernel
theorem dX4_endCommand_55 : decode cX4_endCommand 55 = .ok (.bipush 100, 2) := by decide +kernel
theorem dX4_endCommand_57 : decode cX4_endCommand 57 = .ok (.if_icmp .ne 14, 3) := by decide +kernel
theorem dX4_endCommand_60 : decode cX4_endCommand 60 = .ok (.aload_n 0, 1) := by decide +kernel
theorem dX4_endCommand_61 : decode cX4_endCommand 61 = .ok (.aload_n 0, 1) := by decide +kernel
theorem dX4_endCommand_62 : decode cX4_endCommand 62 = .ok (.getfield 56, 3) := by decide +kernel
theorem dX4_endCommand_65 : decode cX4_endCommand 65 = .ok (.invokevirtual 119, 3) := by decide +kernel
theorem dX4_endCommand_68 : decode cX4_endCommand 68 = .ok (.goto 32, 3) := by decide +kernel
theorem dX4_endCommand_71 : decode cX4_endCommand 71 = .ok (.iload_n 1, 1) := by decide +kernel
theorem dX4_endCommand_72 : decode cX4_endCommand 72 = .ok (.bipush 122, 2) := by decide +kernel
theorem dX4_endCommand_74 : decode cX4_endCommand 74 = .ok (.if_icmp .ne 14, 3) := by decide +kernel
theorem dX4_endCommand_77 : decode cX4_endCommand 77 = .ok (.aload_n 0, 1) := by decide +kernel
theorem dX4_endCommand_78 : decode cX4_endCommand 78 = .ok (.aload_n 0, 1) := by decide +kernel
theorem dX4_endCommand_79 : decode cX4_endCommand 79 = .ok (.getfield 56, 3) := by decide +kernel
theorem dX4_endCommand_82 : decode cX4_endCommand 82 = .ok (.putfield 26, 3) := by decide +kernel
theorem dX4_endCommand_85 : decode cX4_endCommand 85 = .ok (.goto 15, 3) := by decide +kernel
theorem dX4_endCommand_88 : decode cX4_endCommand 88 = .ok (.iload_n 1, 1) := by decide +kernel
theorem dX4_endCommand_89 : decode cX4_endCommand 89 = .ok (.bipush 112, 2) := by decide +kernel
theorem dX4_endCommand_91 : decode cX4_endCommand 91 = .ok (.if_icmp .ne 9, 3) := by decide +kernel
theorem dX4_endCommand_94 : decode cX4_endCommand 94 = .ok (.aload_n 0, 1) := by decide +kernel
theorem dX4_endCommand_95 : decode cX4_endCommand 95 = .ok (.bipush 112, 2) := by decide +kernel
theorem dX4_endCommand_97 : decode cX4_endCommand 97 = .ok (.putfield 19, 3) := by decide +kernel
theorem dX4_endCommand_100 : decode cX4_endCommand 100 = .ok (.aload_n 0, 1) := by decide +kernel
theorem dX4_endCommand_101 : decode cX4_endCommand 101 = .ok (.iconst 0, 1) := by decide +kernel
theorem dX4_endCommand_102 : decode cX4_endCommand 102 = .ok (.putfield 59, 3) := by decide +kernel
theorem dX4_endCommand_105 : decode cX4_endCommand 105 = .ok (.aload_n 0, 1) := by decide +kernel
theorem dX4_endCommand_106 : decode cX4_endCommand 106 = .ok (.dup, 1) := by decide +kernel
theorem dX4_endCommand_107 : decode cX4_endCommand 107 = .ok (.getfield 56, 3) := by decide +kernel
theorem dX4_endCommand_110 : decode cX4_endCommand 110 = .ok (.iconst 1, 1) := by decide +kernel
theorem dX4_endCommand_111 : decode cX4_endCommand 111 = .ok (.iadd, 1) := by decide +kernel
theorem dX4_endCommand_112 : decode cX4_endCommand 112 = .ok (.putfield 56, 3) := by decide +kernel
theorem dX4_endCommand_115 : decode cX4_endCommand 115 = .ok (.aload_n 0, 1) := by decide +kernel
theorem dX4_endCommand_116 : decode cX4_endCommand 116 = .ok (.getfield 56, 3) := by decide +kernel
theorem dX4_endCommand_119 : decode cX4_endCommand 119 = .ok (.aload_n 0, 1) := by decide +kernel
theorem dX4_endCommand_120 : decode cX4_endCommand 120 = .ok (.getfield 9, 3) := by decide +kernel
theorem dX4_endCommand_123 : decode cX4_endCommand 123 = .ok (.invokevirtual 122, 3) := by decide +kernel
theorem dX4_endCommand_126 : decode cX4_endCommand 126 = .ok (.if_icmp .lt 9, 3) := by decide +kernel
theorem dX4_endCommand_129 : decode cX4_endCommand 129 = .ok (.aload_n 0, 1) := by decide +kernel
theorem dX4_endCommand_130 : decode cX4_endCommand 130 = .ok (.bipush 100, 2) := by decide +kernel
theorem dX4_endCommand_132 : decode cX4_endCommand 132 = .ok (.putfield 19, 3) := by decide +kernel
theorem dX4_endCommand_135 : decode cX4_endCommand 135 = .ok (.return_, 1) := by decide +kernel
theorem dX4_lay_0 : decode cX4_lay 0 = .ok (.aload_n 0, 1) := by decide +kernel
theorem dX4_lay_1 : decode cX4_lay 1 = .ok (.getfield 9, 3) := by decide +kernel
theorem dX4_lay_4 : decode cX4_lay 4 = .ok (.iload_n 1, 1) := by decide +kernel
theorem dX4_lay_5 : decode cX4_lay 5 = .ok (.invokevirtual 126, 3) := by decide +kernel
theorem dX4_lay_8 : decode cX4_lay 8 = .ok (.istore_n 2, 1) := by decide +kernel
theorem dX4_lay_9 : decode cX4_lay 9 = .ok (.aload_n 0, 1) := by decide +kernel
theorem dX4_lay_10 : decode cX4_lay 10 = .ok (.getfield 9, 3) := by decide +kernel
theorem dX4_lay_13 : decode cX4_lay 13 = .ok (.iload_n 1, 1) := by decide +kernel
theorem dX4_lay_14 : decode cX4_lay 14 = .ok (.invokevirtual 129, 3) := by decide +kernel
theorem dX4_lay_17 : decode cX4_lay 17 = .ok (.istore_n 3, 1) := by decide +kernel
theorem dX4_lay_18 : decode cX4_lay 18 = .ok (.aload_n 0, 1) := by decide +kernel
theorem dX4_lay_19 : decode cX4_lay 19 = .ok (.getfield 9, 3) := by decide +kernel
theorem dX4_lay_22 : decode cX4_lay 22 = .ok (.iload_n 1, 1) := by decide +kernel
theorem dX4_lay_23 : decode cX4_lay 23 = .ok (.invokevirtual 132, 3) := by decide +kernel
theorem dX4_lay_26 : decode cX4_lay 26 = .ok (.istore 4, 2) := by decide +kernel
theorem dX4_lay_28 : decode cX4_lay 28 = .ok (.aload_n 0, 1) := by decide +kernel
theorem dX4_lay_29 : decode cX4_lay 29 = .ok (.getfield 9, 3) := by decide +kernel
theorem dX4_lay_32 : decode cX4_lay 32 = .ok (.iload_n 1, 1) := by decide +kernel
theorem dX4_lay_33 : decode cX4_lay 33 = .ok (.invokevirtual 135, 3) := by decide +kernel
theorem dX4_lay_36 : decode cX4_lay 36 = .ok (.invokestatic 138, 3) := by decide +kernel
theorem dX4_lay_39 : decode cX4_lay 39 = .ok (.istore 5, 2) := by decide +kernel
theorem dX4_lay_41 : decode cX4_lay 41 = .ok (.aload_n 0, 1) := by decide +kernel
theorem dX4_lay_42 : decode cX4_lay 42 = .ok (.getfield 9, 3) := by decide +kernel
theorem dX4_lay_45 : decode cX4_lay 45 = .ok (.iload_n 1, 1) := by decide +kernel
theorem dX4_lay_46 : decode cX4_lay 46 = .ok (.invokevirtual 141, 3) := by decide +kernel
theorem dX4_lay_49 : decode cX4_lay 49 = .ok (.invokestatic 138, 3) := by decide +kernel
theorem dX4_lay_52 : decode cX4_lay 52 = .ok (.istore 6, 2) := by decide +kernel
theorem dX4_lay_54 : decode cX4_lay 54 = .ok (.aload_n 0, 1) := by decide +kernel
theorem dX4_lay_55 : decode cX4_lay 55 = .ok (.getfield 9, 3) := by decide +kernel
theorem dX4_lay_58 : decode cX4_lay 58 = .ok (.iload_n 1, 1) := by decide +kernel
theorem dX4_lay_59 : decode cX4_lay 59 = .ok (.invokevirtual 144, 3) := by decide +kernel
theorem dX4_lay_62 : decode cX4_lay 62 = .ok (.istore 7, 2) := by decide +kernel
theorem dX4_lay_64 : decode cX4_lay 64 = .ok (.iconst 0, 1) := by decide +kernel
theorem dX4_lay_65 : decode cX4_lay 65 = .ok (.istore 8, 2) := by decide +kernel
theorem dX4_lay_67 : decode cX4_lay 67 = .ok (.iload 8, 2) := by decide +kernel
theorem dX4_lay_69 : decode cX4_lay 69 = .ok (.aload_n 0, 1) := by decide +kernel
theorem dX4_lay_70 : decode cX4_lay 70 = .ok (.getfield 9, 3) := by decide +kernel
theorem dX4_lay_73 : decode cX4_lay 73 = .ok (.iload_n 1, 1) := by decide +kernel
theorem dX4_lay_74 : decode cX4_lay 74 = .ok (.invokevirtual 147, 3) := by decide +kernel
theorem dX4_lay_77 : decode cX4_lay 77 = .ok (.if_icmp .ge 58, 3) := by decide +kernel
theorem dX4_lay_80 : decode cX4_lay 80 = .ok (.iload_n 2, 1) := by decide +kernel
theorem dX4_lay_81 : decode cX4_lay 81 = .ok (.iload_n 3, 1) := by decide +kernel
theorem dX4_lay_82 : decode cX4_lay 82 = .ok (.iload 4, 2) := by decide +kernel
theorem dX4_lay_84 : decode cX4_lay 84 = .ok (.invokestatic 150, 3) := by decide +kernel
theorem dX4_lay_87 : decode cX4_lay 87 = .ok (.ifCond .eq 32, 3) := by decide +kernel
theorem dX4_lay_90 : decode cX4_lay 90 = .ok (.aload_n 0, 1) := by decide +kernel
theorem dX4_lay_91 : decode cX4_lay 91 = .ok (.getfield 30, 3) := by decide +kernel
theorem dX4_lay_94 : decode cX4_lay 94 = .ok (.iload_n 2, 1) := by decide +kernel
theorem dX4_lay_95 : decode cX4_lay 95 = .ok (.iload_n 3, 1) := by decide +kernel
theorem dX4_lay_96 : decode cX4_lay 96 = .ok (.iload 4, 2) := by decide +kernel
theorem dX4_lay_98 : decode cX4_lay 98 = .ok (.invokestatic 153, 3) := by decide +kernel
theorem dX4_lay_101 : decode cX4_lay 101 = .ok (.dup2, 1) := by decide +kernel
theorem dX4_lay_102 : decode cX4_lay 102 = .ok (.iaload, 1) := by decide +kernel
theorem dX4_lay_103 : decode cX4_lay 103 = .ok (.iload 7, 2) := by decide +kernel
theorem dX4_lay_105 : decode cX4_lay 105 = .ok (.iadd, 1) := by decide +kernel
theorem dX4_lay_106 : decode cX4_lay 106 = .ok (.iastore, 1) := by decide +kernel
theorem dX4_lay_107 : decode cX4_lay 107 = .ok (.aload_n 0, 1) := by decide +kernel
theorem dX4_lay_108 : decode cX4_lay 108 = .ok (.dup, 1) := by decide +kernel
theorem dX4_lay_109 : decode cX4_lay 109 = .ok (.getfield 52, 3) := by decide +kernel
theorem dX4_lay_112 : decode cX4_lay 112 = .ok (.iload 7, 2) := by decide +kernel
theorem dX4_lay_114 : decode cX4_lay 114 = .ok (.i2l, 1) := by decide +kernel
theorem dX4_lay_115 : decode cX4_lay 115 = .ok (.ladd, 1) := by decide +kernel
theorem dX4_lay_116 : decode cX4_lay 116 = .ok (.putfield 52, 3) := by decide +kernel
theorem dX4_lay_119 : decode cX4_lay 119 = .ok (.iload_n 2, 1) := by decide +kernel
theorem dX4_lay_120 : decode cX4_lay 120 = .ok (.iload 5, 2) := by decide +kernel
theorem dX4_lay_122 : decode cX4_lay 122 = .ok (.isub, 1) := by decide +kernel
theorem dX4_lay_123 : decode cX4_lay 123 = .ok (.istore_n 2, 1) := by decide +kernel
theorem dX4_lay_124 : decode cX4_lay 124 = .ok (.iload_n 3, 1) := by decide +kernel
theorem dX4_lay_125 : decode cX4_lay 125 = .ok (.iload 6, 2) := by decide +kernel
theorem dX4_lay_127 : decode cX4_lay 127 = .ok (.isub, 1) := by decide +kernel
theorem dX4_lay_128 : decode cX4_lay 128 = .ok (.istore_n 3, 1) := by decide +kernel
theorem dX4_lay_129 : decode cX4_lay 129 = .ok (.iinc 8 1, 3) := by decide +kernel
theorem dX4_lay_132 : decode cX4_lay 132 = .ok (.goto (-65), 3) := by decide +kernel
theorem dX4_lay_135 : decode cX4_lay 135 = .ok (.return_, 1) := by decide +kernel
theorem dX4_endPause_0 : decode cX4_endPause 0 = .ok (.aload_n 0, 1) := by decide +kernel
theorem dX4_endPause_1 : decode cX4_endPause 1 = .ok (.bipush 114, 2) := by decide +kernel
theorem dX4_endPause_3 : decode cX4_endPause 3 = .ok (.putfield 19, 3) := by decide +kernel
theorem dX4_endPause_6 : decode cX4_endPause 6 = .ok (.return_, 1) := by decide +kernel
theorem dX4_beginFailure_0 : decode cX4_beginFailure 0 = .ok (.aload_n 0, 1) := by decide +kernel
theorem dX4_beginFailure_1 : decode cX4_beginFailure 1 = .ok (.aload_n 0, 1) := by decide +kernel
theorem dX4_beginFailure_2 : decode cX4_beginFailure 2 = .ok (.getfield 19, 3) := by decide +kernel
theorem dX4_beginFailure_5 : decode cX4_beginFailure 5 = .ok (.putfield 23, 3) := by decide +kernel
theorem dX4_beginFailure_8 : decode cX4_beginFailure 8 = .ok (.aload_n 0, 1) := by decide +kernel
theorem dX4_beginFailure_9 : decode cX4_beginFailure 9 = .ok (.bipush 102, 2) := by decide +kernel
theorem dX4_beginFailure_11 : decode cX4_beginFailure 11 = .ok (.putfield 19, 3) := by decide +kernel
theorem dX4_beginFailure_14 : decode cX4_beginFailure 14 = .ok (.aload_n 0, 1) := by decide +kernel
theorem dX4_beginFailure_15 : decode cX4_beginFailure 15 = .ok (.getfield 15, 3) := by decide +kernel
theorem dX4_beginFailure_18 : decode cX4_beginFailure 18 = .ok (.iconst 0, 1) := by decide +kernel
theorem dX4_beginFailure_19 : decode cX4_beginFailure 19 = .ok (.invokevirtual 157, 3) := by decide +kernel
theorem dX4_beginFailure_22 : decode cX4_beginFailure 22 = .ok (.pop, 1) := by decide +kernel
theorem dX4_beginFailure_23 : decode cX4_beginFailure 23 = .ok (.aload_n 0, 1) := by decide +kernel
theorem dX4_beginFailure_24 : decode cX4_beginFailure 24 = .ok (.iconst 0, 1) := by decide +kernel
theorem dX4_beginFailure_25 : decode cX4_beginFailure 25 = .ok (.putfield 62, 3) := by decide +kernel
theorem dX4_beginFailure_28 : decode cX4_beginFailure 28 = .ok (.aload_n 0, 1) := by decide +kernel
theorem dX4_beginFailure_29 : decode cX4_beginFailure 29 = .ok (.getfield 23, 3) := by decide +kernel
theorem dX4_beginFailure_32 : decode cX4_beginFailure 32 = .ok (.ireturn, 1) := by decide +kernel
theorem dX4_endFailure_0 : decode cX4_endFailure 0 = .ok (.aload_n 0, 1) := by decide +kernel
theorem dX4_endFailure_1 : decode cX4_endFailure 1 = .ok (.aload_n 0, 1) := by decide +kernel
theorem dX4_endFailure_2 : decode cX4_endFailure 2 = .ok (.getfield 23, 3) := by decide +kernel
theorem dX4_endFailure_5 : decode cX4_endFailure 5 = .ok (.putfield 19, 3) := by decide +kernel
theorem dX4_endFailure_8 : decode cX4_endFailure 8 = .ok (.aload_n 0, 1) := by decide +kernel
theorem dX4_endFailure_9 : decode cX4_endFailure 9 = .ok (.getfield 19, 3) := by decide +kernel
theorem dX4_endFailure_12 : decode cX4_endFailure 12 = .ok (.ireturn, 1) := by decide +kernel
theorem dX4_currentState_0 : decode cX4_currentState 0 = .ok (.aload_n 0, 1) := by decide +kernel
theorem dX4_currentState_1 : decode cX4_currentState 1 = .ok (.getfield 19, 3) := by decide +kernel
theorem dX4_currentState_4 : decode cX4_currentState 4 = .ok (.ireturn, 1) := by decide +kernel
theorem dX4_nextCommand_0 : decode cX4_nextCommand 0 = .ok (.aload_n 0, 1) := by decide +kernel
theorem dX4_nextCommand_1 : decode cX4_nextCommand 1 = .ok (.getfield 56, 3) := by decide +kernel
theorem dX4_nextCommand_4 : decode cX4_nextCommand 4 = .ok (.ireturn, 1) := by decide +kernel
theorem dX4_currentSpeed_0 : decode cX4_currentSpeed 0 = .ok (.aload_n 0, 1) := by decide +kernel
theorem dX4_currentSpeed_1 : decode cX4_currentSpeed 1 = .ok (.getfield 62, 3) := by decide +kernel
theorem dX4_currentSpeed_4 : decode cX4_currentSpeed 4 = .ok (.ireturn, 1) := by decide +kernel
theorem dX4_ticksPassed_0 : decode cX4_ticksPassed 0 = .ok (.aload_n 0, 1) := by decide +kernel
theorem dX4_ticksPassed_1 : decode cX4_ticksPassed 1 = .ok (.getfield 65, 3) := by decide +kernel
theorem dX4_ticksPassed_4 : decode cX4_ticksPassed 4 = .ok (.lreturn, 1) := by decide +kernel
theorem dX4_laidIn_0 : decode cX4_laidIn 0 = .ok (.iload_n 1, 1) := by decide +kernel
theorem dX4_laidIn_1 : decode cX4_laidIn 1 = .ok (.iload_n 2, 1) := by decide +kernel
theorem dX4_laidIn_2 : decode cX4_laidIn 2 = .ok (.iload_n 3, 1) := by decide +kernel
theorem dX4_laidIn_3 : decode cX4_laidIn 3 = .ok (.invokestatic 150, 3) := by decide +kernel
theorem dX4_laidIn_6 : decode cX4_laidIn 6 = .ok (.ifCond .eq 17, 3) := by decide +kernel
theorem dX4_laidIn_9 : decode cX4_laidIn 9 = .ok (.aload_n 0, 1) := by decide +kernel
theorem dX4_laidIn_10 : decode cX4_laidIn 10 = .ok (.getfield 30, 3) := by decide +kernel
theorem dX4_laidIn_13 : decode cX4_laidIn 13 = .ok (.iload_n 1, 1) := by decide +kernel
theorem dX4_laidIn_14 : decode cX4_laidIn 14 = .ok (.iload_n 2, 1) := by decide +kernel
theorem dX4_laidIn_15 : decode cX4_laidIn 15 = .ok (.iload_n 3, 1) := by decide +kernel
theorem dX4_laidIn_16 : decode cX4_laidIn 16 = .ok (.invokestatic 153, 3) := by decide +kernel
theorem dX4_laidIn_19 : decode cX4_laidIn 19 = .ok (.iaload, 1) := by decide +kernel
theorem dX4_laidIn_20 : decode cX4_laidIn 20 = .ok (.goto 4, 3) := by decide +kernel
theorem dX4_laidIn_23 : decode cX4_laidIn 23 = .ok (.iconst 0, 1) := by decide +kernel
theorem dX4_laidIn_24 : decode cX4_laidIn 24 = .ok (.ireturn, 1) := by decide +kernel
theorem dX4_sumOfLaid_0 : decode cX4_sumOfLaid 0 = .ok (.aload_n 0, 1) := by decide +kernel
theorem dX4_sumOfLaid_1 : decode cX4_sumOfLaid 1 = .ok (.getfield 52, 3) := by decide +kernel
theorem dX4_sumOfLaid_4 : decode cX4_sumOfLaid 4 = .ok (.lreturn, 1) := by decide +kernel
theorem dX5_init_0 : decode cX5_init 0 = .ok (.aload_n 0, 1) := by decide +kernel
theorem dX5_init_1 : decode cX5_init 1 = .ok (.invokespecial 5, 3) := by decide +kernel
theorem dX5_init_4 : decode cX5_init 4 = .ok (.aload_n 0, 1) := by decide +kernel
theorem dX5_init_5 : decode cX5_init 5 = .ok (.aload_n 1, 1) := by decide +kernel
theorem dX5_init_6 : decode cX5_init 6 = .ok (.putfield 11, 3) := by decide +kernel
theorem dX5_init_9 : decode cX5_init 9 = .ok (.aload_n 0, 1) := by decide +kernel
theorem dX5_init_10 : decode cX5_init 10 = .ok (.sipush 144, 3) := by decide +kernel
theorem dX5_init_13 : decode cX5_init 13 = .ok (.newarray .boolean, 2) := by decide +kernel
theorem dX5_init_15 : decode cX5_init 15 = .ok (.putfield 15, 3) := by decide +kernel
theorem dX5_init_18 : decode cX5_init 18 = .ok (.aload_n 0, 1) := by decide +kernel
theorem dX5_init_19 : decode cX5_init 19 = .ok (.sipush 144, 3) := by decide +kernel
theorem dX5_init_22 : decode cX5_init 22 = .ok (.newarray .int, 2) := by decide +kernel
theorem dX5_init_24 : decode cX5_init 24 = .ok (.putfield 19, 3) := by decide +kernel
theorem dX5_init_27 : decode cX5_init 27 = .ok (.aload_n 0, 1) := by decide +kernel
theorem dX5_init_28 : decode cX5_init 28 = .ok (.sipush 676, 3) := by decide +kernel
theorem dX5_init_31 : decode cX5_init 31 = .ok (.newarray .boolean, 2) := by decide +kernel
theorem dX5_init_33 : decode cX5_init 33 = .ok (.putfield 23, 3) := by decide +kernel
theorem dX5_init_36 : decode cX5_init 36 = .ok (.return_, 1) := by decide +kernel
theorem dX6_init_0 : decode cX6_init 0 = .ok (.aload_n 0, 1) := by decide +kernel
theorem dX6_init_1 : decode cX6_init 1 = .ok (.invokespecial 3, 3) := by decide +kernel
theorem dX6_init_4 : decode cX6_init 4 = .ok (.aload_n 0, 1) := by decide +kernel
theorem dX6_init_5 : decode cX6_init 5 = .ok (.aload_n 1, 1) := by decide +kernel
theorem dX6_init_6 : decode cX6_init 6 = .ok (.putfield 9, 3) := by decide +kernel
theorem dX6_init_9 : decode cX6_init 9 = .ok (.aload_n 0, 1) := by decide +kernel
theorem dX6_init_10 : decode cX6_init 10 = .ok (.aload_n 2, 1) := by decide +kernel
theorem dX6_init_11 : decode cX6_init 11 = .ok (.putfield 15, 3) := by decide +kernel
theorem dX6_init_14 : decode cX6_init 14 = .ok (.aload_n 0, 1) := by decide +kernel
theorem dX6_init_15 : decode cX6_init 15 = .ok (.aload_n 3, 1) := by decide +kernel
theorem dX6_init_16 : decode cX6_init 16 = .ok (.putfield 19, 3) := by decide +kernel
theorem dX6_init_19 : decode cX6_init 19 = .ok (.aload_n 0, 1) := by decide +kernel
theorem dX6_init_20 : decode cX6_init 20 = .ok (.sipush 144, 3) := by decide +kernel
theorem dX6_init_23 : decode cX6_init 23 = .ok (.newarray .boolean, 2) := by decide +kernel
theorem dX6_init_25 : decode cX6_init 25 = .ok (.putfield 23, 3) := by decide +kernel
theorem dX6_init_28 : decode cX6_init 28 = .ok (.return_, 1) := by decide +kernel
theorem dX6_makeCommands_0 : decode cX6_makeCommands 0 = .ok (.aload_n 0, 1) := by decide +kernel
theorem dX6_makeCommands_1 : decode cX6_makeCommands 1 = .ok (.getfield 19, 3) := by decide +kernel
theorem dX6_makeCommands_4 : decode cX6_makeCommands 4 = .ok (.invokevirtual 27, 3) := by decide +kernel
theorem dX6_makeCommands_7 : decode cX6_makeCommands 7 = .ok (.aload_n 0, 1) := by decide +kernel
theorem dX6_makeCommands_8 : decode cX6_makeCommands 8 = .ok (.iconst 0, 1) := by decide +kernel
theorem dX6_makeCommands_9 : decode cX6_makeCommands 9 = .ok (.putfield 32, 3) := by decide +kernel
theorem dX6_makeCommands_12 : decode cX6_makeCommands 12 = .ok (.aload_n 0, 1) := by decide +kernel
theorem dX6_makeCommands_13 : decode cX6_makeCommands 13 = .ok (.iconst 0, 1) := by decide +kernel
theorem dX6_makeCommands_14 : decode cX6_makeCommands 14 = .ok (.putfield 36, 3) := by decide +kernel
theorem dX6_makeCommands_17 : decode cX6_makeCommands 17 = .ok (.iconst 0, 1) := by decide +kernel
theorem dX6_makeCommands_18 : decode cX6_makeCommands 18 = .ok (.istore_n 1, 1) := by decide +kernel
theorem dX6_makeCommands_19 : decode cX6_makeCommands 19 = .ok (.iload_n 1, 1) := by decide +kernel
theorem dX6_makeCommands_20 : decode cX6_makeCommands 20 = .ok (.bipush 12, 2) := by decide +kernel
theorem dX6_makeCommands_22 : decode cX6_makeCommands 22 = .ok (.if_icmp .ge 51, 3) := by decide +kernel
theorem dX6_makeCommands_25 : decode cX6_makeCommands 25 = .ok (.aload_n 0, 1) := by decide +kernel
theorem dX6_makeCommands_26 : decode cX6_makeCommands 26 = .ok (.getfield 19, 3) := by decide +kernel
theorem dX6_makeCommands_29 : decode cX6_makeCommands 29 = .ok (.iload_n 1, 1) := by decide +kernel
theorem dX6_makeCommands_30 : decode cX6_makeCommands 30 = .ok (.bipush 10, 2) := by decide +kernel
theorem dX6_makeCommands_32 : decode cX6_makeCommands 32 = .ok (.aload_n 0, 1) := by decide +kernel
theorem dX6_makeCommands_33 : decode cX6_makeCommands 33 = .ok (.getfield 9, 3) := by decide +kernel
theorem dX6_makeCommands_36 : decode cX6_makeCommands 36 = .ok (.iload_n 1, 1) := by decide +kernel
theorem dX6_makeCommands_37 : decode cX6_makeCommands 37 = .ok (.invokevirtual 39, 3) := by decide +kernel
theorem dX6_makeCommands_40 : decode cX6_makeCommands 40 = .ok (.imul, 1) := by decide +kernel
theorem dX6_makeCommands_41 : decode cX6_makeCommands 41 = .ok (.invokevirtual 45, 3) := by decide +kernel
theorem dX6_makeCommands_44 : decode cX6_makeCommands 44 = .ok (.aload_n 0, 1) := by decide +kernel
theorem dX6_makeCommands_45 : decode cX6_makeCommands 45 = .ok (.getfield 15, 3) := by decide +kernel
theorem dX6_makeCommands_48 : decode cX6_makeCommands 48 = .ok (.iload_n 1, 1) := by decide +kernel
theorem dX6_makeCommands_49 : decode cX6_makeCommands 49 = .ok (.invokevirtual 49, 3) := by decide +kernel
theorem dX6_makeCommands_52 : decode cX6_makeCommands 52 = .ok (.aload_n 0, 1) := by decide +kernel
theorem dX6_makeCommands_53 : decode cX6_makeCommands 53 = .ok (.getfield 15, 3) := by decide +kernel
theorem dX6_makeCommands_56 : decode cX6_makeCommands 56 = .ok (.invokevirtual 55, 3) := by decide +kernel
theorem dX6_makeCommands_59 : decode cX6_makeCommands 59 = .ok (.ifCond .le 8, 3) := by decide +kernel
theorem dX6_makeCommands_62 : decode cX6_makeCommands 62 = .ok (.aload_n 0, 1) := by decide +kernel
theorem dX6_makeCommands_63 : decode cX6_makeCommands 63 = .ok (.iload_n 1, 1) := by decide +kernel
theorem dX6_makeCommands_64 : decode cX6_makeCommands 64 = .ok (.invokevirtual 59, 3) := by decide +kernel
theorem dX6_makeCommands_67 : decode cX6_makeCommands 67 = .ok (.iinc 1 1, 3) := by decide +kernel
theorem dX6_makeCommands_70 : decode cX6_makeCommands 70 = .ok (.goto (-51), 3) := by decide +kernel
theorem dX6_makeCommands_73 : decode cX6_makeCommands 73 = .ok (.return_, 1) := by decide +kernel
theorem dX6_planLayer_0 : decode cX6_planLayer 0 = .ok (.aload_n 0, 1) := by decide +kernel
theorem dX6_planLayer_1 : decode cX6_planLayer 1 = .ok (.getfield 19, 3) := by decide +kernel
theorem dX6_planLayer_4 : decode cX6_planLayer 4 = .ok (.bipush 122, 2) := by decide +kernel
theorem dX6_planLayer_6 : decode cX6_planLayer 6 = .ok (.aload_n 0, 1) := by decide +kernel
theorem dX6_planLayer_7 : decode cX6_planLayer 7 = .ok (.getfield 32, 3) := by decide +kernel
theorem dX6_planLayer_10 : decode cX6_planLayer 10 = .ok (.aload_n 0, 1) := by decide +kernel
theorem dX6_planLayer_11 : decode cX6_planLayer 11 = .ok (.getfield 36, 3) := by decide +kernel
theorem dX6_planLayer_14 : decode cX6_planLayer 14 = .ok (.iload_n 1, 1) := by decide +kernel
theorem dX6_planLayer_15 : decode cX6_planLayer 15 = .ok (.invokevirtual 62, 3) := by decide +kernel
theorem dX6_planLayer_18 : decode cX6_planLayer 18 = .ok (.aload_n 0, 1) := by decide +kernel
theorem dX6_planLayer_19 : decode cX6_planLayer 19 = .ok (.getfield 9, 3) := by decide +kernel
theorem dX6_planLayer_22 : decode cX6_planLayer 22 = .ok (.iload_n 1, 1) := by decide +kernel
theorem dX6_planLayer_23 : decode cX6_planLayer 23 = .ok (.invokevirtual 66, 3) := by decide +kernel
theorem dX6_planLayer_26 : decode cX6_planLayer 26 = .ok (.ifCond .eq 21, 3) := by decide +kernel
theorem dX6_planLayer_29 : decode cX6_planLayer 29 = .ok (.aload_n 0, 1) := by decide +kernel
theorem dX6_planLayer_30 : decode cX6_planLayer 30 = .ok (.getfield 19, 3) := by decide +kernel
theorem dX6_planLayer_33 : decode cX6_planLayer 33 = .ok (.bipush 112, 2) := by decide +kernel
theorem dX6_planLayer_35 : decode cX6_planLayer 35 = .ok (.aload_n 0, 1) := by decide +kernel
theorem dX6_planLayer_36 : decode cX6_planLayer 36 = .ok (.getfield 32, 3) := by decide +kernel
theorem dX6_planLayer_39 : decode cX6_planLayer 39 = .ok (.aload_n 0, 1) := by decide +kernel
theorem dX6_planLayer_40 : decode cX6_planLayer 40 = .ok (.getfield 36, 3) := by decide +kernel
theorem dX6_planLayer_43 : decode cX6_planLayer 43 = .ok (.iload_n 1, 1) := by decide +kernel
theorem dX6_planLayer_44 : decode cX6_planLayer 44 = .ok (.invokevirtual 62, 3) := by decide +kernel
theorem dX6_planLayer_47 : decode cX6_planLayer 47 = .ok (.iconst 0, 1) := by decide +kernel
theorem dX6_planLayer_48 : decode cX6_planLayer 48 = .ok (.istore_n 2, 1) := by decide +kernel
theorem dX6_planLayer_49 : decode cX6_planLayer 49 = .ok (.iload_n 2, 1) := by decide +kernel
theorem dX6_planLayer_50 : decode cX6_planLayer 50 = .ok (.aload_n 0, 1) := by decide +kernel
theorem dX6_planLayer_51 : decode cX6_planLayer 51 = .ok (.getfield 23, 3) := by decide +kernel
theorem dX6_planLayer_54 : decode cX6_planLayer 54 = .ok (.arraylength, 1) := by decide +kernel
theorem dX6_planLayer_55 : decode cX6_planLayer 55 = .ok (.if_icmp .ge 16, 3) := by decide +kernel
theorem dX6_planLayer_58 : decode cX6_planLayer 58 = .ok (.aload_n 0, 1) := by decide +kernel
theorem dX6_planLayer_59 : decode cX6_planLayer 59 = .ok (.getfield 23, 3) := by decide +kernel
theorem dX6_planLayer_62 : decode cX6_planLayer 62 = .ok (.iload_n 2, 1) := by decide +kernel
theorem dX6_planLayer_63 : decode cX6_planLayer 63 = .ok (.iconst 0, 1) := by decide +kernel
theorem dX6_planLayer_64 : decode cX6_planLayer 64 = .ok (.bastore, 1) := by decide +kernel
theorem dX6_planLayer_65 : decode cX6_planLayer 65 = .ok (.iinc 2 1, 3) := by decide +kernel
theorem dX6_planLayer_68 : decode cX6_planLayer 68 = .ok (.goto (-19), 3) := by decide +kernel
theorem dX6_planLayer_71 : decode cX6_planLayer 71 = .ok (.iconst 0, 1) := by decide +kernel
theorem dX6_planLayer_72 : decode cX6_planLayer 72 = .ok (.istore_n 2, 1) := by decide +kernel
theorem dX6_planLayer_73 : decode cX6_planLayer 73 = .ok (.iload_n 2, 1) := by decide +kernel
theorem dX6_planLayer_74 : decode cX6_planLayer 74 = .ok (.aload_n 0, 1) := by decide +kernel
theorem dX6_planLayer_75 : decode cX6_planLayer 75 = .ok (.getfield 15, 3) := by decide +kernel
theorem dX6_planLayer_78 : decode cX6_planLayer 78 = .ok (.invokevirtual 55, 3) := by decide +kernel
theorem dX6_planLayer_81 : decode cX6_planLayer 81 = .ok (.if_icmp .ge 40, 3) := by decide +kernel
theorem dX6_planLayer_84 : decode cX6_planLayer 84 = .ok (.aload_n 0, 1) := by decide +kernel
theorem dX6_planLayer_85 : decode cX6_planLayer 85 = .ok (.invokevirtual 70, 3) := by decide +kernel
theorem dX6_planLayer_88 : decode cX6_planLayer 88 = .ok (.istore_n 3, 1) := by decide +kernel
theorem dX6_planLayer_89 : decode cX6_planLayer 89 = .ok (.iload_n 3, 1) := by decide +kernel
theorem dX6_planLayer_90 : decode cX6_planLayer 90 = .ok (.ifCond .lt 25, 3) := by decide +kernel
theorem dX6_planLayer_93 : decode cX6_planLayer 93 = .ok (.iload_n 3, 1) := by decide +kernel
theorem dX6_planLayer_94 : decode cX6_planLayer 94 = .ok (.aload_n 0, 1) := by decide +kernel
theorem dX6_planLayer_95 : decode cX6_planLayer 95 = .ok (.getfield 23, 3) := by decide +kernel
theorem dX6_planLayer_98 : decode cX6_planLayer 98 = .ok (.arraylength, 1) := by decide +kernel
theorem dX6_planLayer_99 : decode cX6_planLayer 99 = .ok (.if_icmp .ge 16, 3) := by decide +kernel
theorem dX6_planLayer_102 : decode cX6_planLayer 102 = .ok (.aload_n 0, 1) := by decide +kernel
theorem dX6_planLayer_103 : decode cX6_planLayer 103 = .ok (.getfield 23, 3) := by decide +kernel
theorem dX6_planLayer_106 : decode cX6_planLayer 106 = .ok (.iload_n 3, 1) := by decide +kernel
theorem dX6_planLayer_107 : decode cX6_planLayer 107 = .ok (.iconst 1, 1) := by decide +kernel
theorem dX6_planLayer_108 : decode cX6_planLayer 108 = .ok (.bastore, 1) := by decide +kernel
theorem dX6_planLayer_109 : decode cX6_planLayer 109 = .ok (.aload_n 0, 1) := by decide +kernel
theorem dX6_planLayer_110 : decode cX6_planLayer 110 = .ok (.iload_n 3, 1) := by decide +kernel
theorem dX6_planLayer_111 : decode cX6_planLayer 111 = .ok (.iload_n 1, 1) := by decide +kernel
theorem dX6_planLayer_112 : decode cX6_planLayer 112 = .ok (.invokevirtual 73, 3) := by decide +kernel
theorem dX6_planLayer_115 : decode cX6_planLayer 115 = .ok (.iinc 2 1, 3) := by decide +kernel
theorem dX6_planLayer_118 : decode cX6_planLayer 118 = .ok (.goto (-45), 3) := by decide +kernel
theorem dX6_planLayer_121 : decode cX6_planLayer 121 = .ok (.return_, 1) := by decide +kernel
theorem dX6_nearestStroke_0 : decode cX6_nearestStroke 0 = .ok (.iconst (-1), 1) := by decide +kernel
theorem dX6_nearestStroke_1 : decode cX6_nearestStroke 1 = .ok (.istore_n 1, 1) := by decide +kernel
theorem dX6_nearestStroke_2 : decode cX6_nearestStroke 2 = .ok (.iconst 0, 1) := by decide +kernel
theorem dX6_nearestStroke_3 : decode cX6_nearestStroke 3 = .ok (.istore_n 2, 1) := by decide +kernel
theorem dX6_nearestStroke_4 : decode cX6_nearestStroke 4 = .ok (.iconst 0, 1) := by decide +kernel
theorem dX6_nearestStroke_5 : decode cX6_nearestStroke 5 = .ok (.istore_n 3, 1) := by decide +kernel
theorem dX6_nearestStroke_6 : decode cX6_nearestStroke 6 = .ok (.iload_n 3, 1) := by decide +kernel
theorem dX6_nearestStroke_7 : decode cX6_nearestStroke 7 = .ok (.aload_n 0, 1) := by decide +kernel
theorem dX6_nearestStroke_8 : decode cX6_nearestStroke 8 = .ok (.getfield 15, 3) := by decide +kernel
theorem dX6_nearestStroke_11 : decode cX6_nearestStroke 11 = .ok (.invokevirtual 55, 3) := by decide +kernel
theorem dX6_nearestStroke_14 : decode cX6_nearestStroke 14 = .ok (.if_icmp .ge 78, 3) := by decide +kernel
theorem dX6_nearestStroke_17 : decode cX6_nearestStroke 17 = .ok (.iload_n 3, 1) := by decide +kernel
theorem dX6_nearestStroke_18 : decode cX6_nearestStroke 18 = .ok (.aload_n 0, 1) := by decide +kernel
theorem dX6_nearestStroke_19 : decode cX6_nearestStroke 19 = .ok (.getfield 23, 3) := by decide +kernel
theorem dX6_nearestStroke_22 : decode cX6_nearestStroke 22 = .ok (.arraylength, 1) := by decide +kernel
theorem dX6_nearestStroke_23 : decode cX6_nearestStroke 23 = .ok (.if_icmp .ge 69, 3) := by decide +kernel
theorem dX6_nearestStroke_26 : decode cX6_nearestStroke 26 = .ok (.aload_n 0, 1) := by decide +kernel
theorem dX6_nearestStroke_27 : decode cX6_nearestStroke 27 = .ok (.getfield 23, 3) := by decide +kernel
theorem dX6_nearestStroke_30 : decode cX6_nearestStroke 30 = .ok (.iload_n 3, 1) := by decide +kernel
theorem dX6_nearestStroke_31 : decode cX6_nearestStroke 31 = .ok (.baload, 1) := by decide +kernel
theorem dX6_nearestStroke_32 : decode cX6_nearestStroke 32 = .ok (.ifCond .eq 6, 3) := by decide +kernel
theorem dX6_nearestStroke_35 : decode cX6_nearestStroke 35 = .ok (.goto 51, 3) := by decide +kernel
theorem dX6_nearestStroke_38 : decode cX6_nearestStroke 38 = .ok (.iload_n 1, 1) := by decide +kernel
theorem dX6_nearestStroke_39 : decode cX6_nearestStroke 39 = .ok (.ifCond .lt 25, 3) := by decide +kernel
theorem dX6_nearestStroke_42 : decode cX6_nearestStroke 42 = .ok (.aload_n 0, 1) := by decide +kernel
theorem dX6_nearestStroke_43 : decode cX6_nearestStroke 43 = .ok (.getfield 15, 3) := by decide +kernel
theorem dX6_nearestStroke_46 : decode cX6_nearestStroke 46 = .ok (.iload_n 3, 1) := by decide +kernel
theorem dX6_nearestStroke_47 : decode cX6_nearestStroke 47 = .ok (.invokevirtual 76, 3) := by decide +kernel
theorem dX6_nearestStroke_50 : decode cX6_nearestStroke 50 = .ok (.aload_n 0, 1) := by decide +kernel
theorem dX6_nearestStroke_51 : decode cX6_nearestStroke 51 = .ok (.getfield 15, 3) := by decide +kernel
theorem dX6_nearestStroke_54 : decode cX6_nearestStroke 54 = .ok (.iload_n 1, 1) := by decide +kernel
theorem dX6_nearestStroke_55 : decode cX6_nearestStroke 55 = .ok (.invokevirtual 76, 3) := by decide +kernel
theorem dX6_nearestStroke_58 : decode cX6_nearestStroke 58 = .ok (.if_icmp .eq 6, 3) := by decide +kernel
theorem dX6_nearestStroke_61 : decode cX6_nearestStroke 61 = .ok (.goto 31, 3) := by decide +kernel
theorem dX6_nearestStroke_64 : decode cX6_nearestStroke 64 = .ok (.aload_n 0, 1) := by decide +kernel
theorem dX6_nearestStroke_65 : decode cX6_nearestStroke 65 = .ok (.iload_n 3, 1) := by decide +kernel
theorem dX6_nearestStroke_66 : decode cX6_nearestStroke 66 = .ok (.invokevirtual 80, 3) := by decide +kernel
theorem dX6_nearestStroke_69 : decode cX6_nearestStroke 69 = .ok (.istore 4, 2) := by decide +kernel
theorem dX6_nearestStroke_71 : decode cX6_nearestStroke 71 = .ok (.iload_n 1, 1) := by decide +kernel
theorem dX6_nearestStroke_72 : decode cX6_nearestStroke 72 = .ok (.ifCond .lt 9, 3) := by decide +kernel
theorem dX6_nearestStroke_75 : decode cX6_nearestStroke 75 = .ok (.iload 4, 2) := by decide +kernel
theorem dX6_nearestStroke_77 : decode cX6_nearestStroke 77 = .ok (.iload_n 2, 1) := by decide +kernel
theorem dX6_nearestStroke_78 : decode cX6_nearestStroke 78 = .ok (.if_icmp .ge 8, 3) := by decide +kernel
theorem dX6_nearestStroke_81 : decode cX6_nearestStroke 81 = .ok (.iload_n 3, 1) := by decide +kernel
theorem dX6_nearestStroke_82 : decode cX6_nearestStroke 82 = .ok (.istore_n 1, 1) := by decide +kernel
theorem dX6_nearestStroke_83 : decode cX6_nearestStroke 83 = .ok (.iload 4, 2) := by decide +kernel
theorem dX6_nearestStroke_85 : decode cX6_nearestStroke 85 = .ok (.istore_n 2, 1) := by decide +kernel
theorem dX6_nearestStroke_86 : decode cX6_nearestStroke 86 = .ok (.iinc 3 1, 3) := by decide +kernel
theorem dX6_nearestStroke_89 : decode cX6_nearestStroke 89 = .ok (.goto (-83), 3) := by decide +kernel
theorem dX6_nearestStroke_92 : decode cX6_nearestStroke 92 = .ok (.iload_n 1, 1) := by decide +kernel
theorem dX6_nearestStroke_93 : decode cX6_nearestStroke 93 = .ok (.ireturn, 1) := by decide +kernel
theorem dX6_distanceOf_0 : decode cX6_distanceOf 0 = .ok (.aload_n 0, 1) := by decide +kernel
theorem dX6_distanceOf_1 : decode cX6_distanceOf 1 = .ok (.iload_n 1, 1) := by decide +kernel
theorem dX6_distanceOf_2 : decode cX6_distanceOf 2 = .ok (.iconst 1, 1) := by decide +kernel
theorem dX6_distanceOf_3 : decode cX6_distanceOf 3 = .ok (.invokevirtual 83, 3) := by decide +kernel
theorem dX6_distanceOf_6 : decode cX6_distanceOf 6 = .ok (.aload_n 0, 1) := by decide +kernel
theorem dX6_distanceOf_7 : decode cX6_distanceOf 7 = .ok (.iload_n 1, 1) := by decide +kernel
theorem dX6_distanceOf_8 : decode cX6_distanceOf 8 = .ok (.iconst 0, 1) := by decide +kernel
theorem dX6_distanceOf_9 : decode cX6_distanceOf 9 = .ok (.invokevirtual 83, 3) := by decide +kernel
theorem dX6_distanceOf_12 : decode cX6_distanceOf 12 = .ok (.invokestatic 87, 3) := by decide +kernel
theorem dX6_distanceOf_15 : decode cX6_distanceOf 15 = .ok (.ireturn, 1) := by decide +kernel
theorem dX6_distanceOfEnd_0 : decode cX6_distanceOfEnd 0 = .ok (.aload_n 0, 1) := by decide +kernel
theorem dX6_distanceOfEnd_1 : decode cX6_distanceOfEnd 1 = .ok (.getfield 32, 3) := by decide +kernel
theorem dX6_distanceOfEnd_4 : decode cX6_distanceOfEnd 4 = .ok (.aload_n 0, 1) := by decide +kernel
theorem dX6_distanceOfEnd_5 : decode cX6_distanceOfEnd 5 = .ok (.getfield 36, 3) := by decide +kernel
theorem dX6_distanceOfEnd_8 : decode cX6_distanceOfEnd 8 = .ok (.aload_n 0, 1) := by decide +kernel
theorem dX6_distanceOfEnd_9 : decode cX6_distanceOfEnd 9 = .ok (.getfield 15, 3) := by decide +kernel
theorem dX6_distanceOfEnd_12 : decode cX6_distanceOfEnd 12 = .ok (.iload_n 1, 1) := by decide +kernel
theorem dX6_distanceOfEnd_13 : decode cX6_distanceOfEnd 13 = .ok (.iload_n 2, 1) := by decide +kernel
theorem dX6_distanceOfEnd_14 : decode cX6_distanceOfEnd 14 = .ok (.invokevirtual 93, 3) := by decide +kernel
theorem dX6_distanceOfEnd_17 : decode cX6_distanceOfEnd 17 = .ok (.aload_n 0, 1) := by decide +kernel
theorem dX6_distanceOfEnd_18 : decode cX6_distanceOfEnd 18 = .ok (.getfield 15, 3) := by decide +kernel
theorem dX6_distanceOfEnd_21 : decode cX6_distanceOfEnd 21 = .ok (.iload_n 1, 1) := by decide +kernel
theorem dX6_distanceOfEnd_22 : decode cX6_distanceOfEnd 22 = .ok (.iload_n 2, 1) := by decide +kernel
theorem dX6_distanceOfEnd_23 : decode cX6_distanceOfEnd 23 = .ok (.invokevirtual 96, 3) := by decide +kernel
theorem dX6_distanceOfEnd_26 : decode cX6_distanceOfEnd 26 = .ok (.invokestatic 99, 3) := by decide +kernel
theorem dX6_distanceOfEnd_29 : decode cX6_distanceOfEnd 29 = .ok (.ireturn, 1) := by decide +kernel
theorem dX6_planStroke_0 : decode cX6_planStroke 0 = .ok (.aload_n 0, 1) := by decide +kernel
theorem dX6_planStroke_1 : decode cX6_planStroke 1 = .ok (.iload_n 1, 1) := by decide +kernel
theorem dX6_planStroke_2 : decode cX6_planStroke 2 = .ok (.iconst 1, 1) := by decide +kernel
theorem dX6_planStroke_3 : decode cX6_planStroke 3 = .ok (.invokevirtual 83, 3) := by decide +kernel
theorem dX6_planStroke_6 : decode cX6_planStroke 6 = .ok (.aload_n 0, 1) := by decide +kernel
theorem dX6_planStroke_7 : decode cX6_planStroke 7 = .ok (.iload_n 1, 1) := by decide +kernel
theorem dX6_planStroke_8 : decode cX6_planStroke 8 = .ok (.iconst 0, 1) := by decide +kernel
theorem dX6_planStroke_9 : decode cX6_planStroke 9 = .ok (.invokevirtual 83, 3) := by decide +kernel
theorem dX6_planStroke_12 : decode cX6_planStroke 12 = .ok (.if_icmp .gt 7, 3) := by decide +kernel
theorem dX6_planStroke_15 : decode cX6_planStroke 15 = .ok (.iconst 1, 1) := by decide +kernel
theorem dX6_planStroke_16 : decode cX6_planStroke 16 = .ok (.goto 4, 3) := by decide +kernel
theorem dX6_planStroke_19 : decode cX6_planStroke 19 = .ok (.iconst 0, 1) := by decide +kernel
theorem dX6_planStroke_20 : decode cX6_planStroke 20 = .ok (.istore_n 3, 1) := by decide +kernel
theorem dX6_planStroke_21 : decode cX6_planStroke 21 = .ok (.aload_n 0, 1) := by decide +kernel
theorem dX6_planStroke_22 : decode cX6_planStroke 22 = .ok (.iload_n 1, 1) := by decide +kernel
theorem dX6_planStroke_23 : decode cX6_planStroke 23 = .ok (.invokevirtual 80, 3) := by decide +kernel
theorem dX6_planStroke_26 : decode cX6_planStroke 26 = .ok (.istore 4, 2) := by decide +kernel
theorem dX6_planStroke_28 : decode cX6_planStroke 28 = .ok (.iload 4, 2) := by decide +kernel
theorem dX6_planStroke_30 : decode cX6_planStroke 30 = .ok (.aload_n 0, 1) := by decide +kernel
theorem dX6_planStroke_31 : decode cX6_planStroke 31 = .ok (.getfield 9, 3) := by decide +kernel
theorem dX6_planStroke_34 : decode cX6_planStroke 34 = .ok (.invokevirtual 103, 3) := by decide +kernel
theorem dX6_planStroke_37 : decode cX6_planStroke 37 = .ok (.if_icmp .le 7, 3) := by decide +kernel
theorem dX6_planStroke_40 : decode cX6_planStroke 40 = .ok (.iconst 1, 1) := by decide +kernel
theorem dX6_planStroke_41 : decode cX6_planStroke 41 = .ok (.goto 4, 3) := by decide +kernel
theorem dX6_planStroke_44 : decode cX6_planStroke 44 = .ok (.iconst 0, 1) := by decide +kernel
theorem dX6_planStroke_45 : decode cX6_planStroke 45 = .ok (.istore 5, 2) := by decide +kernel
theorem dX6_planStroke_47 : decode cX6_planStroke 47 = .ok (.iload 5, 2) := by decide +kernel
theorem dX6_planStroke_49 : decode cX6_planStroke 49 = .ok (.ifCond .eq 21, 3) := by decide +kernel
theorem dX6_planStroke_52 : decode cX6_planStroke 52 = .ok (.aload_n 0, 1) := by decide +kernel
theorem dX6_planStroke_53 : decode cX6_planStroke 53 = .ok (.getfield 19, 3) := by decide +kernel
theorem dX6_planStroke_56 : decode cX6_planStroke 56 = .ok (.bipush 114, 2) := by decide +kernel
theorem dX6_planStroke_58 : decode cX6_planStroke 58 = .ok (.aload_n 0, 1) := by decide +kernel
theorem dX6_planStroke_59 : decode cX6_planStroke 59 = .ok (.getfield 32, 3) := by decide +kernel
theorem dX6_planStroke_62 : decode cX6_planStroke 62 = .ok (.aload_n 0, 1) := by decide +kernel
theorem dX6_planStroke_63 : decode cX6_planStroke 63 = .ok (.getfield 36, 3) := by decide +kernel
theorem dX6_planStroke_66 : decode cX6_planStroke 66 = .ok (.iload_n 2, 1) := by decide +kernel
theorem dX6_planStroke_67 : decode cX6_planStroke 67 = .ok (.invokevirtual 62, 3) := by decide +kernel
theorem dX6_planStroke_70 : decode cX6_planStroke 70 = .ok (.iload 4, 2) := by decide +kernel
theorem dX6_planStroke_72 : decode cX6_planStroke 72 = .ok (.ifCond .le 47, 3) := by decide +kernel
theorem dX6_planStroke_75 : decode cX6_planStroke 75 = .ok (.aload_n 0, 1) := by decide +kernel
theorem dX6_planStroke_76 : decode cX6_planStroke 76 = .ok (.aload_n 0, 1) := by decide +kernel
theorem dX6_planStroke_77 : decode cX6_planStroke 77 = .ok (.getfield 15, 3) := by decide +kernel
theorem dX6_planStroke_80 : decode cX6_planStroke 80 = .ok (.iload_n 1, 1) := by decide +kernel
theorem dX6_planStroke_81 : decode cX6_planStroke 81 = .ok (.iload_n 3, 1) := by decide +kernel
theorem dX6_planStroke_82 : decode cX6_planStroke 82 = .ok (.invokevirtual 93, 3) := by decide +kernel
theorem dX6_planStroke_85 : decode cX6_planStroke 85 = .ok (.putfield 32, 3) := by decide +kernel
theorem dX6_planStroke_88 : decode cX6_planStroke 88 = .ok (.aload_n 0, 1) := by decide +kernel
theorem dX6_planStroke_89 : decode cX6_planStroke 89 = .ok (.aload_n 0, 1) := by decide +kernel
theorem dX6_planStroke_90 : decode cX6_planStroke 90 = .ok (.getfield 15, 3) := by decide +kernel
theorem dX6_planStroke_93 : decode cX6_planStroke 93 = .ok (.iload_n 1, 1) := by decide +kernel
theorem dX6_planStroke_94 : decode cX6_planStroke 94 = .ok (.iload_n 3, 1) := by decide +kernel
theorem dX6_planStroke_95 : decode cX6_planStroke 95 = .ok (.invokevirtual 96, 3) := by decide +kernel
theorem dX6_planStroke_98 : decode cX6_planStroke 98 = .ok (.putfield 36, 3) := by decide +kernel
theorem dX6_planStroke_101 : decode cX6_planStroke 101 = .ok (.aload_n 0, 1) := by decide +kernel
theorem dX6_planStroke_102 : decode cX6_planStroke 102 = .ok (.getfield 19, 3) := by decide +kernel
theorem dX6_planStroke_105 : decode cX6_planStroke 105 = .ok (.bipush 103, 2) := by decide +kernel
theorem dX6_planStroke_107 : decode cX6_planStroke 107 = .ok (.aload_n 0, 1) := by decide +kernel
theorem dX6_planStroke_108 : decode cX6_planStroke 108 = .ok (.getfield 32, 3) := by decide +kernel
theorem dX6_planStroke_111 : decode cX6_planStroke 111 = .ok (.aload_n 0, 1) := by decide +kernel
theorem dX6_planStroke_112 : decode cX6_planStroke 112 = .ok (.getfield 36, 3) := by decide +kernel
theorem dX6_planStroke_115 : decode cX6_planStroke 115 = .ok (.iload_n 2, 1) := by decide +kernel
theorem dX6_planStroke_116 : decode cX6_planStroke 116 = .ok (.invokevirtual 62, 3) := by decide +kernel
theorem dX6_planStroke_119 : decode cX6_planStroke 119 = .ok (.iload 5, 2) := by decide +kernel
theorem dX6_planStroke_121 : decode cX6_planStroke 121 = .ok (.ifCond .eq 21, 3) := by decide +kernel
theorem dX6_planStroke_124 : decode cX6_planStroke 124 = .ok (.aload_n 0, 1) := by decide +kernel
theorem dX6_planStroke_125 : decode cX6_planStroke 125 = .ok (.getfield 19, 3) := by decide +kernel
theorem dX6_planStroke_128 : decode cX6_planStroke 128 = .ok (.bipush 117, 2) := by decide +kernel
theorem dX6_planStroke_130 : decode cX6_planStroke 130 = .ok (.aload_n 0, 1) := by decide +kernel
theorem dX6_planStroke_131 : decode cX6_planStroke 131 = .ok (.getfield 32, 3) := by decide +kernel
theorem dX6_planStroke_134 : decode cX6_planStroke 134 = .ok (.aload_n 0, 1) := by decide +kernel
theorem dX6_planStroke_135 : decode cX6_planStroke 135 = .ok (.getfield 36, 3) := by decide +kernel
theorem dX6_planStroke_138 : decode cX6_planStroke 138 = .ok (.iload_n 2, 1) := by decide +kernel
theorem dX6_planStroke_139 : decode cX6_planStroke 139 = .ok (.invokevirtual 62, 3) := by decide +kernel
theorem dX6_planStroke_142 : decode cX6_planStroke 142 = .ok (.aload_n 0, 1) := by decide +kernel
theorem dX6_planStroke_143 : decode cX6_planStroke 143 = .ok (.aload_n 0, 1) := by decide +kernel
theorem dX6_planStroke_144 : decode cX6_planStroke 144 = .ok (.getfield 15, 3) := by decide +kernel
theorem dX6_planStroke_147 : decode cX6_planStroke 147 = .ok (.iload_n 1, 1) := by decide +kernel
theorem dX6_planStroke_148 : decode cX6_planStroke 148 = .ok (.iload_n 3, 1) := by decide +kernel
theorem dX6_planStroke_149 : decode cX6_planStroke 149 = .ok (.ifCond .ne 7, 3) := by decide +kernel
theorem dX6_planStroke_152 : decode cX6_planStroke 152 = .ok (.iconst 1, 1) := by decide +kernel
theorem dX6_planStroke_153 : decode cX6_planStroke 153 = .ok (.goto 4, 3) := by decide +kernel
theorem dX6_planStroke_156 : decode cX6_planStroke 156 = .ok (.iconst 0, 1) := by decide +kernel
theorem dX6_planStroke_157 : decode cX6_planStroke 157 = .ok (.invokevirtual 93, 3) := by decide +kernel
theorem dX6_planStroke_160 : decode cX6_planStroke 160 = .ok (.putfield 32, 3) := by decide +kernel
theorem dX6_planStroke_163 : decode cX6_planStroke 163 = .ok (.aload_n 0, 1) := by decide +kernel
theorem dX6_planStroke_164 : decode cX6_planStroke 164 = .ok (.aload_n 0, 1) := by decide +kernel
theorem dX6_planStroke_165 : decode cX6_planStroke 165 = .ok (.getfield 15, 3) := by decide +kernel
theorem dX6_planStroke_168 : decode cX6_planStroke 168 = .ok (.iload_n 1, 1) := by decide +kernel
theorem dX6_planStroke_169 : decode cX6_planStroke 169 = .ok (.iload_n 3, 1) := by decide +kernel
theorem dX6_planStroke_170 : decode cX6_planStroke 170 = .ok (.ifCond .ne 7, 3) := by decide +kernel
theorem dX6_planStroke_173 : decode cX6_planStroke 173 = .ok (.iconst 1, 1) := by decide +kernel
theorem dX6_planStroke_174 : decode cX6_planStroke 174 = .ok (.goto 4, 3) := by decide +kernel
theorem dX6_planStroke_177 : decode cX6_planStroke 177 = .ok (.iconst 0, 1) := by decide +kernel
theorem dX6_planStroke_178 : decode cX6_planStroke 178 = .ok (.invokevirtual 96, 3) := by decide +kernel
theorem dX6_planStroke_181 : decode cX6_planStroke 181 = .ok (.putfield 36, 3) := by decide +kernel
theorem dX6_planStroke_184 : decode cX6_planStroke 184 = .ok (.aload_n 0, 1) := by decide +kernel
theorem dX6_planStroke_185 : decode cX6_planStroke 185 = .ok (.getfield 19, 3) := by decide +kernel
theorem dX6_planStroke_188 : decode cX6_planStroke 188 = .ok (.bipush 100, 2) := by decide +kernel
theorem dX6_planStroke_190 : decode cX6_planStroke 190 = .ok (.aload_n 0, 1) := by decide +kernel
theorem dX6_planStroke_191 : decode cX6_planStroke 191 = .ok (.getfield 32, 3) := by decide +kernel
theorem dX6_planStroke_194 : decode cX6_planStroke 194 = .ok (.aload_n 0, 1) := by decide +kernel
theorem dX6_planStroke_195 : decode cX6_planStroke 195 = .ok (.getfield 36, 3) := by decide +kernel
theorem dX6_planStroke_198 : decode cX6_planStroke 198 = .ok (.iload_n 2, 1) := by decide +kernel
theorem dX6_planStroke_199 : decode cX6_planStroke 199 = .ok (.invokevirtual 62, 3) := by decide +kernel
theorem dX6_planStroke_202 : decode cX6_planStroke 202 = .ok (.return_, 1) := by decide +kernel
theorem dX7_init_0 : decode cX7_init 0 = .ok (.aload_n 0, 1) := by decide +kernel
theorem dX7_init_1 : decode cX7_init 1 = .ok (.invokespecial 3, 3) := by decide +kernel
theorem dX7_init_4 : decode cX7_init 4 = .ok (.aload_n 0, 1) := by decide +kernel
theorem dX7_init_5 : decode cX7_init 5 = .ok (.iconst 1, 1) := by decide +kernel
theorem dX7_init_6 : decode cX7_init 6 = .ok (.putfield 9, 3) := by decide +kernel
theorem dX7_init_9 : decode cX7_init 9 = .ok (.aload_n 0, 1) := by decide +kernel
theorem dX7_init_10 : decode cX7_init 10 = .ok (.iconst 1, 1) := by decide +kernel
theorem dX7_init_11 : decode cX7_init 11 = .ok (.putfield 15, 3) := by decide +kernel
theorem dX7_init_14 : decode cX7_init 14 = .ok (.aload_n 0, 1) := by decide +kernel
theorem dX7_init_15 : decode cX7_init 15 = .ok (.iconst 3, 1) := by decide +kernel
theorem dX7_init_16 : decode cX7_init 16 = .ok (.putfield 18, 3) := by decide +kernel
theorem dX7_init_19 : decode cX7_init 19 = .ok (.aload_n 0, 1) := by decide +kernel
theorem dX7_init_20 : decode cX7_init 20 = .ok (.iconst 0, 1) := by decide +kernel
theorem dX7_init_21 : decode cX7_init 21 = .ok (.putfield 21, 3) := by decide +kernel
theorem dX7_init_24 : decode cX7_init 24 = .ok (.aload_n 0, 1) := by decide +kernel
theorem dX7_init_25 : decode cX7_init 25 = .ok (.iconst 0, 1) := by decide +kernel
theorem dX7_init_26 : decode cX7_init 26 = .ok (.putfield 24, 3) := by decide +kernel
theorem dX7_init_29 : decode cX7_init 29 = .ok (.aload_n 0, 1) := by decide +kernel
theorem dX7_init_30 : decode cX7_init 30 = .ok (.iconst 4, 1) := by decide +kernel
theorem dX7_init_31 : decode cX7_init 31 = .ok (.putfield 27, 3) := by decide +kernel
theorem dX7_init_34 : decode cX7_init 34 = .ok (.aload_n 0, 1) := by decide +kernel
theorem dX7_init_35 : decode cX7_init 35 = .ok (.bipush 108, 2) := by decide +kernel
theorem dX7_init_37 : decode cX7_init 37 = .ok (.putfield 30, 3) := by decide +kernel
theorem dX7_init_40 : decode cX7_init 40 = .ok (.aload_n 0, 1) := by decide +kernel
theorem dX7_init_41 : decode cX7_init 41 = .ok (.bipush 12, 2) := by decide +kernel
theorem dX7_init_43 : decode cX7_init 43 = .ok (.newarray .int, 2) := by decide +kernel
theorem dX7_init_45 : decode cX7_init 45 = .ok (.putfield 34, 3) := by decide +kernel
theorem dX7_init_48 : decode cX7_init 48 = .ok (.aload_n 0, 1) := by decide +kernel
theorem dX7_init_49 : decode cX7_init 49 = .ok (.bipush 12, 2) := by decide +kernel
theorem dX7_init_51 : decode cX7_init 51 = .ok (.newarray .boolean, 2) := by decide +kernel
theorem dX7_init_53 : decode cX7_init 53 = .ok (.putfield 38, 3) := by decide +kernel
theorem dX7_init_56 : decode cX7_init 56 = .ok (.aload_n 0, 1) := by decide +kernel
theorem dX7_init_57 : decode cX7_init 57 = .ok (.getfield 34, 3) := by decide +kernel
theorem dX7_init_60 : decode cX7_init 60 = .ok (.iconst 1, 1) := by decide +kernel
theorem dX7_init_61 : decode cX7_init 61 = .ok (.invokestatic 42, 3) := by decide +kernel
theorem dX7_init_64 : decode cX7_init 64 = .ok (.return_, 1) := by decide +kernel
theorem dX7_isAllowed_0 : decode cX7_isAllowed 0 = .ok (.iload_n 0, 1) := by decide +kernel
theorem dX7_isAllowed_1 : decode cX7_isAllowed 1 = .ok (.bipush 119, 2) := by decide +kernel
theorem dX7_isAllowed_3 : decode cX7_isAllowed 3 = .ok (.if_icmp .eq 9, 3) := by decide +kernel
theorem dX7_isAllowed_6 : decode cX7_isAllowed 6 = .ok (.iload_n 0, 1) := by decide +kernel
theorem dX7_isAllowed_7 : decode cX7_isAllowed 7 = .ok (.bipush 100, 2) := by decide +kernel
theorem dX7_isAllowed_9 : decode cX7_isAllowed 9 = .ok (.if_icmp .ne 7, 3) := by decide +kernel
theorem dX7_isAllowed_12 : decode cX7_isAllowed 12 = .ok (.iconst 1, 1) := by decide +kernel
theorem dX7_isAllowed_13 : decode cX7_isAllowed 13 = .ok (.goto 4, 3) := by decide +kernel
theorem dX7_isAllowed_16 : decode cX7_isAllowed 16 = .ok (.iconst 0, 1) := by decide +kernel
theorem dX7_isAllowed_17 : decode cX7_isAllowed 17 = .ok (.istore_n 2, 1) := by decide +kernel
theorem dX7_isAllowed_18 : decode cX7_isAllowed 18 = .ok (.iload_n 1, 1) := by decide +kernel
theorem dX7_isAllowed_19 : decode cX7_isAllowed 19 = .ok (.iload_n 2, 1) := by decide +kernel
theorem dX7_isAllowed_20 : decode cX7_isAllowed 20 = .ok (.if_icmp .lt 15, 3) := by decide +kernel
theorem dX7_isAllowed_23 : decode cX7_isAllowed 23 = .ok (.iload_n 1, 1) := by decide +kernel
theorem dX7_isAllowed_24 : decode cX7_isAllowed 24 = .ok (.iload_n 0, 1) := by decide +kernel
theorem dX7_isAllowed_25 : decode cX7_isAllowed 25 = .ok (.invokestatic 48, 3) := by decide +kernel
theorem dX7_isAllowed_28 : decode cX7_isAllowed 28 = .ok (.if_icmp .gt 7, 3) := by decide +kernel
theorem dX7_isAllowed_31 : decode cX7_isAllowed 31 = .ok (.iconst 1, 1) := by decide +kernel
theorem dX7_isAllowed_32 : decode cX7_isAllowed 32 = .ok (.goto 4, 3) := by decide +kernel
theorem dX7_isAllowed_35 : decode cX7_isAllowed 35 = .ok (.iconst 0, 1) := by decide +kernel
theorem dX7_isAllowed_36 : decode cX7_isAllowed 36 = .ok (.ireturn, 1) := by decide +kernel
theorem dX7_greatestOf_0 : decode cX7_greatestOf 0 = .ok (.iload_n 0, 1) := by decide +kernel
theorem dX7_greatestOf_1 : decode cX7_greatestOf 1 = .ok (.tableswitch 107 100 119 #[97, 107, 107, 102, 107, 107, 107, 95, 107, 107, 107, 107, 107, 107, 104, 100, 107, 107, 107, 95], 95) := by decide +kernel
theorem dX7_greatestOf_96 : decode cX7_greatestOf 96 = .ok (.iconst 3, 1) := by decide +kernel
theorem dX7_greatestOf_97 : decode cX7_greatestOf 97 = .ok (.ireturn, 1) := by decide +kernel
theorem dX7_greatestOf_98 : decode cX7_greatestOf 98 = .ok (.bipush 6, 2) := by decide +kernel
theorem dX7_greatestOf_100 : decode cX7_greatestOf 100 = .ok (.ireturn, 1) := by decide +kernel
theorem dX7_greatestOf_101 : decode cX7_greatestOf 101 = .ok (.iconst 1, 1) := by decide +kernel
theorem dX7_greatestOf_102 : decode cX7_greatestOf 102 = .ok (.ireturn, 1) := by decide +kernel
theorem dX7_greatestOf_103 : decode cX7_greatestOf 103 = .ok (.iconst 2, 1) := by decide +kernel
theorem dX7_greatestOf_104 : decode cX7_greatestOf 104 = .ok (.ireturn, 1) := by decide +kernel
theorem dX7_greatestOf_105 : decode cX7_greatestOf 105 = .ok (.bipush 22, 2) := by decide +kernel
theorem dX7_greatestOf_107 : decode cX7_greatestOf 107 = .ok (.ireturn, 1) := by decide +kernel
theorem dX7_greatestOf_108 : decode cX7_greatestOf 108 = .ok (.iconst (-1), 1) := by decide +kernel
theorem dX7_greatestOf_109 : decode cX7_greatestOf 109 = .ok (.ireturn, 1) := by decide +kernel
theorem dX7_changeNumber_0 : decode cX7_changeNumber 0 = .ok (.aload_n 0, 1) := by decide +kernel
theorem dX7_changeNumber_1 : decode cX7_changeNumber 1 = .ok (.iload_n 1, 1) := by decide +kernel
theorem dX7_changeNumber_2 : decode cX7_changeNumber 2 = .ok (.invokevirtual 52, 3) := by decide +kernel
theorem dX7_changeNumber_5 : decode cX7_changeNumber 5 = .ok (.istore_n 3, 1) := by decide +kernel
theorem dX7_changeNumber_6 : decode cX7_changeNumber 6 = .ok (.iload_n 1, 1) := by decide +kernel
theorem dX7_changeNumber_7 : decode cX7_changeNumber 7 = .ok (.lookupswitch 89 #[(100, 65), (103, 81), (107, 57), (115, 73), (119, 49)], 49) := by decide +kernel
theorem dX7_changeNumber_56 : decode cX7_changeNumber 56 = .ok (.aload_n 0, 1) := by decide +kernel
theorem dX7_changeNumber_57 : decode cX7_changeNumber 57 = .ok (.iload_n 2, 1) := by decide +kernel
theorem dX7_changeNumber_58 : decode cX7_changeNumber 58 = .ok (.putfield 9, 3) := by decide +kernel
