theorem dX10_set_95 : decode cX10_set 95 = .ok (.goto 7, 3) := by decide +kernel
theorem dX10_set_98 : decode cX10_set 98 = .ok (.aload_n 0, 1) := by decide +kernel
theorem dX10_set_99 : decode cX10_set 99 = .ok (.getfield 116, 3) := by decide +kernel
theorem dX10_set_102 : decode cX10_set 102 = .ok (.putfield 116, 3) := by decide +kernel
theorem dX10_set_105 : decode cX10_set 105 = .ok (.aload_n 0, 1) := by decide +kernel
theorem dX10_set_106 : decode cX10_set 106 = .ok (.iload_n 1, 1) := by decide +kernel
theorem dX10_set_107 : decode cX10_set 107 = .ok (.bipush 103, 2) := by decide +kernel
theorem dX10_set_109 : decode cX10_set 109 = .ok (.if_icmp .ne 7, 3) := by decide +kernel
theorem dX10_set_112 : decode cX10_set 112 = .ok (.iload_n 2, 1) := by decide +kernel
theorem dX10_set_113 : decode cX10_set 113 = .ok (.goto 7, 3) := by decide +kernel
theorem dX10_set_116 : decode cX10_set 116 = .ok (.aload_n 0, 1) := by decide +kernel
theorem dX10_set_117 : decode cX10_set 117 = .ok (.getfield 119, 3) := by decide +kernel
theorem dX10_set_120 : decode cX10_set 120 = .ok (.putfield 119, 3) := by decide +kernel
theorem dX10_set_123 : decode cX10_set 123 = .ok (.aload_n 0, 1) := by decide +kernel
theorem dX10_set_124 : decode cX10_set 124 = .ok (.iload_n 1, 1) := by decide +kernel
theorem dX10_set_125 : decode cX10_set 125 = .ok (.bipush 114, 2) := by decide +kernel
theorem dX10_set_127 : decode cX10_set 127 = .ok (.if_icmp .ne 7, 3) := by decide +kernel
theorem dX10_set_130 : decode cX10_set 130 = .ok (.iload_n 2, 1) := by decide +kernel
theorem dX10_set_131 : decode cX10_set 131 = .ok (.goto 7, 3) := by decide +kernel
theorem dX10_set_134 : decode cX10_set 134 = .ok (.aload_n 0, 1) := by decide +kernel
theorem dX10_set_135 : decode cX10_set 135 = .ok (.getfield 23, 3) := by decide +kernel
theorem dX10_set_138 : decode cX10_set 138 = .ok (.putfield 23, 3) := by decide +kernel
theorem dX10_set_141 : decode cX10_set 141 = .ok (.iload_n 3, 1) := by decide +kernel
theorem dX10_set_142 : decode cX10_set 142 = .ok (.ireturn, 1) := by decide +kernel
theorem dX10_setPattern_0 : decode cX10_setPattern 0 = .ok (.aload_n 0, 1) := by decide +kernel
theorem dX10_setPattern_1 : decode cX10_setPattern 1 = .ok (.iload_n 1, 1) := by decide +kernel
theorem dX10_setPattern_2 : decode cX10_setPattern 2 = .ok (.bipush 108, 2) := by decide +kernel
theorem dX10_setPattern_4 : decode cX10_setPattern 4 = .ok (.if_icmp .eq 15, 3) := by decide +kernel
theorem dX10_setPattern_7 : decode cX10_setPattern 7 = .ok (.iload_n 1, 1) := by decide +kernel
theorem dX10_setPattern_8 : decode cX10_setPattern 8 = .ok (.bipush 103, 2) := by decide +kernel
theorem dX10_setPattern_10 : decode cX10_setPattern 10 = .ok (.if_icmp .eq 9, 3) := by decide +kernel
theorem dX10_setPattern_13 : decode cX10_setPattern 13 = .ok (.iload_n 1, 1) := by decide +kernel
theorem dX10_setPattern_14 : decode cX10_setPattern 14 = .ok (.bipush 119, 2) := by decide +kernel
theorem dX10_setPattern_16 : decode cX10_setPattern 16 = .ok (.if_icmp .ne 7, 3) := by decide +kernel
theorem dX10_setPattern_19 : decode cX10_setPattern 19 = .ok (.iconst 0, 1) := by decide +kernel
theorem dX10_setPattern_20 : decode cX10_setPattern 20 = .ok (.goto 4, 3) := by decide +kernel
theorem dX10_setPattern_23 : decode cX10_setPattern 23 = .ok (.iconst 1, 1) := by decide +kernel
theorem dX10_setPattern_24 : decode cX10_setPattern 24 = .ok (.invokevirtual 112, 3) := by decide +kernel
theorem dX10_setPattern_27 : decode cX10_setPattern 27 = .ok (.ifCond .ne 5, 3) := by decide +kernel
theorem dX10_setPattern_30 : decode cX10_setPattern 30 = .ok (.iconst 0, 1) := by decide +kernel
theorem dX10_setPattern_31 : decode cX10_setPattern 31 = .ok (.ireturn, 1) := by decide +kernel
theorem dX10_setPattern_32 : decode cX10_setPattern 32 = .ok (.aload_n 0, 1) := by decide +kernel
theorem dX10_setPattern_33 : decode cX10_setPattern 33 = .ok (.getfield 26, 3) := by decide +kernel
theorem dX10_setPattern_36 : decode cX10_setPattern 36 = .ok (.istore_n 2, 1) := by decide +kernel
theorem dX10_setPattern_37 : decode cX10_setPattern 37 = .ok (.aload_n 0, 1) := by decide +kernel
theorem dX10_setPattern_38 : decode cX10_setPattern 38 = .ok (.iload_n 1, 1) := by decide +kernel
theorem dX10_setPattern_39 : decode cX10_setPattern 39 = .ok (.putfield 26, 3) := by decide +kernel
theorem dX10_setPattern_42 : decode cX10_setPattern 42 = .ok (.iload_n 2, 1) := by decide +kernel
theorem dX10_setPattern_43 : decode cX10_setPattern 43 = .ok (.ireturn, 1) := by decide +kernel
theorem dX10_isLayer_0 : decode cX10_isLayer 0 = .ok (.iload_n 0, 1) := by decide +kernel
theorem dX10_isLayer_1 : decode cX10_isLayer 1 = .ok (.iconst 0, 1) := by decide +kernel
theorem dX10_isLayer_2 : decode cX10_isLayer 2 = .ok (.bipush 11, 2) := by decide +kernel
theorem dX10_isLayer_4 : decode cX10_isLayer 4 = .ok (.invokestatic 101, 3) := by decide +kernel
theorem dX10_isLayer_7 : decode cX10_isLayer 7 = .ok (.ireturn, 1) := by decide +kernel
theorem dX10_setThickness_0 : decode cX10_setThickness 0 = .ok (.aload_n 0, 1) := by decide +kernel
theorem dX10_setThickness_1 : decode cX10_setThickness 1 = .ok (.iload_n 1, 1) := by decide +kernel
theorem dX10_setThickness_2 : decode cX10_setThickness 2 = .ok (.invokestatic 130, 3) := by decide +kernel
theorem dX10_setThickness_5 : decode cX10_setThickness 5 = .ok (.ifCond .ne 7, 3) := by decide +kernel
theorem dX10_setThickness_8 : decode cX10_setThickness 8 = .ok (.iconst 1, 1) := by decide +kernel
theorem dX10_setThickness_9 : decode cX10_setThickness 9 = .ok (.goto 17, 3) := by decide +kernel
theorem dX10_setThickness_12 : decode cX10_setThickness 12 = .ok (.iload_n 2, 1) := by decide +kernel
theorem dX10_setThickness_13 : decode cX10_setThickness 13 = .ok (.iconst 1, 1) := by decide +kernel
theorem dX10_setThickness_14 : decode cX10_setThickness 14 = .ok (.iconst 3, 1) := by decide +kernel
theorem dX10_setThickness_15 : decode cX10_setThickness 15 = .ok (.invokestatic 101, 3) := by decide +kernel
theorem dX10_setThickness_18 : decode cX10_setThickness 18 = .ok (.ifCond .ne 7, 3) := by decide +kernel
theorem dX10_setThickness_21 : decode cX10_setThickness 21 = .ok (.iconst 2, 1) := by decide +kernel
theorem dX10_setThickness_22 : decode cX10_setThickness 22 = .ok (.goto 4, 3) := by decide +kernel
theorem dX10_setThickness_25 : decode cX10_setThickness 25 = .ok (.iconst 0, 1) := by decide +kernel
theorem dX10_setThickness_26 : decode cX10_setThickness 26 = .ok (.invokevirtual 112, 3) := by decide +kernel
theorem dX10_setThickness_29 : decode cX10_setThickness 29 = .ok (.ifCond .ne 5, 3) := by decide +kernel
theorem dX10_setThickness_32 : decode cX10_setThickness 32 = .ok (.iconst 0, 1) := by decide +kernel
theorem dX10_setThickness_33 : decode cX10_setThickness 33 = .ok (.ireturn, 1) := by decide +kernel
theorem dX10_setThickness_34 : decode cX10_setThickness 34 = .ok (.aload_n 0, 1) := by decide +kernel
theorem dX10_setThickness_35 : decode cX10_setThickness 35 = .ok (.getfield 30, 3) := by decide +kernel
theorem dX10_setThickness_38 : decode cX10_setThickness 38 = .ok (.iload_n 1, 1) := by decide +kernel
theorem dX10_setThickness_39 : decode cX10_setThickness 39 = .ok (.iaload, 1) := by decide +kernel
theorem dX10_setThickness_40 : decode cX10_setThickness 40 = .ok (.istore_n 3, 1) := by decide +kernel
theorem dX10_setThickness_41 : decode cX10_setThickness 41 = .ok (.aload_n 0, 1) := by decide +kernel
theorem dX10_setThickness_42 : decode cX10_setThickness 42 = .ok (.getfield 30, 3) := by decide +kernel
theorem dX10_setThickness_45 : decode cX10_setThickness 45 = .ok (.iload_n 1, 1) := by decide +kernel
theorem dX10_setThickness_46 : decode cX10_setThickness 46 = .ok (.iload_n 2, 1) := by decide +kernel
theorem dX10_setThickness_47 : decode cX10_setThickness 47 = .ok (.iastore, 1) := by decide +kernel
theorem dX10_setThickness_48 : decode cX10_setThickness 48 = .ok (.iload_n 3, 1) := by decide +kernel
theorem dX10_setThickness_49 : decode cX10_setThickness 49 = .ok (.ireturn, 1) := by decide +kernel
theorem dX10_setPause_0 : decode cX10_setPause 0 = .ok (.aload_n 0, 1) := by decide +kernel
theorem dX10_setPause_1 : decode cX10_setPause 1 = .ok (.iload_n 1, 1) := by decide +kernel
theorem dX10_setPause_2 : decode cX10_setPause 2 = .ok (.invokestatic 130, 3) := by decide +kernel
theorem dX10_setPause_5 : decode cX10_setPause 5 = .ok (.ifCond .eq 7, 3) := by decide +kernel
theorem dX10_setPause_8 : decode cX10_setPause 8 = .ok (.iconst 0, 1) := by decide +kernel
theorem dX10_setPause_9 : decode cX10_setPause 9 = .ok (.goto 4, 3) := by decide +kernel
theorem dX10_setPause_12 : decode cX10_setPause 12 = .ok (.iconst 1, 1) := by decide +kernel
theorem dX10_setPause_13 : decode cX10_setPause 13 = .ok (.invokevirtual 112, 3) := by decide +kernel
theorem dX10_setPause_16 : decode cX10_setPause 16 = .ok (.ifCond .ne 5, 3) := by decide +kernel
theorem dX10_setPause_19 : decode cX10_setPause 19 = .ok (.iconst 0, 1) := by decide +kernel
theorem dX10_setPause_20 : decode cX10_setPause 20 = .ok (.ireturn, 1) := by decide +kernel
theorem dX10_setPause_21 : decode cX10_setPause 21 = .ok (.aload_n 0, 1) := by decide +kernel
theorem dX10_setPause_22 : decode cX10_setPause 22 = .ok (.getfield 34, 3) := by decide +kernel
theorem dX10_setPause_25 : decode cX10_setPause 25 = .ok (.iload_n 1, 1) := by decide +kernel
theorem dX10_setPause_26 : decode cX10_setPause 26 = .ok (.baload, 1) := by decide +kernel
theorem dX10_setPause_27 : decode cX10_setPause 27 = .ok (.istore_n 3, 1) := by decide +kernel
theorem dX10_setPause_28 : decode cX10_setPause 28 = .ok (.aload_n 0, 1) := by decide +kernel
theorem dX10_setPause_29 : decode cX10_setPause 29 = .ok (.getfield 34, 3) := by decide +kernel
theorem dX10_setPause_32 : decode cX10_setPause 32 = .ok (.iload_n 1, 1) := by decide +kernel
theorem dX10_setPause_33 : decode cX10_setPause 33 = .ok (.iload_n 2, 1) := by decide +kernel
theorem dX10_setPause_34 : decode cX10_setPause 34 = .ok (.bastore, 1) := by decide +kernel
theorem dX10_setPause_35 : decode cX10_setPause 35 = .ok (.iload_n 3, 1) := by decide +kernel
theorem dX10_setPause_36 : decode cX10_setPause 36 = .ok (.ireturn, 1) := by decide +kernel
theorem dX10_isWall_0 : decode cX10_isWall 0 = .ok (.iconst 0, 1) := by decide +kernel
theorem dX10_isWall_1 : decode cX10_isWall 1 = .ok (.istore 4, 2) := by decide +kernel
theorem dX10_isWall_3 : decode cX10_isWall 3 = .ok (.aload_n 0, 1) := by decide +kernel
theorem dX10_isWall_4 : decode cX10_isWall 4 = .ok (.getfield 13, 3) := by decide +kernel
theorem dX10_isWall_7 : decode cX10_isWall 7 = .ok (.ineg, 1) := by decide +kernel
theorem dX10_isWall_8 : decode cX10_isWall 8 = .ok (.istore 5, 2) := by decide +kernel
theorem dX10_isWall_10 : decode cX10_isWall 10 = .ok (.iload 5, 2) := by decide +kernel
theorem dX10_isWall_12 : decode cX10_isWall 12 = .ok (.aload_n 0, 1) := by decide +kernel
theorem dX10_isWall_13 : decode cX10_isWall 13 = .ok (.getfield 13, 3) := by decide +kernel
theorem dX10_isWall_16 : decode cX10_isWall 16 = .ok (.if_icmp .gt 67, 3) := by decide +kernel
theorem dX10_isWall_19 : decode cX10_isWall 19 = .ok (.aload_n 0, 1) := by decide +kernel
theorem dX10_isWall_20 : decode cX10_isWall 20 = .ok (.getfield 13, 3) := by decide +kernel
theorem dX10_isWall_23 : decode cX10_isWall 23 = .ok (.iload 5, 2) := by decide +kernel
theorem dX10_isWall_25 : decode cX10_isWall 25 = .ok (.invokestatic 133, 3) := by decide +kernel
theorem dX10_isWall_28 : decode cX10_isWall 28 = .ok (.isub, 1) := by decide +kernel
theorem dX10_isWall_29 : decode cX10_isWall 29 = .ok (.istore 6, 2) := by decide +kernel
theorem dX10_isWall_31 : decode cX10_isWall 31 = .ok (.iload 6, 2) := by decide +kernel
theorem dX10_isWall_33 : decode cX10_isWall 33 = .ok (.ineg, 1) := by decide +kernel
theorem dX10_isWall_34 : decode cX10_isWall 34 = .ok (.istore 7, 2) := by decide +kernel
theorem dX10_isWall_36 : decode cX10_isWall 36 = .ok (.iload 7, 2) := by decide +kernel
theorem dX10_isWall_38 : decode cX10_isWall 38 = .ok (.iload 6, 2) := by decide +kernel
theorem dX10_isWall_40 : decode cX10_isWall 40 = .ok (.if_icmp .gt 37, 3) := by decide +kernel
theorem dX10_isWall_43 : decode cX10_isWall 43 = .ok (.iload 4, 2) := by decide +kernel
theorem dX10_isWall_45 : decode cX10_isWall 45 = .ok (.ifCond .ne 19, 3) := by decide +kernel
theorem dX10_isWall_48 : decode cX10_isWall 48 = .ok (.aload_n 0, 1) := by decide +kernel
theorem dX10_isWall_49 : decode cX10_isWall 49 = .ok (.iload_n 1, 1) := by decide +kernel
theorem dX10_isWall_50 : decode cX10_isWall 50 = .ok (.iload 5, 2) := by decide +kernel
theorem dX10_isWall_52 : decode cX10_isWall 52 = .ok (.iadd, 1) := by decide +kernel
theorem dX10_isWall_53 : decode cX10_isWall 53 = .ok (.iload_n 2, 1) := by decide +kernel
theorem dX10_isWall_54 : decode cX10_isWall 54 = .ok (.iload 7, 2) := by decide +kernel
theorem dX10_isWall_56 : decode cX10_isWall 56 = .ok (.iadd, 1) := by decide +kernel
theorem dX10_isWall_57 : decode cX10_isWall 57 = .ok (.iload_n 3, 1) := by decide +kernel
theorem dX10_isWall_58 : decode cX10_isWall 58 = .ok (.invokevirtual 137, 3) := by decide +kernel
theorem dX10_isWall_61 : decode cX10_isWall 61 = .ok (.ifCond .ne 7, 3) := by decide +kernel
theorem dX10_isWall_64 : decode cX10_isWall 64 = .ok (.iconst 1, 1) := by decide +kernel
theorem dX10_isWall_65 : decode cX10_isWall 65 = .ok (.goto 4, 3) := by decide +kernel
theorem dX10_isWall_68 : decode cX10_isWall 68 = .ok (.iconst 0, 1) := by decide +kernel
theorem dX10_isWall_69 : decode cX10_isWall 69 = .ok (.istore 4, 2) := by decide +kernel
theorem dX10_isWall_71 : decode cX10_isWall 71 = .ok (.iinc 7 1, 3) := by decide +kernel
theorem dX10_isWall_74 : decode cX10_isWall 74 = .ok (.goto (-38), 3) := by decide +kernel
theorem dX10_isWall_77 : decode cX10_isWall 77 = .ok (.iinc 5 1, 3) := by decide +kernel
theorem dX10_isWall_80 : decode cX10_isWall 80 = .ok (.goto (-70), 3) := by decide +kernel
theorem dX10_isWall_83 : decode cX10_isWall 83 = .ok (.iload 4, 2) := by decide +kernel
theorem dX10_isWall_85 : decode cX10_isWall 85 = .ok (.ireturn, 1) := by decide +kernel
theorem dX10_isOpen_0 : decode cX10_isOpen 0 = .ok (.iconst 0, 1) := by decide +kernel
theorem dX10_isOpen_1 : decode cX10_isOpen 1 = .ok (.istore 5, 2) := by decide +kernel
theorem dX10_isOpen_3 : decode cX10_isOpen 3 = .ok (.iconst 1, 1) := by decide +kernel
theorem dX10_isOpen_4 : decode cX10_isOpen 4 = .ok (.istore 6, 2) := by decide +kernel
theorem dX10_isOpen_6 : decode cX10_isOpen 6 = .ok (.iload 6, 2) := by decide +kernel
theorem dX10_isOpen_8 : decode cX10_isOpen 8 = .ok (.aload_n 0, 1) := by decide +kernel
theorem dX10_isOpen_9 : decode cX10_isOpen 9 = .ok (.getfield 17, 3) := by decide +kernel
theorem dX10_isOpen_12 : decode cX10_isOpen 12 = .ok (.if_icmp .gt 37, 3) := by decide +kernel
theorem dX10_isOpen_15 : decode cX10_isOpen 15 = .ok (.iload 5, 2) := by decide +kernel
theorem dX10_isOpen_17 : decode cX10_isOpen 17 = .ok (.ifCond .ne 19, 3) := by decide +kernel
theorem dX10_isOpen_20 : decode cX10_isOpen 20 = .ok (.aload_n 0, 1) := by decide +kernel
theorem dX10_isOpen_21 : decode cX10_isOpen 21 = .ok (.iload_n 1, 1) := by decide +kernel
theorem dX10_isOpen_22 : decode cX10_isOpen 22 = .ok (.iload_n 2, 1) := by decide +kernel
theorem dX10_isOpen_23 : decode cX10_isOpen 23 = .ok (.iload_n 3, 1) := by decide +kernel
theorem dX10_isOpen_24 : decode cX10_isOpen 24 = .ok (.iload 4, 2) := by decide +kernel
theorem dX10_isOpen_26 : decode cX10_isOpen 26 = .ok (.iload 6, 2) := by decide +kernel
theorem dX10_isOpen_28 : decode cX10_isOpen 28 = .ok (.imul, 1) := by decide +kernel
theorem dX10_isOpen_29 : decode cX10_isOpen 29 = .ok (.iadd, 1) := by decide +kernel
theorem dX10_isOpen_30 : decode cX10_isOpen 30 = .ok (.invokevirtual 137, 3) := by decide +kernel
theorem dX10_isOpen_33 : decode cX10_isOpen 33 = .ok (.ifCond .ne 7, 3) := by decide +kernel
theorem dX10_isOpen_36 : decode cX10_isOpen 36 = .ok (.iconst 1, 1) := by decide +kernel
theorem dX10_isOpen_37 : decode cX10_isOpen 37 = .ok (.goto 4, 3) := by decide +kernel
theorem dX10_isOpen_40 : decode cX10_isOpen 40 = .ok (.iconst 0, 1) := by decide +kernel
theorem dX10_isOpen_41 : decode cX10_isOpen 41 = .ok (.istore 5, 2) := by decide +kernel
theorem dX10_isOpen_43 : decode cX10_isOpen 43 = .ok (.iinc 6 1, 3) := by decide +kernel
theorem dX10_isOpen_46 : decode cX10_isOpen 46 = .ok (.goto (-40), 3) := by decide +kernel
theorem dX10_isOpen_49 : decode cX10_isOpen 49 = .ok (.iload 5, 2) := by decide +kernel
theorem dX10_isOpen_51 : decode cX10_isOpen 51 = .ok (.ireturn, 1) := by decide +kernel
theorem dX10_isFilled_0 : decode cX10_isFilled 0 = .ok (.aload_n 0, 1) := by decide +kernel
theorem dX10_isFilled_1 : decode cX10_isFilled 1 = .ok (.getfield 26, 3) := by decide +kernel
theorem dX10_isFilled_4 : decode cX10_isFilled 4 = .ok (.bipush 108, 2) := by decide +kernel
theorem dX10_isFilled_6 : decode cX10_isFilled 6 = .ok (.if_icmp .ne 28, 3) := by decide +kernel
theorem dX10_isFilled_9 : decode cX10_isFilled 9 = .ok (.iload_n 3, 1) := by decide +kernel
theorem dX10_isFilled_10 : decode cX10_isFilled 10 = .ok (.iconst 2, 1) := by decide +kernel
theorem dX10_isFilled_11 : decode cX10_isFilled 11 = .ok (.irem, 1) := by decide +kernel
theorem dX10_isFilled_12 : decode cX10_isFilled 12 = .ok (.ifCond .ne 7, 3) := by decide +kernel
theorem dX10_isFilled_15 : decode cX10_isFilled 15 = .ok (.iload_n 2, 1) := by decide +kernel
theorem dX10_isFilled_16 : decode cX10_isFilled 16 = .ok (.goto 4, 3) := by decide +kernel
theorem dX10_isFilled_19 : decode cX10_isFilled 19 = .ok (.iload_n 1, 1) := by decide +kernel
theorem dX10_isFilled_20 : decode cX10_isFilled 20 = .ok (.aload_n 0, 1) := by decide +kernel
theorem dX10_isFilled_21 : decode cX10_isFilled 21 = .ok (.getfield 20, 3) := by decide +kernel
theorem dX10_isFilled_24 : decode cX10_isFilled 24 = .ok (.irem, 1) := by decide +kernel
theorem dX10_isFilled_25 : decode cX10_isFilled 25 = .ok (.ifCond .ne 7, 3) := by decide +kernel
theorem dX10_isFilled_28 : decode cX10_isFilled 28 = .ok (.iconst 1, 1) := by decide +kernel
theorem dX10_isFilled_29 : decode cX10_isFilled 29 = .ok (.goto 4, 3) := by decide +kernel
theorem dX10_isFilled_32 : decode cX10_isFilled 32 = .ok (.iconst 0, 1) := by decide +kernel
theorem dX10_isFilled_33 : decode cX10_isFilled 33 = .ok (.ireturn, 1) := by decide +kernel
theorem dX10_isFilled_34 : decode cX10_isFilled 34 = .ok (.aload_n 0, 1) := by decide +kernel
theorem dX10_isFilled_35 : decode cX10_isFilled 35 = .ok (.getfield 26, 3) := by decide +kernel
theorem dX10_isFilled_38 : decode cX10_isFilled 38 = .ok (.bipush 103, 2) := by decide +kernel
theorem dX10_isFilled_40 : decode cX10_isFilled 40 = .ok (.if_icmp .ne 27, 3) := by decide +kernel
theorem dX10_isFilled_43 : decode cX10_isFilled 43 = .ok (.iload_n 1, 1) := by decide +kernel
theorem dX10_isFilled_44 : decode cX10_isFilled 44 = .ok (.aload_n 0, 1) := by decide +kernel
theorem dX10_isFilled_45 : decode cX10_isFilled 45 = .ok (.getfield 20, 3) := by decide +kernel
theorem dX10_isFilled_48 : decode cX10_isFilled 48 = .ok (.irem, 1) := by decide +kernel
theorem dX10_isFilled_49 : decode cX10_isFilled 49 = .ok (.ifCond .eq 12, 3) := by decide +kernel
theorem dX10_isFilled_52 : decode cX10_isFilled 52 = .ok (.iload_n 2, 1) := by decide +kernel
theorem dX10_isFilled_53 : decode cX10_isFilled 53 = .ok (.aload_n 0, 1) := by decide +kernel
theorem dX10_isFilled_54 : decode cX10_isFilled 54 = .ok (.getfield 20, 3) := by decide +kernel
theorem dX10_isFilled_57 : decode cX10_isFilled 57 = .ok (.irem, 1) := by decide +kernel
theorem dX10_isFilled_58 : decode cX10_isFilled 58 = .ok (.ifCond .ne 7, 3) := by decide +kernel
theorem dX10_isFilled_61 : decode cX10_isFilled 61 = .ok (.iconst 1, 1) := by decide +kernel
theorem dX10_isFilled_62 : decode cX10_isFilled 62 = .ok (.goto 4, 3) := by decide +kernel
theorem dX10_isFilled_65 : decode cX10_isFilled 65 = .ok (.iconst 0, 1) := by decide +kernel
theorem dX10_isFilled_66 : decode cX10_isFilled 66 = .ok (.ireturn, 1) := by decide +kernel
theorem dX10_isFilled_67 : decode cX10_isFilled 67 = .ok (.iload_n 1, 1) := by decide +kernel
theorem dX10_isFilled_68 : decode cX10_isFilled 68 = .ok (.iload_n 2, 1) := by decide +kernel
theorem dX10_isFilled_69 : decode cX10_isFilled 69 = .ok (.iload_n 3, 1) := by decide +kernel
theorem dX10_isFilled_70 : decode cX10_isFilled 70 = .ok (.iadd, 1) := by decide +kernel
theorem dX10_isFilled_71 : decode cX10_isFilled 71 = .ok (.iconst 2, 1) := by decide +kernel
theorem dX10_isFilled_72 : decode cX10_isFilled 72 = .ok (.aload_n 0, 1) := by decide +kernel
theorem dX10_isFilled_73 : decode cX10_isFilled 73 = .ok (.getfield 20, 3) := by decide +kernel
theorem dX10_isFilled_76 : decode cX10_isFilled 76 = .ok (.imul, 1) := by decide +kernel
theorem dX10_isFilled_77 : decode cX10_isFilled 77 = .ok (.irem, 1) := by decide +kernel
theorem dX10_isFilled_78 : decode cX10_isFilled 78 = .ok (.aload_n 0, 1) := by decide +kernel
theorem dX10_isFilled_79 : decode cX10_isFilled 79 = .ok (.getfield 20, 3) := by decide +kernel
theorem dX10_isFilled_82 : decode cX10_isFilled 82 = .ok (.isub, 1) := by decide +kernel
theorem dX10_isFilled_83 : decode cX10_isFilled 83 = .ok (.invokestatic 133, 3) := by decide +kernel
theorem dX10_isFilled_86 : decode cX10_isFilled 86 = .ok (.iadd, 1) := by decide +kernel
theorem dX10_isFilled_87 : decode cX10_isFilled 87 = .ok (.aload_n 0, 1) := by decide +kernel
theorem dX10_isFilled_88 : decode cX10_isFilled 88 = .ok (.getfield 20, 3) := by decide +kernel
theorem dX10_isFilled_91 : decode cX10_isFilled 91 = .ok (.irem, 1) := by decide +kernel
theorem dX10_isFilled_92 : decode cX10_isFilled 92 = .ok (.ifCond .ne 7, 3) := by decide +kernel
theorem dX10_isFilled_95 : decode cX10_isFilled 95 = .ok (.iconst 1, 1) := by decide +kernel
theorem dX10_isFilled_96 : decode cX10_isFilled 96 = .ok (.goto 4, 3) := by decide +kernel
theorem dX10_isFilled_99 : decode cX10_isFilled 99 = .ok (.iconst 0, 1) := by decide +kernel
theorem dX10_isFilled_100 : decode cX10_isFilled 100 = .ok (.ireturn, 1) := by decide +kernel
theorem dX10_hangs_0 : decode cX10_hangs 0 = .ok (.iload_n 3, 1) := by decide +kernel
theorem dX10_hangs_1 : decode cX10_hangs 1 = .ok (.ifCond .le 29, 3) := by decide +kernel
theorem dX10_hangs_4 : decode cX10_hangs 4 = .ok (.aload_n 0, 1) := by decide +kernel
theorem dX10_hangs_5 : decode cX10_hangs 5 = .ok (.iload_n 1, 1) := by decide +kernel
theorem dX10_hangs_6 : decode cX10_hangs 6 = .ok (.iload_n 2, 1) := by decide +kernel
theorem dX10_hangs_7 : decode cX10_hangs 7 = .ok (.iload_n 3, 1) := by decide +kernel
theorem dX10_hangs_8 : decode cX10_hangs 8 = .ok (.invokevirtual 137, 3) := by decide +kernel
theorem dX10_hangs_11 : decode cX10_hangs 11 = .ok (.ifCond .eq 19, 3) := by decide +kernel
theorem dX10_hangs_14 : decode cX10_hangs 14 = .ok (.aload_n 0, 1) := by decide +kernel
theorem dX10_hangs_15 : decode cX10_hangs 15 = .ok (.iload_n 1, 1) := by decide +kernel
theorem dX10_hangs_16 : decode cX10_hangs 16 = .ok (.iload_n 2, 1) := by decide +kernel
theorem dX10_hangs_17 : decode cX10_hangs 17 = .ok (.iload_n 3, 1) := by decide +kernel
theorem dX10_hangs_18 : decode cX10_hangs 18 = .ok (.iconst 1, 1) := by decide +kernel
theorem dX10_hangs_19 : decode cX10_hangs 19 = .ok (.isub, 1) := by decide +kernel
theorem dX10_hangs_20 : decode cX10_hangs 20 = .ok (.invokevirtual 137, 3) := by decide +kernel
theorem dX10_hangs_23 : decode cX10_hangs 23 = .ok (.ifCond .ne 7, 3) := by decide +kernel
theorem dX10_hangs_26 : decode cX10_hangs 26 = .ok (.iconst 1, 1) := by decide +kernel
theorem dX10_hangs_27 : decode cX10_hangs 27 = .ok (.goto 4, 3) := by decide +kernel
theorem dX10_hangs_30 : decode cX10_hangs 30 = .ok (.iconst 0, 1) := by decide +kernel
theorem dX10_hangs_31 : decode cX10_hangs 31 = .ok (.istore 4, 2) := by decide +kernel
theorem dX10_hangs_33 : decode cX10_hangs 33 = .ok (.iconst 0, 1) := by decide +kernel
theorem dX10_hangs_34 : decode cX10_hangs 34 = .ok (.istore 5, 2) := by decide +kernel
theorem dX10_hangs_36 : decode cX10_hangs 36 = .ok (.iload 5, 2) := by decide +kernel
theorem dX10_hangs_38 : decode cX10_hangs 38 = .ok (.iconst 4, 1) := by decide +kernel
theorem dX10_hangs_39 : decode cX10_hangs 39 = .ok (.if_icmp .ge 45, 3) := by decide +kernel
theorem dX10_hangs_42 : decode cX10_hangs 42 = .ok (.iload 4, 2) := by decide +kernel
theorem dX10_hangs_44 : decode cX10_hangs 44 = .ok (.ifCond .eq 31, 3) := by decide +kernel
theorem dX10_hangs_47 : decode cX10_hangs 47 = .ok (.aload_n 0, 1) := by decide +kernel
theorem dX10_hangs_48 : decode cX10_hangs 48 = .ok (.iload_n 1, 1) := by decide +kernel
theorem dX10_hangs_49 : decode cX10_hangs 49 = .ok (.iload 5, 2) := by decide +kernel
theorem dX10_hangs_51 : decode cX10_hangs 51 = .ok (.invokestatic 140, 3) := by decide +kernel
theorem dX10_hangs_54 : decode cX10_hangs 54 = .ok (.iadd, 1) := by decide +kernel
theorem dX10_hangs_55 : decode cX10_hangs 55 = .ok (.iload_n 2, 1) := by decide +kernel
theorem dX10_hangs_56 : decode cX10_hangs 56 = .ok (.iload 5, 2) := by decide +kernel
theorem dX10_hangs_58 : decode cX10_hangs 58 = .ok (.invokestatic 143, 3) := by decide +kernel
theorem dX10_hangs_61 : decode cX10_hangs 61 = .ok (.iadd, 1) := by decide +kernel
theorem dX10_hangs_62 : decode cX10_hangs 62 = .ok (.iload_n 3, 1) := by decide +kernel
theorem dX10_hangs_63 : decode cX10_hangs 63 = .ok (.iconst 1, 1) := by decide +kernel
theorem dX10_hangs_64 : decode cX10_hangs 64 = .ok (.isub, 1) := by decide +kernel
theorem dX10_hangs_65 : decode cX10_hangs 65 = .ok (.invokevirtual 137, 3) := by decide +kernel
theorem dX10_hangs_68 : decode cX10_hangs 68 = .ok (.ifCond .ne 7, 3) := by decide +kernel
theorem dX10_hangs_71 : decode cX10_hangs 71 = .ok (.iconst 1, 1) := by decide +kernel
theorem dX10_hangs_72 : decode cX10_hangs 72 = .ok (.goto 4, 3) := by decide +kernel
theorem dX10_hangs_75 : decode cX10_hangs 75 = .ok (.iconst 0, 1) := by decide +kernel
theorem dX10_hangs_76 : decode cX10_hangs 76 = .ok (.istore 4, 2) := by decide +kernel
theorem dX10_hangs_78 : decode cX10_hangs 78 = .ok (.iinc 5 1, 3) := by decide +kernel
theorem dX10_hangs_81 : decode cX10_hangs 81 = .ok (.goto (-45), 3) := by decide +kernel
theorem dX10_hangs_84 : decode cX10_hangs 84 = .ok (.iload 4, 2) := by decide +kernel
theorem dX10_hangs_86 : decode cX10_hangs 86 = .ok (.ireturn, 1) := by decide +kernel
theorem dX10_isSupport_0 : decode cX10_isSupport 0 = .ok (.iload_n 3, 1) := by decide +kernel
theorem dX10_isSupport_1 : decode cX10_isSupport 1 = .ok (.iconst 1, 1) := by decide +kernel
theorem dX10_isSupport_2 : decode cX10_isSupport 2 = .ok (.iadd, 1) := by decide +kernel
theorem dX10_isSupport_3 : decode cX10_isSupport 3 = .ok (.istore 4, 2) := by decide +kernel
theorem dX10_isSupport_5 : decode cX10_isSupport 5 = .ok (.iload 4, 2) := by decide +kernel
theorem dX10_isSupport_7 : decode cX10_isSupport 7 = .ok (.bipush 12, 2) := by decide +kernel
theorem dX10_isSupport_9 : decode cX10_isSupport 9 = .ok (.if_icmp .ge 20, 3) := by decide +kernel
theorem dX10_isSupport_12 : decode cX10_isSupport 12 = .ok (.aload_n 0, 1) := by decide +kernel
theorem dX10_isSupport_13 : decode cX10_isSupport 13 = .ok (.iload_n 1, 1) := by decide +kernel
theorem dX10_isSupport_14 : decode cX10_isSupport 14 = .ok (.iload_n 2, 1) := by decide +kernel
theorem dX10_isSupport_15 : decode cX10_isSupport 15 = .ok (.iload 4, 2) := by decide +kernel
theorem dX10_isSupport_17 : decode cX10_isSupport 17 = .ok (.invokevirtual 137, 3) := by decide +kernel
theorem dX10_isSupport_20 : decode cX10_isSupport 20 = .ok (.ifCond .ne 9, 3) := by decide +kernel
theorem dX10_isSupport_23 : decode cX10_isSupport 23 = .ok (.iinc 4 1, 3) := by decide +kernel
theorem dX10_isSupport_26 : decode cX10_isSupport 26 = .ok (.goto (-21), 3) := by decide +kernel
theorem dX10_isSupport_29 : decode cX10_isSupport 29 = .ok (.aload_n 0, 1) := by decide +kernel
theorem dX10_isSupport_30 : decode cX10_isSupport 30 = .ok (.getfield 116, 3) := by decide +kernel
theorem dX10_isSupport_33 : decode cX10_isSupport 33 = .ok (.iconst 1, 1) := by decide +kernel
theorem dX10_isSupport_34 : decode cX10_isSupport 34 = .ok (.if_icmp .ne 36, 3) := by decide +kernel
theorem dX10_isSupport_37 : decode cX10_isSupport 37 = .ok (.iload 4, 2) := by decide +kernel
theorem dX10_isSupport_39 : decode cX10_isSupport 39 = .ok (.bipush 12, 2) := by decide +kernel
theorem dX10_isSupport_41 : decode cX10_isSupport 41 = .ok (.if_icmp .ge 29, 3) := by decide +kernel
theorem dX10_isSupport_44 : decode cX10_isSupport 44 = .ok (.aload_n 0, 1) := by decide +kernel
theorem dX10_isSupport_45 : decode cX10_isSupport 45 = .ok (.iload_n 1, 1) := by decide +kernel
theorem dX10_isSupport_46 : decode cX10_isSupport 46 = .ok (.iload_n 2, 1) := by decide +kernel
theorem dX10_isSupport_47 : decode cX10_isSupport 47 = .ok (.iload 4, 2) := by decide +kernel
theorem dX10_isSupport_49 : decode cX10_isSupport 49 = .ok (.invokevirtual 146, 3) := by decide +kernel
theorem dX10_isSupport_52 : decode cX10_isSupport 52 = .ok (.ifCond .eq 18, 3) := by decide +kernel
theorem dX10_isSupport_55 : decode cX10_isSupport 55 = .ok (.iload 4, 2) := by decide +kernel
theorem dX10_isSupport_57 : decode cX10_isSupport 57 = .ok (.iload_n 3, 1) := by decide +kernel
theorem dX10_isSupport_58 : decode cX10_isSupport 58 = .ok (.isub, 1) := by decide +kernel
theorem dX10_isSupport_59 : decode cX10_isSupport 59 = .ok (.aload_n 0, 1) := by decide +kernel
theorem dX10_isSupport_60 : decode cX10_isSupport 60 = .ok (.getfield 119, 3) := by decide +kernel
theorem dX10_isSupport_63 : decode cX10_isSupport 63 = .ok (.if_icmp .le 7, 3) := by decide +kernel
theorem dX10_isSupport_66 : decode cX10_isSupport 66 = .ok (.iconst 1, 1) := by decide +kernel
theorem dX10_isSupport_67 : decode cX10_isSupport 67 = .ok (.goto 4, 3) := by decide +kernel
theorem dX10_isSupport_70 : decode cX10_isSupport 70 = .ok (.iconst 0, 1) := by decide +kernel
theorem dX10_isSupport_71 : decode cX10_isSupport 71 = .ok (.ireturn, 1) := by decide +kernel
theorem dX10_kindOf_0 : decode cX10_kindOf 0 = .ok (.aload_n 0, 1) := by decide +kernel
theorem dX10_kindOf_1 : decode cX10_kindOf 1 = .ok (.iload_n 1, 1) := by decide +kernel
theorem dX10_kindOf_2 : decode cX10_kindOf 2 = .ok (.iload_n 2, 1) := by decide +kernel
theorem dX10_kindOf_3 : decode cX10_kindOf 3 = .ok (.iload_n 3, 1) := by decide +kernel
theorem dX10_kindOf_4 : decode cX10_kindOf 4 = .ok (.invokevirtual 137, 3) := by decide +kernel
theorem dX10_kindOf_7 : decode cX10_kindOf 7 = .ok (.ifCond .ne 21, 3) := by decide +kernel
theorem dX10_kindOf_10 : decode cX10_kindOf 10 = .ok (.aload_n 0, 1) := by decide +kernel
theorem dX10_kindOf_11 : decode cX10_kindOf 11 = .ok (.iload_n 1, 1) := by decide +kernel
theorem dX10_kindOf_12 : decode cX10_kindOf 12 = .ok (.iload_n 2, 1) := by decide +kernel
theorem dX10_kindOf_13 : decode cX10_kindOf 13 = .ok (.iload_n 3, 1) := by decide +kernel
theorem dX10_kindOf_14 : decode cX10_kindOf 14 = .ok (.invokevirtual 149, 3) := by decide +kernel
theorem dX10_kindOf_17 : decode cX10_kindOf 17 = .ok (.ifCond .eq 8, 3) := by decide +kernel
theorem dX10_kindOf_20 : decode cX10_kindOf 20 = .ok (.bipush 115, 2) := by decide +kernel
theorem dX10_kindOf_22 : decode cX10_kindOf 22 = .ok (.goto 5, 3) := by decide +kernel
theorem dX10_kindOf_25 : decode cX10_kindOf 25 = .ok (.bipush 46, 2) := by decide +kernel
theorem dX10_kindOf_27 : decode cX10_kindOf 27 = .ok (.ireturn, 1) := by decide +kernel
theorem dX10_kindOf_28 : decode cX10_kindOf 28 = .ok (.aload_n 0, 1) := by decide +kernel
theorem dX10_kindOf_29 : decode cX10_kindOf 29 = .ok (.iload_n 1, 1) := by decide +kernel
theorem dX10_kindOf_30 : decode cX10_kindOf 30 = .ok (.iload_n 2, 1) := by decide +kernel
theorem dX10_kindOf_31 : decode cX10_kindOf 31 = .ok (.iload_n 3, 1) := by decide +kernel
theorem dX10_kindOf_32 : decode cX10_kindOf 32 = .ok (.invokevirtual 152, 3) := by decide +kernel
theorem dX10_kindOf_35 : decode cX10_kindOf 35 = .ok (.ifCond .eq 6, 3) := by decide +kernel
theorem dX10_kindOf_38 : decode cX10_kindOf 38 = .ok (.bipush 119, 2) := by decide +kernel
theorem dX10_kindOf_40 : decode cX10_kindOf 40 = .ok (.ireturn, 1) := by decide +kernel
theorem dX10_kindOf_41 : decode cX10_kindOf 41 = .ok (.aload_n 0, 1) := by decide +kernel
theorem dX10_kindOf_42 : decode cX10_kindOf 42 = .ok (.iload_n 1, 1) := by decide +kernel
theorem dX10_kindOf_43 : decode cX10_kindOf 43 = .ok (.iload_n 2, 1) := by decide +kernel
theorem dX10_kindOf_44 : decode cX10_kindOf 44 = .ok (.iload_n 3, 1) := by decide +kernel
theorem dX10_kindOf_45 : decode cX10_kindOf 45 = .ok (.iconst (-1), 1) := by decide +kernel
theorem dX10_kindOf_46 : decode cX10_kindOf 46 = .ok (.invokevirtual 155, 3) := by decide +kernel
theorem dX10_kindOf_49 : decode cX10_kindOf 49 = .ok (.ifCond .eq 6, 3) := by decide +kernel
theorem dX10_kindOf_52 : decode cX10_kindOf 52 = .ok (.bipush 98, 2) := by decide +kernel
theorem dX10_kindOf_54 : decode cX10_kindOf 54 = .ok (.ireturn, 1) := by decide +kernel
theorem dX10_kindOf_55 : decode cX10_kindOf 55 = .ok (.aload_n 0, 1) := by decide +kernel
theorem dX10_kindOf_56 : decode cX10_kindOf 56 = .ok (.iload_n 1, 1) := by decide +kernel
theorem dX10_kindOf_57 : decode cX10_kindOf 57 = .ok (.iload_n 2, 1) := by decide +kernel
theorem dX10_kindOf_58 : decode cX10_kindOf 58 = .ok (.iload_n 3, 1) := by decide +kernel
theorem dX10_kindOf_59 : decode cX10_kindOf 59 = .ok (.iconst 1, 1) := by decide +kernel
theorem dX10_kindOf_60 : decode cX10_kindOf 60 = .ok (.invokevirtual 155, 3) := by decide +kernel
theorem dX10_kindOf_63 : decode cX10_kindOf 63 = .ok (.ifCond .eq 8, 3) := by decide +kernel
theorem dX10_kindOf_66 : decode cX10_kindOf 66 = .ok (.bipush 116, 2) := by decide +kernel
theorem dX10_kindOf_68 : decode cX10_kindOf 68 = .ok (.goto 20, 3) := by decide +kernel
theorem dX10_kindOf_71 : decode cX10_kindOf 71 = .ok (.aload_n 0, 1) := by decide +kernel
theorem dX10_kindOf_72 : decode cX10_kindOf 72 = .ok (.iload_n 1, 1) := by decide +kernel
theorem dX10_kindOf_73 : decode cX10_kindOf 73 = .ok (.iload_n 2, 1) := by decide +kernel
theorem dX10_kindOf_74 : decode cX10_kindOf 74 = .ok (.iload_n 3, 1) := by decide +kernel
theorem dX10_kindOf_75 : decode cX10_kindOf 75 = .ok (.invokevirtual 159, 3) := by decide +kernel
theorem dX10_kindOf_78 : decode cX10_kindOf 78 = .ok (.ifCond .eq 8, 3) := by decide +kernel
theorem dX10_kindOf_81 : decode cX10_kindOf 81 = .ok (.bipush 105, 2) := by decide +kernel
theorem dX10_kindOf_83 : decode cX10_kindOf 83 = .ok (.goto 5, 3) := by decide +kernel
theorem dX10_kindOf_86 : decode cX10_kindOf 86 = .ok (.bipush 101, 2) := by decide +kernel
theorem dX10_kindOf_88 : decode cX10_kindOf 88 = .ok (.ireturn, 1) := by decide +kernel
theorem dX10_kindAt_0 : decode cX10_kindAt 0 = .ok (.aload_n 0, 1) := by decide +kernel
theorem dX10_kindAt_1 : decode cX10_kindAt 1 = .ok (.iload_n 1, 1) := by decide +kernel
theorem dX10_kindAt_2 : decode cX10_kindAt 2 = .ok (.iload_n 2, 1) := by decide +kernel
theorem dX10_kindAt_3 : decode cX10_kindAt 3 = .ok (.iload_n 3, 1) := by decide +kernel
theorem dX10_kindAt_4 : decode cX10_kindAt 4 = .ok (.invokestatic 105, 3) := by decide +kernel
theorem dX10_kindAt_7 : decode cX10_kindAt 7 = .ok (.ifCond .eq 7, 3) := by decide +kernel
theorem dX10_kindAt_10 : decode cX10_kindAt 10 = .ok (.iconst 0, 1) := by decide +kernel
theorem dX10_kindAt_11 : decode cX10_kindAt 11 = .ok (.goto 4, 3) := by decide +kernel
theorem dX10_kindAt_14 : decode cX10_kindAt 14 = .ok (.iconst 1, 1) := by decide +kernel
theorem dX10_kindAt_15 : decode cX10_kindAt 15 = .ok (.invokevirtual 112, 3) := by decide +kernel
theorem dX10_kindAt_18 : decode cX10_kindAt 18 = .ok (.ifCond .eq 13, 3) := by decide +kernel
theorem dX10_kindAt_21 : decode cX10_kindAt 21 = .ok (.aload_n 0, 1) := by decide +kernel
theorem dX10_kindAt_22 : decode cX10_kindAt 22 = .ok (.iload_n 1, 1) := by decide +kernel
theorem dX10_kindAt_23 : decode cX10_kindAt 23 = .ok (.iload_n 2, 1) := by decide +kernel
theorem dX10_kindAt_24 : decode cX10_kindAt 24 = .ok (.iload_n 3, 1) := by decide +kernel
theorem dX10_kindAt_25 : decode cX10_kindAt 25 = .ok (.invokevirtual 162, 3) := by decide +kernel
theorem dX10_kindAt_28 : decode cX10_kindAt 28 = .ok (.goto 4, 3) := by decide +kernel
theorem dX10_kindAt_31 : decode cX10_kindAt 31 = .ok (.iconst 0, 1) := by decide +kernel
theorem dX10_kindAt_32 : decode cX10_kindAt 32 = .ok (.ireturn, 1) := by decide +kernel
theorem dX10_hanging_0 : decode cX10_hanging 0 = .ok (.iconst 0, 1) := by decide +kernel
theorem dX10_hanging_1 : decode cX10_hanging 1 = .ok (.istore_n 2, 1) := by decide +kernel
theorem dX10_hanging_2 : decode cX10_hanging 2 = .ok (.iconst 0, 1) := by decide +kernel
theorem dX10_hanging_3 : decode cX10_hanging 3 = .ok (.istore_n 3, 1) := by decide +kernel
theorem dX10_hanging_4 : decode cX10_hanging 4 = .ok (.iload_n 1, 1) := by decide +kernel
theorem dX10_hanging_5 : decode cX10_hanging 5 = .ok (.invokestatic 130, 3) := by decide +kernel
theorem dX10_hanging_8 : decode cX10_hanging 8 = .ok (.ifCond .eq 40, 3) := by decide +kernel
theorem dX10_hanging_11 : decode cX10_hanging 11 = .ok (.iload_n 3, 1) := by decide +kernel
theorem dX10_hanging_12 : decode cX10_hanging 12 = .ok (.sipush 144, 3) := by decide +kernel
theorem dX10_hanging_15 : decode cX10_hanging 15 = .ok (.if_icmp .ge 33, 3) := by decide +kernel
theorem dX10_hanging_18 : decode cX10_hanging 18 = .ok (.iload_n 2, 1) := by decide +kernel
theorem dX10_hanging_19 : decode cX10_hanging 19 = .ok (.aload_n 0, 1) := by decide +kernel
theorem dX10_hanging_20 : decode cX10_hanging 20 = .ok (.iload_n 3, 1) := by decide +kernel
theorem dX10_hanging_21 : decode cX10_hanging 21 = .ok (.bipush 12, 2) := by decide +kernel
theorem dX10_hanging_23 : decode cX10_hanging 23 = .ok (.irem, 1) := by decide +kernel
theorem dX10_hanging_24 : decode cX10_hanging 24 = .ok (.iload_n 3, 1) := by decide +kernel
theorem dX10_hanging_25 : decode cX10_hanging 25 = .ok (.bipush 12, 2) := by decide +kernel
theorem dX10_hanging_27 : decode cX10_hanging 27 = .ok (.idiv, 1) := by decide +kernel
theorem dX10_hanging_28 : decode cX10_hanging 28 = .ok (.iload_n 1, 1) := by decide +kernel
theorem dX10_hanging_29 : decode cX10_hanging 29 = .ok (.invokevirtual 146, 3) := by decide +kernel
theorem dX10_hanging_32 : decode cX10_hanging 32 = .ok (.ifCond .eq 7, 3) := by decide +kernel
theorem dX10_hanging_35 : decode cX10_hanging 35 = .ok (.iconst 1, 1) := by decide +kernel
theorem dX10_hanging_36 : decode cX10_hanging 36 = .ok (.goto 4, 3) := by decide +kernel
theorem dX10_hanging_39 : decode cX10_hanging 39 = .ok (.iconst 0, 1) := by decide +kernel
theorem dX10_hanging_40 : decode cX10_hanging 40 = .ok (.iadd, 1) := by decide +kernel
theorem dX10_hanging_41 : decode cX10_hanging 41 = .ok (.istore_n 2, 1) := by decide +kernel
theorem dX10_hanging_42 : decode cX10_hanging 42 = .ok (.iinc 3 1, 3) := by decide +kernel
theorem dX10_hanging_45 : decode cX10_hanging 45 = .ok (.goto (-41), 3) := by decide +kernel
theorem dX10_hanging_48 : decode cX10_hanging 48 = .ok (.aload_n 0, 1) := by decide +kernel
theorem dX10_hanging_49 : decode cX10_hanging 49 = .ok (.iload_n 1, 1) := by decide +kernel
theorem dX10_hanging_50 : decode cX10_hanging 50 = .ok (.invokestatic 130, 3) := by decide +kernel
theorem dX10_hanging_53 : decode cX10_hanging 53 = .ok (.ifCond .eq 7, 3) := by decide +kernel
theorem dX10_hanging_56 : decode cX10_hanging 56 = .ok (.iconst 0, 1) := by decide +kernel
theorem dX10_hanging_57 : decode cX10_hanging 57 = .ok (.goto 4, 3) := by decide +kernel
theorem dX10_hanging_60 : decode cX10_hanging 60 = .ok (.iconst 1, 1) := by decide +kernel
theorem dX10_hanging_61 : decode cX10_hanging 61 = .ok (.invokevirtual 112, 3) := by decide +kernel
theorem dX10_hanging_64 : decode cX10_hanging 64 = .ok (.ifCond .eq 7, 3) := by decide +kernel
theorem dX10_hanging_67 : decode cX10_hanging 67 = .ok (.iload_n 2, 1) := by decide +kernel
theorem dX10_hanging_68 : decode cX10_hanging 68 = .ok (.goto 4, 3) := by decide +kernel
theorem dX10_hanging_71 : decode cX10_hanging 71 = .ok (.iconst 0, 1) := by decide +kernel
theorem dX10_hanging_72 : decode cX10_hanging 72 = .ok (.ireturn, 1) := by decide +kernel
theorem dX10_sets_0 : decode cX10_sets 0 = .ok (.iconst 0, 1) := by decide +kernel
theorem dX10_sets_1 : decode cX10_sets 1 = .ok (.istore_n 3, 1) := by decide +kernel
theorem dX10_sets_2 : decode cX10_sets 2 = .ok (.iload_n 3, 1) := by decide +kernel
theorem dX10_sets_3 : decode cX10_sets 3 = .ok (.aload_n 0, 1) := by decide +kernel
theorem dX10_sets_4 : decode cX10_sets 4 = .ok (.getfield 74, 3) := by decide +kernel
theorem dX10_sets_7 : decode cX10_sets 7 = .ok (.arraylength, 1) := by decide +kernel
theorem dX10_sets_8 : decode cX10_sets 8 = .ok (.if_icmp .ge 41, 3) := by decide +kernel
theorem dX10_sets_11 : decode cX10_sets 11 = .ok (.aload_n 0, 1) := by decide +kernel
theorem dX10_sets_12 : decode cX10_sets 12 = .ok (.getfield 74, 3) := by decide +kernel
theorem dX10_sets_15 : decode cX10_sets 15 = .ok (.iload_n 3, 1) := by decide +kernel
theorem dX10_sets_16 : decode cX10_sets 16 = .ok (.aload_n 0, 1) := by decide +kernel
theorem dX10_sets_17 : decode cX10_sets 17 = .ok (.iload_n 3, 1) := by decide +kernel
theorem dX10_sets_18 : decode cX10_sets 18 = .ok (.bipush 14, 2) := by decide +kernel
theorem dX10_sets_20 : decode cX10_sets 20 = .ok (.irem, 1) := by decide +kernel
theorem dX10_sets_21 : decode cX10_sets 21 = .ok (.iconst 1, 1) := by decide +kernel
theorem dX10_sets_22 : decode cX10_sets 22 = .ok (.isub, 1) := by decide +kernel
theorem dX10_sets_23 : decode cX10_sets 23 = .ok (.iload_n 3, 1) := by decide +kernel
theorem dX10_sets_24 : decode cX10_sets 24 = .ok (.bipush 14, 2) := by decide +kernel
theorem dX10_sets_26 : decode cX10_sets 26 = .ok (.idiv, 1) := by decide +kernel
theorem dX10_sets_27 : decode cX10_sets 27 = .ok (.iconst 1, 1) := by decide +kernel
theorem dX10_sets_28 : decode cX10_sets 28 = .ok (.isub, 1) := by decide +kernel
theorem dX10_sets_29 : decode cX10_sets 29 = .ok (.iload_n 1, 1) := by decide +kernel
theorem dX10_sets_30 : decode cX10_sets 30 = .ok (.invokevirtual 137, 3) := by decide +kernel
theorem dX10_sets_33 : decode cX10_sets 33 = .ok (.iload_n 2, 1) := by decide +kernel
theorem dX10_sets_34 : decode cX10_sets 34 = .ok (.if_icmp .ne 7, 3) := by decide +kernel
theorem dX10_sets_37 : decode cX10_sets 37 = .ok (.iload_n 3, 1) := by decide +kernel
theorem dX10_sets_38 : decode cX10_sets 38 = .ok (.goto 4, 3) := by decide +kernel
theorem dX10_sets_41 : decode cX10_sets 41 = .ok (.iconst (-1), 1) := by decide +kernel
theorem dX10_sets_42 : decode cX10_sets 42 = .ok (.iastore, 1) := by decide +kernel
theorem dX10_sets_43 : decode cX10_sets 43 = .ok (.iinc 3 1, 3) := by decide +kernel
theorem dX10_sets_46 : decode cX10_sets 46 = .ok (.goto (-44), 3) := by decide +kernel
theorem dX10_sets_49 : decode cX10_sets 49 = .ok (.iconst 1, 1) := by decide +kernel
theorem dX10_sets_50 : decode cX10_sets 50 = .ok (.istore_n 3, 1) := by decide +kernel
theorem dX10_sets_51 : decode cX10_sets 51 = .ok (.iload_n 3, 1) := by decide +kernel
theorem dX10_sets_52 : decode cX10_sets 52 = .ok (.ifCond .eq 58, 3) := by decide +kernel
theorem dX10_sets_55 : decode cX10_sets 55 = .ok (.iconst 0, 1) := by decide +kernel
theorem dX10_sets_56 : decode cX10_sets 56 = .ok (.istore_n 3, 1) := by decide +kernel
theorem dX10_sets_57 : decode cX10_sets 57 = .ok (.iconst 0, 1) := by decide +kernel
theorem dX10_sets_58 : decode cX10_sets 58 = .ok (.istore 4, 2) := by decide +kernel
theorem dX10_sets_60 : decode cX10_sets 60 = .ok (.iload 4, 2) := by decide +kernel
theorem dX10_sets_62 : decode cX10_sets 62 = .ok (.aload_n 0, 1) := by decide +kernel
theorem dX10_sets_63 : decode cX10_sets 63 = .ok (.getfield 74, 3) := by decide +kernel
theorem dX10_sets_66 : decode cX10_sets 66 = .ok (.arraylength, 1) := by decide +kernel
theorem dX10_sets_67 : decode cX10_sets 67 = .ok (.if_icmp .ge 40, 3) := by decide +kernel
theorem dX10_sets_70 : decode cX10_sets 70 = .ok (.aload_n 0, 1) := by decide +kernel
theorem dX10_sets_71 : decode cX10_sets 71 = .ok (.getfield 74, 3) := by decide +kernel
theorem dX10_sets_74 : decode cX10_sets 74 = .ok (.iload 4, 2) := by decide +kernel
theorem dX10_sets_76 : decode cX10_sets 76 = .ok (.iaload, 1) := by decide +kernel
theorem dX10_sets_77 : decode cX10_sets 77 = .ok (.iconst (-1), 1) := by decide +kernel
theorem dX10_sets_78 : decode cX10_sets 78 = .ok (.if_icmp .eq 13, 3) := by decide +kernel
theorem dX10_sets_81 : decode cX10_sets 81 = .ok (.aload_n 0, 1) := by decide +kernel
theorem dX10_sets_82 : decode cX10_sets 82 = .ok (.iload 4, 2) := by decide +kernel
theorem dX10_sets_84 : decode cX10_sets 84 = .ok (.iload_n 2, 1) := by decide +kernel
theorem dX10_sets_85 : decode cX10_sets 85 = .ok (.invokevirtual 166, 3) := by decide +kernel
theorem dX10_sets_88 : decode cX10_sets 88 = .ok (.ifCond .ne 7, 3) := by decide +kernel
theorem dX10_sets_91 : decode cX10_sets 91 = .ok (.iload_n 3, 1) := by decide +kernel
theorem dX10_sets_92 : decode cX10_sets 92 = .ok (.ifCond .eq 7, 3) := by decide +kernel
theorem dX10_sets_95 : decode cX10_sets 95 = .ok (.iconst 1, 1) := by decide +kernel
theorem dX10_sets_96 : decode cX10_sets 96 = .ok (.goto 4, 3) := by decide +kernel
theorem dX10_sets_99 : decode cX10_sets 99 = .ok (.iconst 0, 1) := by decide +kernel
theorem dX10_sets_100 : decode cX10_sets 100 = .ok (.istore_n 3, 1) := by decide +kernel
theorem dX10_sets_101 : decode cX10_sets 101 = .ok (.iinc 4 1, 3) := by decide +kernel
theorem dX10_sets_104 : decode cX10_sets 104 = .ok (.goto (-44), 3) := by decide +kernel
theorem dX10_sets_107 : decode cX10_sets 107 = .ok (.goto (-56), 3) := by decide +kernel
theorem dX10_sets_110 : decode cX10_sets 110 = .ok (.iconst 0, 1) := by decide +kernel
theorem dX10_sets_111 : decode cX10_sets 111 = .ok (.istore 4, 2) := by decide +kernel
theorem dX10_sets_113 : decode cX10_sets 113 = .ok (.iconst 0, 1) := by decide +kernel
theorem dX10_sets_114 : decode cX10_sets 114 = .ok (.istore 5, 2) := by decide +kernel
theorem dX10_sets_116 : decode cX10_sets 116 = .ok (.iload 5, 2) := by decide +kernel
theorem dX10_sets_118 : decode cX10_sets 118 = .ok (.aload_n 0, 1) := by decide +kernel
theorem dX10_sets_119 : decode cX10_sets 119 = .ok (.getfield 74, 3) := by decide +kernel
theorem dX10_sets_122 : decode cX10_sets 122 = .ok (.arraylength, 1) := by decide +kernel
theorem dX10_sets_123 : decode cX10_sets 123 = .ok (.if_icmp .ge 31, 3) := by decide +kernel
theorem dX10_sets_126 : decode cX10_sets 126 = .ok (.iload 4, 2) := by decide +kernel
theorem dX10_sets_128 : decode cX10_sets 128 = .ok (.aload_n 0, 1) := by decide +kernel
theorem dX10_sets_129 : decode cX10_sets 129 = .ok (.getfield 74, 3) := by decide +kernel
theorem dX10_sets_132 : decode cX10_sets 132 = .ok (.iload 5, 2) := by decide +kernel
theorem dX10_sets_134 : decode cX10_sets 134 = .ok (.iaload, 1) := by decide +kernel
theorem dX10_sets_135 : decode cX10_sets 135 = .ok (.iload 5, 2) := by decide +kernel
theorem dX10_sets_137 : decode cX10_sets 137 = .ok (.if_icmp .ne 7, 3) := by decide +kernel
theorem dX10_sets_140 : decode cX10_sets 140 = .ok (.iconst 1, 1) := by decide +kernel
theorem dX10_sets_141 : decode cX10_sets 141 = .ok (.goto 4, 3) := by decide +kernel
theorem dX10_sets_144 : decode cX10_sets 144 = .ok (.iconst 0, 1) := by decide +kernel
theorem dX10_sets_145 : decode cX10_sets 145 = .ok (.iadd, 1) := by decide +kernel
theorem dX10_sets_146 : decode cX10_sets 146 = .ok (.istore 4, 2) := by decide +kernel
theorem dX10_sets_148 : decode cX10_sets 148 = .ok (.iinc 5 1, 3) := by decide +kernel
theorem dX10_sets_151 : decode cX10_sets 151 = .ok (.goto (-35), 3) := by decide +kernel
theorem dX10_sets_154 : decode cX10_sets 154 = .ok (.iload 4, 2) := by decide +kernel
theorem dX10_sets_156 : decode cX10_sets 156 = .ok (.ireturn, 1) := by decide +kernel
theorem dX10_spreads_0 : decode cX10_spreads 0 = .ok (.aload_n 0, 1) := by decide +kernel
theorem dX10_spreads_1 : decode cX10_spreads 1 = .ok (.getfield 74, 3) := by decide +kernel
theorem dX10_spreads_4 : decode cX10_spreads 4 = .ok (.iload_n 1, 1) := by decide +kernel
theorem dX10_spreads_5 : decode cX10_spreads 5 = .ok (.iaload, 1) := by decide +kernel
theorem dX10_spreads_6 : decode cX10_spreads 6 = .ok (.istore_n 3, 1) := by decide +kernel
theorem dX10_spreads_7 : decode cX10_spreads 7 = .ok (.iconst 0, 1) := by decide +kernel
theorem dX10_spreads_8 : decode cX10_spreads 8 = .ok (.istore 4, 2) := by decide +kernel
theorem dX10_spreads_10 : decode cX10_spreads 10 = .ok (.iload 4, 2) := by decide +kernel
theorem dX10_spreads_12 : decode cX10_spreads 12 = .ok (.bipush 9, 2) := by decide +kernel
theorem dX10_spreads_14 : decode cX10_spreads 14 = .ok (.if_icmp .ge 134, 3) := by decide +kernel
theorem dX10_spreads_17 : decode cX10_spreads 17 = .ok (.iload_n 1, 1) := by decide +kernel
theorem dX10_spreads_18 : decode cX10_spreads 18 = .ok (.bipush 14, 2) := by decide +kernel
theorem dX10_spreads_20 : decode cX10_spreads 20 = .ok (.irem, 1) := by decide +kernel
theorem dX10_spreads_21 : decode cX10_spreads 21 = .ok (.iload 4, 2) := by decide +kernel
theorem dX10_spreads_23 : decode cX10_spreads 23 = .ok (.iconst 3, 1) := by decide +kernel
theorem dX10_spreads_24 : decode cX10_spreads 24 = .ok (.irem, 1) := by decide +kernel
theorem dX10_spreads_25 : decode cX10_spreads 25 = .ok (.iadd, 1) := by decide +kernel
theorem dX10_spreads_26 : decode cX10_spreads 26 = .ok (.iconst 1, 1) := by decide +kernel
theorem dX10_spreads_27 : decode cX10_spreads 27 = .ok (.isub, 1) := by decide +kernel
theorem dX10_spreads_28 : decode cX10_spreads 28 = .ok (.istore 5, 2) := by decide +kernel
theorem dX10_spreads_30 : decode cX10_spreads 30 = .ok (.iload_n 1, 1) := by decide +kernel
theorem dX10_spreads_31 : decode cX10_spreads 31 = .ok (.bipush 14, 2) := by decide +kernel
theorem dX10_spreads_33 : decode cX10_spreads 33 = .ok (.idiv, 1) := by decide +kernel
theorem dX10_spreads_34 : decode cX10_spreads 34 = .ok (.iload 4, 2) := by decide +kernel
theorem dX10_spreads_36 : decode cX10_spreads 36 = .ok (.iconst 3, 1) := by decide +kernel
theorem dX10_spreads_37 : decode cX10_spreads 37 = .ok (.idiv, 1) := by decide +kernel
theorem dX10_spreads_38 : decode cX10_spreads 38 = .ok (.iadd, 1) := by decide +kernel
theorem dX10_spreads_39 : decode cX10_spreads 39 = .ok (.iconst 1, 1) := by decide +kernel
theorem dX10_spreads_40 : decode cX10_spreads 40 = .ok (.isub, 1) := by decide +kernel
theorem dX10_spreads_41 : decode cX10_spreads 41 = .ok (.istore 6, 2) := by decide +kernel
theorem dX10_spreads_43 : decode cX10_spreads 43 = .ok (.iload 5, 2) := by decide +kernel
theorem dX10_spreads_45 : decode cX10_spreads 45 = .ok (.iconst 0, 1) := by decide +kernel
theorem dX10_spreads_46 : decode cX10_spreads 46 = .ok (.bipush 13, 2) := by decide +kernel
theorem dX10_spreads_48 : decode cX10_spreads 48 = .ok (.invokestatic 101, 3) := by decide +kernel
theorem dX10_spreads_51 : decode cX10_spreads 51 = .ok (.ifCond .eq 30, 3) := by decide +kernel
theorem dX10_spreads_54 : decode cX10_spreads 54 = .ok (.iload 6, 2) := by decide +kernel
theorem dX10_spreads_56 : decode cX10_spreads 56 = .ok (.iconst 0, 1) := by decide +kernel
theorem dX10_spreads_57 : decode cX10_spreads 57 = .ok (.bipush 13, 2) := by decide +kernel
theorem dX10_spreads_59 : decode cX10_spreads 59 = .ok (.invokestatic 101, 3) := by decide +kernel
theorem dX10_spreads_62 : decode cX10_spreads 62 = .ok (.ifCond .eq 19, 3) := by decide +kernel
theorem dX10_spreads_65 : decode cX10_spreads 65 = .ok (.iload_n 2, 1) := by decide +kernel
theorem dX10_spreads_66 : decode cX10_spreads 66 = .ok (.ifCond .eq 11, 3) := by decide +kernel
theorem dX10_spreads_69 : decode cX10_spreads 69 = .ok (.iload 4, 2) := by decide +kernel
theorem dX10_spreads_71 : decode cX10_spreads 71 = .ok (.iconst 2, 1) := by decide +kernel
theorem dX10_spreads_72 : decode cX10_spreads 72 = .ok (.irem, 1) := by decide +kernel
theorem dX10_spreads_73 : decode cX10_spreads 73 = .ok (.iconst 1, 1) := by decide +kernel
theorem dX10_spreads_74 : decode cX10_spreads 74 = .ok (.if_icmp .ne 7, 3) := by decide +kernel
theorem dX10_spreads_77 : decode cX10_spreads 77 = .ok (.iconst 1, 1) := by decide +kernel
theorem dX10_spreads_78 : decode cX10_spreads 78 = .ok (.goto 4, 3) := by decide +kernel
theorem dX10_spreads_81 : decode cX10_spreads 81 = .ok (.iconst 0, 1) := by decide +kernel
theorem dX10_spreads_82 : decode cX10_spreads 82 = .ok (.istore 7, 2) := by decide +kernel
theorem dX10_spreads_84 : decode cX10_spreads 84 = .ok (.iload 7, 2) := by decide +kernel
theorem dX10_spreads_86 : decode cX10_spreads 86 = .ok (.ifCond .eq 19, 3) := by decide +kernel
theorem dX10_spreads_89 : decode cX10_spreads 89 = .ok (.aload_n 0, 1) := by decide +kernel
theorem dX10_spreads_90 : decode cX10_spreads 90 = .ok (.getfield 74, 3) := by decide +kernel
theorem dX10_spreads_93 : decode cX10_spreads 93 = .ok (.bipush 14, 2) := by decide +kernel
theorem dX10_spreads_95 : decode cX10_spreads 95 = .ok (.iload 6, 2) := by decide +kernel
theorem dX10_spreads_97 : decode cX10_spreads 97 = .ok (.imul, 1) := by decide +kernel
theorem dX10_spreads_98 : decode cX10_spreads 98 = .ok (.iload 5, 2) := by decide +kernel
theorem dX10_spreads_100 : decode cX10_spreads 100 = .ok (.iadd, 1) := by decide +kernel
theorem dX10_spreads_101 : decode cX10_spreads 101 = .ok (.iaload, 1) := by decide +kernel
theorem dX10_spreads_102 : decode cX10_spreads 102 = .ok (.goto 4, 3) := by decide +kernel
theorem dX10_spreads_105 : decode cX10_spreads 105 = .ok (.iconst (-1), 1) := by decide +kernel
theorem dX10_spreads_106 : decode cX10_spreads 106 = .ok (.istore 8, 2) := by decide +kernel
theorem dX10_spreads_108 : decode cX10_spreads 108 = .ok (.aload_n 0, 1) := by decide +kernel
theorem dX10_spreads_109 : decode cX10_spreads 109 = .ok (.getfield 74, 3) := by decide +kernel
theorem dX10_spreads_112 : decode cX10_spreads 112 = .ok (.iload_n 1, 1) := by decide +kernel
theorem dX10_spreads_113 : decode cX10_spreads 113 = .ok (.iload 8, 2) := by decide +kernel
theorem dX10_spreads_115 : decode cX10_spreads 115 = .ok (.iconst (-1), 1) := by decide +kernel
theorem dX10_spreads_116 : decode cX10_spreads 116 = .ok (.if_icmp .eq 19, 3) := by decide +kernel
theorem dX10_spreads_119 : decode cX10_spreads 119 = .ok (.iload 8, 2) := by decide +kernel
theorem dX10_spreads_121 : decode cX10_spreads 121 = .ok (.aload_n 0, 1) := by decide +kernel
theorem dX10_spreads_122 : decode cX10_spreads 122 = .ok (.getfield 74, 3) := by decide +kernel
theorem dX10_spreads_125 : decode cX10_spreads 125 = .ok (.iload_n 1, 1) := by decide +kernel
theorem dX10_spreads_126 : decode cX10_spreads 126 = .ok (.iaload, 1) := by decide +kernel
theorem dX10_spreads_127 : decode cX10_spreads 127 = .ok (.if_icmp .ge 8, 3) := by decide +kernel
theorem dX10_spreads_130 : decode cX10_spreads 130 = .ok (.iload 8, 2) := by decide +kernel
theorem dX10_spreads_132 : decode cX10_spreads 132 = .ok (.goto 9, 3) := by decide +kernel
theorem dX10_spreads_135 : decode cX10_spreads 135 = .ok (.aload_n 0, 1) := by decide +kernel
theorem dX10_spreads_136 : decode cX10_spreads 136 = .ok (.getfield 74, 3) := by decide +kernel
theorem dX10_spreads_139 : decode cX10_spreads 139 = .ok (.iload_n 1, 1) := by decide +kernel
theorem dX10_spreads_140 : decode cX10_spreads 140 = .ok (.iaload, 1) := by decide +kernel
theorem dX10_spreads_141 : decode cX10_spreads 141 = .ok (.iastore, 1) := by decide +kernel
theorem dX10_spreads_142 : decode cX10_spreads 142 = .ok (.iinc 4 1, 3) := by decide +kernel
theorem dX10_spreads_145 : decode cX10_spreads 145 = .ok (.goto (-135), 3) := by decide +kernel
theorem dX10_spreads_148 : decode cX10_spreads 148 = .ok (.aload_n 0, 1) := by decide +kernel
theorem dX10_spreads_149 : decode cX10_spreads 149 = .ok (.getfield 74, 3) := by decide +kernel
theorem dX10_spreads_152 : decode cX10_spreads 152 = .ok (.iload_n 1, 1) := by decide +kernel
theorem dX10_spreads_153 : decode cX10_spreads 153 = .ok (.iaload, 1) := by decide +kernel
theorem dX10_spreads_154 : decode cX10_spreads 154 = .ok (.iload_n 3, 1) := by decide +kernel
theorem dX10_spreads_155 : decode cX10_spreads 155 = .ok (.if_icmp .eq 7, 3) := by decide +kernel
theorem dX10_spreads_158 : decode cX10_spreads 158 = .ok (.iconst 1, 1) := by decide +kernel
theorem dX10_spreads_159 : decode cX10_spreads 159 = .ok (.goto 4, 3) := by decide +kernel
theorem dX10_spreads_162 : decode cX10_spreads 162 = .ok (.iconst 0, 1) := by decide +kernel
theorem dX10_spreads_163 : decode cX10_spreads 163 = .ok (.ireturn, 1) := by decide +kernel
theorem dX10_outer_0 : decode cX10_outer 0 = .ok (.aload_n 0, 1) := by decide +kernel
theorem dX10_outer_1 : decode cX10_outer 1 = .ok (.iload_n 1, 1) := by decide +kernel
theorem dX10_outer_2 : decode cX10_outer 2 = .ok (.invokestatic 130, 3) := by decide +kernel
theorem dX10_outer_5 : decode cX10_outer 5 = .ok (.ifCond .eq 7, 3) := by decide +kernel
theorem dX10_outer_8 : decode cX10_outer 8 = .ok (.iconst 0, 1) := by decide +kernel
theorem dX10_outer_9 : decode cX10_outer 9 = .ok (.goto 4, 3) := by decide +kernel
theorem dX10_outer_12 : decode cX10_outer 12 = .ok (.iconst 1, 1) := by decide +kernel
theorem dX10_outer_13 : decode cX10_outer 13 = .ok (.invokevirtual 112, 3) := by decide +kernel
theorem dX10_outer_16 : decode cX10_outer 16 = .ok (.ifCond .eq 12, 3) := by decide +kernel
theorem dX10_outer_19 : decode cX10_outer 19 = .ok (.aload_n 0, 1) := by decide +kernel
theorem dX10_outer_20 : decode cX10_outer 20 = .ok (.iload_n 1, 1) := by decide +kernel
theorem dX10_outer_21 : decode cX10_outer 21 = .ok (.iconst 1, 1) := by decide +kernel
theorem dX10_outer_22 : decode cX10_outer 22 = .ok (.invokevirtual 170, 3) := by decide +kernel
theorem dX10_outer_25 : decode cX10_outer 25 = .ok (.goto 4, 3) := by decide +kernel
theorem dX10_outer_28 : decode cX10_outer 28 = .ok (.iconst 0, 1) := by decide +kernel
theorem dX10_outer_29 : decode cX10_outer 29 = .ok (.ireturn, 1) := by decide +kernel
theorem dX10_inner_0 : decode cX10_inner 0 = .ok (.aload_n 0, 1) := by decide +kernel
theorem dX10_inner_1 : decode cX10_inner 1 = .ok (.iload_n 1, 1) := by decide +kernel
theorem dX10_inner_2 : decode cX10_inner 2 = .ok (.invokestatic 130, 3) := by decide +kernel
theorem dX10_inner_5 : decode cX10_inner 5 = .ok (.ifCond .eq 7, 3) := by decide +kernel
theorem dX10_inner_8 : decode cX10_inner 8 = .ok (.iconst 0, 1) := by decide +kernel
theorem dX10_inner_9 : decode cX10_inner 9 = .ok (.goto 4, 3) := by decide +kernel
theorem dX10_inner_12 : decode cX10_inner 12 = .ok (.iconst 1, 1) := by decide +kernel
theorem dX10_inner_13 : decode cX10_inner 13 = .ok (.invokevirtual 112, 3) := by decide +kernel
theorem dX10_inner_16 : decode cX10_inner 16 = .ok (.ifCond .eq 14, 3) := by decide +kernel
theorem dX10_inner_19 : decode cX10_inner 19 = .ok (.aload_n 0, 1) := by decide +kernel
theorem dX10_inner_20 : decode cX10_inner 20 = .ok (.iload_n 1, 1) := by decide +kernel
theorem dX10_inner_21 : decode cX10_inner 21 = .ok (.iconst 0, 1) := by decide +kernel
theorem dX10_inner_22 : decode cX10_inner 22 = .ok (.invokevirtual 170, 3) := by decide +kernel
theorem dX10_inner_25 : decode cX10_inner 25 = .ok (.iconst 1, 1) := by decide +kernel
theorem dX10_inner_26 : decode cX10_inner 26 = .ok (.isub, 1) := by decide +kernel
theorem dX10_inner_27 : decode cX10_inner 27 = .ok (.goto 4, 3) := by decide +kernel
theorem dX10_inner_30 : decode cX10_inner 30 = .ok (.iconst 0, 1) := by decide +kernel
theorem dX10_inner_31 : decode cX10_inner 31 = .ok (.ireturn, 1) := by decide +kernel
theorem dX10_outlinesByEdges_0 : decode cX10_outlinesByEdges 0 = .ok (.aload_n 0, 1) := by decide +kernel
theorem dX10_outlinesByEdges_1 : decode cX10_outlinesByEdges 1 = .ok (.iload_n 1, 1) := by decide +kernel
theorem dX10_outlinesByEdges_2 : decode cX10_outlinesByEdges 2 = .ok (.invokestatic 130, 3) := by decide +kernel
theorem dX10_outlinesByEdges_5 : decode cX10_outlinesByEdges 5 = .ok (.ifCond .eq 7, 3) := by decide +kernel
theorem dX10_outlinesByEdges_8 : decode cX10_outlinesByEdges 8 = .ok (.iconst 0, 1) := by decide +kernel
theorem dX10_outlinesByEdges_9 : decode cX10_outlinesByEdges 9 = .ok (.goto 4, 3) := by decide +kernel
theorem dX10_outlinesByEdges_12 : decode cX10_outlinesByEdges 12 = .ok (.iconst 1, 1) := by decide +kernel
theorem dX10_outlinesByEdges_13 : decode cX10_outlinesByEdges 13 = .ok (.invokevirtual 112, 3) := by decide +kernel
theorem dX10_outlinesByEdges_16 : decode cX10_outlinesByEdges 16 = .ok (.ifCond .eq 21, 3) := by decide +kernel
theorem dX10_outlinesByEdges_19 : decode cX10_outlinesByEdges 19 = .ok (.aload_n 0, 1) := by decide +kernel
theorem dX10_outlinesByEdges_20 : decode cX10_outlinesByEdges 20 = .ok (.iload_n 1, 1) := by decide +kernel
theorem dX10_outlinesByEdges_21 : decode cX10_outlinesByEdges 21 = .ok (.iconst 1, 1) := by decide +kernel
theorem dX10_outlinesByEdges_22 : decode cX10_outlinesByEdges 22 = .ok (.invokevirtual 170, 3) := by decide +kernel
theorem dX10_outlinesByEdges_25 : decode cX10_outlinesByEdges 25 = .ok (.aload_n 0, 1) := by decide +kernel
theorem dX10_outlinesByEdges_26 : decode cX10_outlinesByEdges 26 = .ok (.iload_n 1, 1) := by decide +kernel
theorem dX10_outlinesByEdges_27 : decode cX10_outlinesByEdges 27 = .ok (.iconst 0, 1) := by decide +kernel
theorem dX10_outlinesByEdges_28 : decode cX10_outlinesByEdges 28 = .ok (.invokevirtual 170, 3) := by decide +kernel
theorem dX10_outlinesByEdges_31 : decode cX10_outlinesByEdges 31 = .ok (.iadd, 1) := by decide +kernel
theorem dX10_outlinesByEdges_32 : decode cX10_outlinesByEdges 32 = .ok (.iconst 1, 1) := by decide +kernel
theorem dX10_outlinesByEdges_33 : decode cX10_outlinesByEdges 33 = .ok (.isub, 1) := by decide +kernel
theorem dX10_outlinesByEdges_34 : decode cX10_outlinesByEdges 34 = .ok (.goto 4, 3) := by decide +kernel
theorem dX10_outlinesByEdges_37 : decode cX10_outlinesByEdges 37 = .ok (.iconst 0, 1) := by decide +kernel
theorem dX10_outlinesByEdges_38 : decode cX10_outlinesByEdges 38 = .ok (.ireturn, 1) := by decide +kernel
theorem dX10_edges_0 : decode cX10_edges 0 = .ok (.iconst 0, 1) := by decide +kernel
theorem dX10_edges_1 : decode cX10_edges 1 = .ok (.istore_n 2, 1) := by decide +kernel
theorem dX10_edges_2 : decode cX10_edges 2 = .ok (.iconst 0, 1) := by decide +kernel
theorem dX10_edges_3 : decode cX10_edges 3 = .ok (.istore_n 3, 1) := by decide +kernel
theorem dX10_edges_4 : decode cX10_edges 4 = .ok (.iload_n 1, 1) := by decide +kernel
theorem dX10_edges_5 : decode cX10_edges 5 = .ok (.invokestatic 130, 3) := by decide +kernel
theorem dX10_edges_8 : decode cX10_edges 8 = .ok (.ifCond .eq 78, 3) := by decide +kernel
theorem dX10_edges_11 : decode cX10_edges 11 = .ok (.iload_n 3, 1) := by decide +kernel
theorem dX10_edges_12 : decode cX10_edges 12 = .ok (.sipush 576, 3) := by decide +kernel
theorem dX10_edges_15 : decode cX10_edges 15 = .ok (.if_icmp .ge 71, 3) := by decide +kernel
theorem dX10_edges_18 : decode cX10_edges 18 = .ok (.iload_n 3, 1) := by decide +kernel
theorem dX10_edges_19 : decode cX10_edges 19 = .ok (.iconst 4, 1) := by decide +kernel
theorem dX10_edges_20 : decode cX10_edges 20 = .ok (.idiv, 1) := by decide +kernel
theorem dX10_edges_21 : decode cX10_edges 21 = .ok (.bipush 12, 2) := by decide +kernel
theorem dX10_edges_23 : decode cX10_edges 23 = .ok (.irem, 1) := by decide +kernel
theorem dX10_edges_24 : decode cX10_edges 24 = .ok (.istore 4, 2) := by decide +kernel
theorem dX10_edges_26 : decode cX10_edges 26 = .ok (.iload_n 3, 1) := by decide +kernel
theorem dX10_edges_27 : decode cX10_edges 27 = .ok (.iconst 4, 1) := by decide +kernel
theorem dX10_edges_28 : decode cX10_edges 28 = .ok (.idiv, 1) := by decide +kernel
theorem dX10_edges_29 : decode cX10_edges 29 = .ok (.bipush 12, 2) := by decide +kernel
theorem dX10_edges_31 : decode cX10_edges 31 = .ok (.idiv, 1) := by decide +kernel
theorem dX10_edges_32 : decode cX10_edges 32 = .ok (.istore 5, 2) := by decide +kernel
theorem dX10_edges_34 : decode cX10_edges 34 = .ok (.iload_n 2, 1) := by decide +kernel
theorem dX10_edges_35 : decode cX10_edges 35 = .ok (.aload_n 0, 1) := by decide +kernel
theorem dX10_edges_36 : decode cX10_edges 36 = .ok (.iload 4, 2) := by decide +kernel
theorem dX10_edges_38 : decode cX10_edges 38 = .ok (.iload 5, 2) := by decide +kernel
theorem dX10_edges_40 : decode cX10_edges 40 = .ok (.iload_n 1, 1) := by decide +kernel
theorem dX10_edges_41 : decode cX10_edges 41 = .ok (.invokevirtual 137, 3) := by decide +kernel
theorem dX10_edges_44 : decode cX10_edges 44 = .ok (.ifCond .eq 33, 3) := by decide +kernel
theorem dX10_edges_47 : decode cX10_edges 47 = .ok (.aload_n 0, 1) := by decide +kernel
theorem dX10_edges_48 : decode cX10_edges 48 = .ok (.iload 4, 2) := by decide +kernel
theorem dX10_edges_50 : decode cX10_edges 50 = .ok (.iload_n 3, 1) := by decide +kernel
theorem dX10_edges_51 : decode cX10_edges 51 = .ok (.iconst 4, 1) := by decide +kernel
theorem dX10_edges_52 : decode cX10_edges 52 = .ok (.irem, 1) := by decide +kernel
theorem dX10_edges_53 : decode cX10_edges 53 = .ok (.invokestatic 140, 3) := by decide +kernel
theorem dX10_edges_56 : decode cX10_edges 56 = .ok (.iadd, 1) := by decide +kernel
theorem dX10_edges_57 : decode cX10_edges 57 = .ok (.iload 5, 2) := by decide +kernel
theorem dX10_edges_59 : decode cX10_edges 59 = .ok (.iload_n 3, 1) := by decide +kernel
theorem dX10_edges_60 : decode cX10_edges 60 = .ok (.iconst 4, 1) := by decide +kernel
theorem dX10_edges_61 : decode cX10_edges 61 = .ok (.irem, 1) := by decide +kernel
theorem dX10_edges_62 : decode cX10_edges 62 = .ok (.invokestatic 143, 3) := by decide +kernel
theorem dX10_edges_65 : decode cX10_edges 65 = .ok (.iadd, 1) := by decide +kernel
theorem dX10_edges_66 : decode cX10_edges 66 = .ok (.iload_n 1, 1) := by decide +kernel
theorem dX10_edges_67 : decode cX10_edges 67 = .ok (.invokevirtual 137, 3) := by decide +kernel
theorem dX10_edges_70 : decode cX10_edges 70 = .ok (.ifCond .ne 7, 3) := by decide +kernel
theorem dX10_edges_73 : decode cX10_edges 73 = .ok (.iconst 1, 1) := by decide +kernel
theorem dX10_edges_74 : decode cX10_edges 74 = .ok (.goto 4, 3) := by decide +kernel
theorem dX10_edges_77 : decode cX10_edges 77 = .ok (.iconst 0, 1) := by decide +kernel
theorem dX10_edges_78 : decode cX10_edges 78 = .ok (.iadd, 1) := by decide +kernel
theorem dX10_edges_79 : decode cX10_edges 79 = .ok (.istore_n 2, 1) := by decide +kernel
theorem dX10_edges_80 : decode cX10_edges 80 = .ok (.iinc 3 1, 3) := by decide +kernel
theorem dX10_edges_83 : decode cX10_edges 83 = .ok (.goto (-79), 3) := by decide +kernel
theorem dX10_edges_86 : decode cX10_edges 86 = .ok (.aload_n 0, 1) := by decide +kernel
theorem dX10_edges_87 : decode cX10_edges 87 = .ok (.iload_n 1, 1) := by decide +kernel
theorem dX10_edges_88 : decode cX10_edges 88 = .ok (.invokestatic 130, 3) := by decide +kernel
theorem dX10_edges_91 : decode cX10_edges 91 = .ok (.ifCond .eq 7, 3) := by decide +kernel
theorem dX10_edges_94 : decode cX10_edges 94 = .ok (.iconst 0, 1) := by decide +kernel
theorem dX10_edges_95 : decode cX10_edges 95 = .ok (.goto 4, 3) := by decide +kernel
theorem dX10_edges_98 : decode cX10_edges 98 = .ok (.iconst 1, 1) := by decide +kernel
theorem dX10_edges_99 : decode cX10_edges 99 = .ok (.invokevirtual 112, 3) := by decide +kernel
theorem dX10_edges_102 : decode cX10_edges 102 = .ok (.ifCond .eq 7, 3) := by decide +kernel
theorem dX10_edges_105 : decode cX10_edges 105 = .ok (.iload_n 2, 1) := by decide +kernel
theorem dX10_edges_106 : decode cX10_edges 106 = .ok (.goto 4, 3) := by decide +kernel
theorem dX10_edges_109 : decode cX10_edges 109 = .ok (.iconst 0, 1) := by decide +kernel
theorem dX10_edges_110 : decode cX10_edges 110 = .ok (.ireturn, 1) := by decide +kernel
theorem dX10_kindAlong_0 : decode cX10_kindAlong 0 = .ok (.iload_n 2, 1) := by decide +kernel
theorem dX10_kindAlong_1 : decode cX10_kindAlong 1 = .ok (.iconst 0, 1) := by decide +kernel
theorem dX10_kindAlong_2 : decode cX10_kindAlong 2 = .ok (.bipush 11, 2) := by decide +kernel
theorem dX10_kindAlong_4 : decode cX10_kindAlong 4 = .ok (.invokestatic 101, 3) := by decide +kernel
theorem dX10_kindAlong_7 : decode cX10_kindAlong 7 = .ok (.ifCond .eq 37, 3) := by decide +kernel
theorem dX10_kindAlong_10 : decode cX10_kindAlong 10 = .ok (.iload_n 1, 1) := by decide +kernel
theorem dX10_kindAlong_11 : decode cX10_kindAlong 11 = .ok (.iconst 2, 1) := by decide +kernel
theorem dX10_kindAlong_12 : decode cX10_kindAlong 12 = .ok (.irem, 1) := by decide +kernel
theorem dX10_kindAlong_13 : decode cX10_kindAlong 13 = .ok (.ifCond .ne 17, 3) := by decide +kernel
theorem dX10_kindAlong_16 : decode cX10_kindAlong 16 = .ok (.aload_n 0, 1) := by decide +kernel
theorem dX10_kindAlong_17 : decode cX10_kindAlong 17 = .ok (.getfield 92, 3) := by decide +kernel
theorem dX10_kindAlong_20 : decode cX10_kindAlong 20 = .ok (.bipush 12, 2) := by decide +kernel
theorem dX10_kindAlong_22 : decode cX10_kindAlong 22 = .ok (.iload_n 3, 1) := by decide +kernel
theorem dX10_kindAlong_23 : decode cX10_kindAlong 23 = .ok (.imul, 1) := by decide +kernel
theorem dX10_kindAlong_24 : decode cX10_kindAlong 24 = .ok (.iload_n 2, 1) := by decide +kernel
theorem dX10_kindAlong_25 : decode cX10_kindAlong 25 = .ok (.iadd, 1) := by decide +kernel
theorem dX10_kindAlong_26 : decode cX10_kindAlong 26 = .ok (.caload, 1) := by decide +kernel
theorem dX10_kindAlong_27 : decode cX10_kindAlong 27 = .ok (.goto 19, 3) := by decide +kernel
theorem dX10_kindAlong_30 : decode cX10_kindAlong 30 = .ok (.aload_n 0, 1) := by decide +kernel
theorem dX10_kindAlong_31 : decode cX10_kindAlong 31 = .ok (.getfield 92, 3) := by decide +kernel
theorem dX10_kindAlong_34 : decode cX10_kindAlong 34 = .ok (.bipush 12, 2) := by decide +kernel
theorem dX10_kindAlong_36 : decode cX10_kindAlong 36 = .ok (.iload_n 2, 1) := by decide +kernel
theorem dX10_kindAlong_37 : decode cX10_kindAlong 37 = .ok (.imul, 1) := by decide +kernel
theorem dX10_kindAlong_38 : decode cX10_kindAlong 38 = .ok (.iload_n 3, 1) := by decide +kernel
theorem dX10_kindAlong_39 : decode cX10_kindAlong 39 = .ok (.iadd, 1) := by decide +kernel
theorem dX10_kindAlong_40 : decode cX10_kindAlong 40 = .ok (.caload, 1) := by decide +kernel
theorem dX10_kindAlong_41 : decode cX10_kindAlong 41 = .ok (.goto 5, 3) := by decide +kernel
theorem dX10_kindAlong_44 : decode cX10_kindAlong 44 = .ok (.bipush 46, 2) := by decide +kernel
theorem dX10_kindAlong_46 : decode cX10_kindAlong 46 = .ok (.ireturn, 1) := by decide +kernel
theorem dX10_findsStrokes_0 : decode cX10_findsStrokes 0 = .ok (.aload_n 0, 1) := by decide +kernel
theorem dX10_findsStrokes_1 : decode cX10_findsStrokes 1 = .ok (.iconst 0, 1) := by decide +kernel
theorem dX10_findsStrokes_2 : decode cX10_findsStrokes 2 = .ok (.putfield 174, 3) := by decide +kernel
theorem dX10_findsStrokes_5 : decode cX10_findsStrokes 5 = .ok (.iconst 0, 1) := by decide +kernel
theorem dX10_findsStrokes_6 : decode cX10_findsStrokes 6 = .ok (.istore_n 2, 1) := by decide +kernel
theorem dX10_findsStrokes_7 : decode cX10_findsStrokes 7 = .ok (.iload_n 2, 1) := by decide +kernel
theorem dX10_findsStrokes_8 : decode cX10_findsStrokes 8 = .ok (.sipush 144, 3) := by decide +kernel
theorem dX10_findsStrokes_11 : decode cX10_findsStrokes 11 = .ok (.if_icmp .ge 28, 3) := by decide +kernel
theorem dX10_findsStrokes_14 : decode cX10_findsStrokes 14 = .ok (.aload_n 0, 1) := by decide +kernel
theorem dX10_findsStrokes_15 : decode cX10_findsStrokes 15 = .ok (.getfield 92, 3) := by decide +kernel
theorem dX10_findsStrokes_18 : decode cX10_findsStrokes 18 = .ok (.iload_n 2, 1) := by decide +kernel
theorem dX10_findsStrokes_19 : decode cX10_findsStrokes 19 = .ok (.aload_n 0, 1) := by decide +kernel
theorem dX10_findsStrokes_20 : decode cX10_findsStrokes 20 = .ok (.iload_n 2, 1) := by decide +kernel
theorem dX10_findsStrokes_21 : decode cX10_findsStrokes 21 = .ok (.bipush 12, 2) := by decide +kernel
theorem dX10_findsStrokes_23 : decode cX10_findsStrokes 23 = .ok (.irem, 1) := by decide +kernel
theorem dX10_findsStrokes_24 : decode cX10_findsStrokes 24 = .ok (.iload_n 2, 1) := by decide +kernel
theorem dX10_findsStrokes_25 : decode cX10_findsStrokes 25 = .ok (.bipush 12, 2) := by decide +kernel
theorem dX10_findsStrokes_27 : decode cX10_findsStrokes 27 = .ok (.idiv, 1) := by decide +kernel
theorem dX10_findsStrokes_28 : decode cX10_findsStrokes 28 = .ok (.iload_n 1, 1) := by decide +kernel
theorem dX10_findsStrokes_29 : decode cX10_findsStrokes 29 = .ok (.invokevirtual 162, 3) := by decide +kernel
theorem dX10_findsStrokes_32 : decode cX10_findsStrokes 32 = .ok (.castore, 1) := by decide +kernel
theorem dX10_findsStrokes_33 : decode cX10_findsStrokes 33 = .ok (.iinc 2 1, 3) := by decide +kernel
theorem dX10_findsStrokes_36 : decode cX10_findsStrokes 36 = .ok (.goto (-29), 3) := by decide +kernel
theorem dX10_findsStrokes_39 : decode cX10_findsStrokes 39 = .ok (.iconst 0, 1) := by decide +kernel
theorem dX10_findsStrokes_40 : decode cX10_findsStrokes 40 = .ok (.istore_n 2, 1) := by decide +kernel
theorem dX10_findsStrokes_41 : decode cX10_findsStrokes 41 = .ok (.iload_n 2, 1) := by decide +kernel
theorem dX10_findsStrokes_42 : decode cX10_findsStrokes 42 = .ok (.ldc 177, 2) := by decide +kernel
theorem dX10_findsStrokes_44 : decode cX10_findsStrokes 44 = .ok (.invokevirtual 179, 3) := by decide +kernel
theorem dX10_findsStrokes_47 : decode cX10_findsStrokes 47 = .ok (.if_icmp .ge 53, 3) := by decide +kernel
theorem dX10_findsStrokes_50 : decode cX10_findsStrokes 50 = .ok (.iconst 0, 1) := by decide +kernel
theorem dX10_findsStrokes_51 : decode cX10_findsStrokes 51 = .ok (.istore_n 3, 1) := by decide +kernel
theorem dX10_findsStrokes_52 : decode cX10_findsStrokes 52 = .ok (.iload_n 3, 1) := by decide +kernel
theorem dX10_findsStrokes_53 : decode cX10_findsStrokes 53 = .ok (.bipush 12, 2) := by decide +kernel
theorem dX10_findsStrokes_55 : decode cX10_findsStrokes 55 = .ok (.if_icmp .ge 39, 3) := by decide +kernel
theorem dX10_findsStrokes_58 : decode cX10_findsStrokes 58 = .ok (.iconst 0, 1) := by decide +kernel
theorem dX10_findsStrokes_59 : decode cX10_findsStrokes 59 = .ok (.istore 4, 2) := by decide +kernel
theorem dX10_findsStrokes_61 : decode cX10_findsStrokes 61 = .ok (.iload 4, 2) := by decide +kernel
theorem dX10_findsStrokes_63 : decode cX10_findsStrokes 63 = .ok (.bipush 12, 2) := by decide +kernel
theorem dX10_findsStrokes_65 : decode cX10_findsStrokes 65 = .ok (.if_icmp .ge 23, 3) := by decide +kernel
theorem dX10_findsStrokes_68 : decode cX10_findsStrokes 68 = .ok (.aload_n 0, 1) := by decide +kernel
theorem dX10_findsStrokes_69 : decode cX10_findsStrokes 69 = .ok (.iload_n 1, 1) := by decide +kernel
theorem dX10_findsStrokes_70 : decode cX10_findsStrokes 70 = .ok (.ldc 177, 2) := by decide +kernel
theorem dX10_findsStrokes_72 : decode cX10_findsStrokes 72 = .ok (.iload_n 2, 1) := by decide +kernel
theorem dX10_findsStrokes_73 : decode cX10_findsStrokes 73 = .ok (.invokevirtual 185, 3) := by decide +kernel
theorem dX10_findsStrokes_76 : decode cX10_findsStrokes 76 = .ok (.iload 4, 2) := by decide +kernel
theorem dX10_findsStrokes_78 : decode cX10_findsStrokes 78 = .ok (.iload_n 3, 1) := by decide +kernel
theorem dX10_findsStrokes_79 : decode cX10_findsStrokes 79 = .ok (.invokevirtual 189, 3) := by decide +kernel
theorem dX10_findsStrokes_82 : decode cX10_findsStrokes 82 = .ok (.iinc 4 1, 3) := by decide +kernel
theorem dX10_findsStrokes_85 : decode cX10_findsStrokes 85 = .ok (.goto (-24), 3) := by decide +kernel
theorem dX10_findsStrokes_88 : decode cX10_findsStrokes 88 = .ok (.iinc 3 1, 3) := by decide +kernel
theorem dX10_findsStrokes_91 : decode cX10_findsStrokes 91 = .ok (.goto (-39), 3) := by decide +kernel
theorem dX10_findsStrokes_94 : decode cX10_findsStrokes 94 = .ok (.iinc 2 1, 3) := by decide +kernel
theorem dX10_findsStrokes_97 : decode cX10_findsStrokes 97 = .ok (.goto (-56), 3) := by decide +kernel
theorem dX10_findsStrokes_100 : decode cX10_findsStrokes 100 = .ok (.return_, 1) := by decide +kernel
theorem dX10_findsStroke_0 : decode cX10_findsStroke 0 = .ok (.aload_n 0, 1) := by decide +kernel
theorem dX10_findsStroke_1 : decode cX10_findsStroke 1 = .ok (.iload_n 1, 1) := by decide +kernel
theorem dX10_findsStroke_2 : decode cX10_findsStroke 2 = .ok (.iload_n 3, 1) := by decide +kernel
theorem dX10_findsStroke_3 : decode cX10_findsStroke 3 = .ok (.iload 4, 2) := by decide +kernel
theorem dX10_findsStroke_5 : decode cX10_findsStroke 5 = .ok (.invokevirtual 193, 3) := by decide +kernel
theorem dX10_findsStroke_8 : decode cX10_findsStroke 8 = .ok (.iload_n 2, 1) := by decide +kernel
theorem dX10_findsStroke_9 : decode cX10_findsStroke 9 = .ok (.if_icmp .ne 17, 3) := by decide +kernel
theorem dX10_findsStroke_12 : decode cX10_findsStroke 12 = .ok (.aload_n 0, 1) := by decide +kernel
theorem dX10_findsStroke_13 : decode cX10_findsStroke 13 = .ok (.iload_n 1, 1) := by decide +kernel
theorem dX10_findsStroke_14 : decode cX10_findsStroke 14 = .ok (.iload_n 3, 1) := by decide +kernel
theorem dX10_findsStroke_15 : decode cX10_findsStroke 15 = .ok (.iconst 1, 1) := by decide +kernel
theorem dX10_findsStroke_16 : decode cX10_findsStroke 16 = .ok (.isub, 1) := by decide +kernel
theorem dX10_findsStroke_17 : decode cX10_findsStroke 17 = .ok (.iload 4, 2) := by decide +kernel
theorem dX10_findsStroke_19 : decode cX10_findsStroke 19 = .ok (.invokevirtual 193, 3) := by decide +kernel
theorem dX10_findsStroke_22 : decode cX10_findsStroke 22 = .ok (.iload_n 2, 1) := by decide +kernel
theorem dX10_findsStroke_23 : decode cX10_findsStroke 23 = .ok (.if_icmp .ne 4, 3) := by decide +kernel
theorem dX10_findsStroke_26 : decode cX10_findsStroke 26 = .ok (.return_, 1) := by decide +kernel
theorem dX10_findsStroke_27 : decode cX10_findsStroke 27 = .ok (.iload_n 3, 1) := by decide +kernel
theorem dX10_findsStroke_28 : decode cX10_findsStroke 28 = .ok (.istore 5, 2) := by decide +kernel
theorem dX10_findsStroke_30 : decode cX10_findsStroke 30 = .ok (.aload_n 0, 1) := by decide +kernel
theorem dX10_findsStroke_31 : decode cX10_findsStroke 31 = .ok (.iload_n 1, 1) := by decide +kernel
theorem dX10_findsStroke_32 : decode cX10_findsStroke 32 = .ok (.iload 5, 2) := by decide +kernel
theorem dX10_findsStroke_34 : decode cX10_findsStroke 34 = .ok (.iconst 1, 1) := by decide +kernel
theorem dX10_findsStroke_35 : decode cX10_findsStroke 35 = .ok (.iadd, 1) := by decide +kernel
theorem dX10_findsStroke_36 : decode cX10_findsStroke 36 = .ok (.iload 4, 2) := by decide +kernel
theorem dX10_findsStroke_38 : decode cX10_findsStroke 38 = .ok (.invokevirtual 193, 3) := by decide +kernel
theorem dX10_findsStroke_41 : decode cX10_findsStroke 41 = .ok (.iload_n 2, 1) := by decide +kernel
theorem dX10_findsStroke_42 : decode cX10_findsStroke 42 = .ok (.if_icmp .ne 9, 3) := by decide +kernel
theorem dX10_findsStroke_45 : decode cX10_findsStroke 45 = .ok (.iinc 5 1, 3) := by decide +kernel
theorem dX10_findsStroke_48 : decode cX10_findsStroke 48 = .ok (.goto (-18), 3) := by decide +kernel
theorem dX10_findsStroke_51 : decode cX10_findsStroke 51 = .ok (.iload_n 1, 1) := by decide +kernel
theorem dX10_findsStroke_52 : decode cX10_findsStroke 52 = .ok (.iconst 2, 1) := by decide +kernel
theorem dX10_findsStroke_53 : decode cX10_findsStroke 53 = .ok (.irem, 1) := by decide +kernel
theorem dX10_findsStroke_54 : decode cX10_findsStroke 54 = .ok (.ifCond .ne 7, 3) := by decide +kernel
theorem dX10_findsStroke_57 : decode cX10_findsStroke 57 = .ok (.iconst 1, 1) := by decide +kernel
theorem dX10_findsStroke_58 : decode cX10_findsStroke 58 = .ok (.goto 4, 3) := by decide +kernel
theorem dX10_findsStroke_61 : decode cX10_findsStroke 61 = .ok (.iconst 0, 1) := by decide +kernel
theorem dX10_findsStroke_62 : decode cX10_findsStroke 62 = .ok (.istore 6, 2) := by decide +kernel
theorem dX10_findsStroke_64 : decode cX10_findsStroke 64 = .ok (.aload_n 0, 1) := by decide +kernel
theorem dX10_findsStroke_65 : decode cX10_findsStroke 65 = .ok (.getfield 77, 3) := by decide +kernel
theorem dX10_findsStroke_68 : decode cX10_findsStroke 68 = .ok (.aload_n 0, 1) := by decide +kernel
theorem dX10_findsStroke_69 : decode cX10_findsStroke 69 = .ok (.getfield 174, 3) := by decide +kernel
theorem dX10_findsStroke_72 : decode cX10_findsStroke 72 = .ok (.iload_n 2, 1) := by decide +kernel
theorem dX10_findsStroke_73 : decode cX10_findsStroke 73 = .ok (.castore, 1) := by decide +kernel
theorem dX10_findsStroke_74 : decode cX10_findsStroke 74 = .ok (.aload_n 0, 1) := by decide +kernel
theorem dX10_findsStroke_75 : decode cX10_findsStroke 75 = .ok (.getfield 80, 3) := by decide +kernel
theorem dX10_findsStroke_78 : decode cX10_findsStroke 78 = .ok (.aload_n 0, 1) := by decide +kernel
theorem dX10_findsStroke_79 : decode cX10_findsStroke 79 = .ok (.getfield 174, 3) := by decide +kernel
theorem dX10_findsStroke_82 : decode cX10_findsStroke 82 = .ok (.iload 6, 2) := by decide +kernel
theorem dX10_findsStroke_84 : decode cX10_findsStroke 84 = .ok (.ifCond .eq 7, 3) := by decide +kernel
theorem dX10_findsStroke_87 : decode cX10_findsStroke 87 = .ok (.iload_n 3, 1) := by decide +kernel
theorem dX10_findsStroke_88 : decode cX10_findsStroke 88 = .ok (.goto 5, 3) := by decide +kernel
theorem dX10_findsStroke_91 : decode cX10_findsStroke 91 = .ok (.iload 4, 2) := by decide +kernel
theorem dX10_findsStroke_93 : decode cX10_findsStroke 93 = .ok (.iastore, 1) := by decide +kernel
theorem dX10_findsStroke_94 : decode cX10_findsStroke 94 = .ok (.aload_n 0, 1) := by decide +kernel
theorem dX10_findsStroke_95 : decode cX10_findsStroke 95 = .ok (.getfield 83, 3) := by decide +kernel
theorem dX10_findsStroke_98 : decode cX10_findsStroke 98 = .ok (.aload_n 0, 1) := by decide +kernel
theorem dX10_findsStroke_99 : decode cX10_findsStroke 99 = .ok (.getfield 174, 3) := by decide +kernel
theorem dX10_findsStroke_102 : decode cX10_findsStroke 102 = .ok (.iload 6, 2) := by decide +kernel
theorem dX10_findsStroke_104 : decode cX10_findsStroke 104 = .ok (.ifCond .eq 8, 3) := by decide +kernel
theorem dX10_findsStroke_107 : decode cX10_findsStroke 107 = .ok (.iload 4, 2) := by decide +kernel
theorem dX10_findsStroke_109 : decode cX10_findsStroke 109 = .ok (.goto 4, 3) := by decide +kernel
theorem dX10_findsStroke_112 : decode cX10_findsStroke 112 = .ok (.iload_n 3, 1) := by decide +kernel
theorem dX10_findsStroke_113 : decode cX10_findsStroke 113 = .ok (.iastore, 1) := by decide +kernel
theorem dX10_findsStroke_114 : decode cX10_findsStroke 114 = .ok (.aload_n 0, 1) := by decide +kernel
theorem dX10_findsStroke_115 : decode cX10_findsStroke 115 = .ok (.getfield 86, 3) := by decide +kernel
theorem dX10_findsStroke_118 : decode cX10_findsStroke 118 = .ok (.aload_n 0, 1) := by decide +kernel
theorem dX10_findsStroke_119 : decode cX10_findsStroke 119 = .ok (.getfield 174, 3) := by decide +kernel
theorem dX10_findsStroke_122 : decode cX10_findsStroke 122 = .ok (.iload 6, 2) := by decide +kernel
theorem dX10_findsStroke_124 : decode cX10_findsStroke 124 = .ok (.ifCond .eq 8, 3) := by decide +kernel
theorem dX10_findsStroke_127 : decode cX10_findsStroke 127 = .ok (.iload 5, 2) := by decide +kernel
theorem dX10_findsStroke_129 : decode cX10_findsStroke 129 = .ok (.goto 5, 3) := by decide +kernel
theorem dX10_findsStroke_132 : decode cX10_findsStroke 132 = .ok (.iload 4, 2) := by decide +kernel
theorem dX10_findsStroke_134 : decode cX10_findsStroke 134 = .ok (.iastore, 1) := by decide +kernel
theorem dX10_findsStroke_135 : decode cX10_findsStroke 135 = .ok (.aload_n 0, 1) := by decide +kernel
theorem dX10_findsStroke_136 : decode cX10_findsStroke 136 = .ok (.getfield 89, 3) := by decide +kernel
theorem dX10_findsStroke_139 : decode cX10_findsStroke 139 = .ok (.aload_n 0, 1) := by decide +kernel
theorem dX10_findsStroke_140 : decode cX10_findsStroke 140 = .ok (.getfield 174, 3) := by decide +kernel
theorem dX10_findsStroke_143 : decode cX10_findsStroke 143 = .ok (.iload 6, 2) := by decide +kernel
theorem dX10_findsStroke_145 : decode cX10_findsStroke 145 = .ok (.ifCond .eq 8, 3) := by decide +kernel
theorem dX10_findsStroke_148 : decode cX10_findsStroke 148 = .ok (.iload 4, 2) := by decide +kernel
theorem dX10_findsStroke_150 : decode cX10_findsStroke 150 = .ok (.goto 5, 3) := by decide +kernel
theorem dX10_findsStroke_153 : decode cX10_findsStroke 153 = .ok (.iload 5, 2) := by decide +kernel
theorem dX10_findsStroke_155 : decode cX10_findsStroke 155 = .ok (.iastore, 1) := by decide +kernel
theorem dX10_findsStroke_156 : decode cX10_findsStroke 156 = .ok (.aload_n 0, 1) := by decide +kernel
theorem dX10_findsStroke_157 : decode cX10_findsStroke 157 = .ok (.dup, 1) := by decide +kernel
theorem dX10_findsStroke_158 : decode cX10_findsStroke 158 = .ok (.getfield 174, 3) := by decide +kernel
theorem dX10_findsStroke_161 : decode cX10_findsStroke 161 = .ok (.iconst 1, 1) := by decide +kernel
theorem dX10_findsStroke_162 : decode cX10_findsStroke 162 = .ok (.iadd, 1) := by decide +kernel
theorem dX10_findsStroke_163 : decode cX10_findsStroke 163 = .ok (.putfield 174, 3) := by decide +kernel
theorem dX10_findsStroke_166 : decode cX10_findsStroke 166 = .ok (.return_, 1) := by decide +kernel
theorem dX10_cellsOf_0 : decode cX10_cellsOf 0 = .ok (.aload_n 0, 1) := by decide +kernel
theorem dX10_cellsOf_1 : decode cX10_cellsOf 1 = .ok (.getfield 86, 3) := by decide +kernel
theorem dX10_cellsOf_4 : decode cX10_cellsOf 4 = .ok (.iload_n 1, 1) := by decide +kernel
theorem dX10_cellsOf_5 : decode cX10_cellsOf 5 = .ok (.iaload, 1) := by decide +kernel
theorem dX10_cellsOf_6 : decode cX10_cellsOf 6 = .ok (.aload_n 0, 1) := by decide +kernel
theorem dX10_cellsOf_7 : decode cX10_cellsOf 7 = .ok (.getfield 80, 3) := by decide +kernel
theorem dX10_cellsOf_10 : decode cX10_cellsOf 10 = .ok (.iload_n 1, 1) := by decide +kernel
theorem dX10_cellsOf_11 : decode cX10_cellsOf 11 = .ok (.iaload, 1) := by decide +kernel
theorem dX10_cellsOf_12 : decode cX10_cellsOf 12 = .ok (.isub, 1) := by decide +kernel
theorem dX10_cellsOf_13 : decode cX10_cellsOf 13 = .ok (.aload_n 0, 1) := by decide +kernel
theorem dX10_cellsOf_14 : decode cX10_cellsOf 14 = .ok (.getfield 89, 3) := by decide +kernel
theorem dX10_cellsOf_17 : decode cX10_cellsOf 17 = .ok (.iload_n 1, 1) := by decide +kernel
theorem dX10_cellsOf_18 : decode cX10_cellsOf 18 = .ok (.iaload, 1) := by decide +kernel
theorem dX10_cellsOf_19 : decode cX10_cellsOf 19 = .ok (.iadd, 1) := by decide +kernel
theorem dX10_cellsOf_20 : decode cX10_cellsOf 20 = .ok (.aload_n 0, 1) := by decide +kernel
theorem dX10_cellsOf_21 : decode cX10_cellsOf 21 = .ok (.getfield 83, 3) := by decide +kernel
theorem dX10_cellsOf_24 : decode cX10_cellsOf 24 = .ok (.iload_n 1, 1) := by decide +kernel
theorem dX10_cellsOf_25 : decode cX10_cellsOf 25 = .ok (.iaload, 1) := by decide +kernel
theorem dX10_cellsOf_26 : decode cX10_cellsOf 26 = .ok (.isub, 1) := by decide +kernel
theorem dX10_cellsOf_27 : decode cX10_cellsOf 27 = .ok (.iconst 1, 1) := by decide +kernel
theorem dX10_cellsOf_28 : decode cX10_cellsOf 28 = .ok (.iadd, 1) := by decide +kernel
theorem dX10_cellsOf_29 : decode cX10_cellsOf 29 = .ok (.ireturn, 1) := by decide +kernel
theorem dX10_strokes_0 : decode cX10_strokes 0 = .ok (.aload_n 0, 1) := by decide +kernel
theorem dX10_strokes_1 : decode cX10_strokes 1 = .ok (.iload_n 1, 1) := by decide +kernel
theorem dX10_strokes_2 : decode cX10_strokes 2 = .ok (.invokestatic 130, 3) := by decide +kernel
theorem dX10_strokes_5 : decode cX10_strokes 5 = .ok (.ifCond .eq 7, 3) := by decide +kernel
theorem dX10_strokes_8 : decode cX10_strokes 8 = .ok (.iconst 0, 1) := by decide +kernel
theorem dX10_strokes_9 : decode cX10_strokes 9 = .ok (.goto 4, 3) := by decide +kernel
theorem dX10_strokes_12 : decode cX10_strokes 12 = .ok (.iconst 1, 1) := by decide +kernel
theorem dX10_strokes_13 : decode cX10_strokes 13 = .ok (.invokevirtual 112, 3) := by decide +kernel
theorem dX10_strokes_16 : decode cX10_strokes 16 = .ok (.ifCond .ne 5, 3) := by decide +kernel
theorem dX10_strokes_19 : decode cX10_strokes 19 = .ok (.iconst 0, 1) := by decide +kernel
theorem dX10_strokes_20 : decode cX10_strokes 20 = .ok (.ireturn, 1) := by decide +kernel
theorem dX10_strokes_21 : decode cX10_strokes 21 = .ok (.aload_n 0, 1) := by decide +kernel
theorem dX10_strokes_22 : decode cX10_strokes 22 = .ok (.iload_n 1, 1) := by decide +kernel
theorem dX10_strokes_23 : decode cX10_strokes 23 = .ok (.invokevirtual 196, 3) := by decide +kernel
theorem dX10_strokes_26 : decode cX10_strokes 26 = .ok (.aload_n 0, 1) := by decide +kernel
theorem dX10_strokes_27 : decode cX10_strokes 27 = .ok (.getfield 174, 3) := by decide +kernel
theorem dX10_strokes_30 : decode cX10_strokes 30 = .ok (.ireturn, 1) := by decide +kernel
theorem dX10_adds_0 : decode cX10_adds 0 = .ok (.aload_n 0, 1) := by decide +kernel
theorem dX10_adds_1 : decode cX10_adds 1 = .ok (.getfield 37, 3) := by decide +kernel
theorem dX10_adds_4 : decode cX10_adds 4 = .ok (.aload_n 0, 1) := by decide +kernel
theorem dX10_adds_5 : decode cX10_adds 5 = .ok (.getfield 200, 3) := by decide +kernel
theorem dX10_adds_8 : decode cX10_adds 8 = .ok (.iload_n 1, 1) := by decide +kernel
theorem dX10_adds_9 : decode cX10_adds 9 = .ok (.castore, 1) := by decide +kernel
theorem dX10_adds_10 : decode cX10_adds 10 = .ok (.aload_n 0, 1) := by decide +kernel
theorem dX10_adds_11 : decode cX10_adds 11 = .ok (.getfield 41, 3) := by decide +kernel
theorem dX10_adds_14 : decode cX10_adds 14 = .ok (.aload_n 0, 1) := by decide +kernel
theorem dX10_adds_15 : decode cX10_adds 15 = .ok (.getfield 200, 3) := by decide +kernel
theorem dX10_adds_18 : decode cX10_adds 18 = .ok (.iload_n 2, 1) := by decide +kernel
theorem dX10_adds_19 : decode cX10_adds 19 = .ok (.iastore, 1) := by decide +kernel
theorem dX10_adds_20 : decode cX10_adds 20 = .ok (.aload_n 0, 1) := by decide +kernel
theorem dX10_adds_21 : decode cX10_adds 21 = .ok (.getfield 44, 3) := by decide +kernel
theorem dX10_adds_24 : decode cX10_adds 24 = .ok (.aload_n 0, 1) := by decide +kernel
theorem dX10_adds_25 : decode cX10_adds 25 = .ok (.getfield 200, 3) := by decide +kernel
theorem dX10_adds_28 : decode cX10_adds 28 = .ok (.iload_n 3, 1) := by decide +kernel
theorem dX10_adds_29 : decode cX10_adds 29 = .ok (.iastore, 1) := by decide +kernel
theorem dX10_adds_30 : decode cX10_adds 30 = .ok (.aload_n 0, 1) := by decide +kernel
theorem dX10_adds_31 : decode cX10_adds 31 = .ok (.getfield 47, 3) := by decide +kernel
theorem dX10_adds_34 : decode cX10_adds 34 = .ok (.aload_n 0, 1) := by decide +kernel
theorem dX10_adds_35 : decode cX10_adds 35 = .ok (.getfield 200, 3) := by decide +kernel
theorem dX10_adds_38 : decode cX10_adds 38 = .ok (.iload 4, 2) := by decide +kernel
theorem dX10_adds_40 : decode cX10_adds 40 = .ok (.iastore, 1) := by decide +kernel
theorem dX10_adds_41 : decode cX10_adds 41 = .ok (.aload_n 0, 1) := by decide +kernel
theorem dX10_adds_42 : decode cX10_adds 42 = .ok (.getfield 50, 3) := by decide +kernel
theorem dX10_adds_45 : decode cX10_adds 45 = .ok (.aload_n 0, 1) := by decide +kernel
theorem dX10_adds_46 : decode cX10_adds 46 = .ok (.getfield 200, 3) := by decide +kernel
theorem dX10_adds_49 : decode cX10_adds 49 = .ok (.iload 5, 2) := by decide +kernel
theorem dX10_adds_51 : decode cX10_adds 51 = .ok (.iastore, 1) := by decide +kernel
theorem dX10_adds_52 : decode cX10_adds 52 = .ok (.aload_n 0, 1) := by decide +kernel
theorem dX10_adds_53 : decode cX10_adds 53 = .ok (.getfield 53, 3) := by decide +kernel
theorem dX10_adds_56 : decode cX10_adds 56 = .ok (.aload_n 0, 1) := by decide +kernel
theorem dX10_adds_57 : decode cX10_adds 57 = .ok (.getfield 200, 3) := by decide +kernel
theorem dX10_adds_60 : decode cX10_adds 60 = .ok (.aload_n 0, 1) := by decide +kernel
theorem dX10_adds_61 : decode cX10_adds 61 = .ok (.getfield 30, 3) := by decide +kernel
theorem dX10_adds_64 : decode cX10_adds 64 = .ok (.iload 5, 2) := by decide +kernel
theorem dX10_adds_66 : decode cX10_adds 66 = .ok (.iaload, 1) := by decide +kernel
theorem dX10_adds_67 : decode cX10_adds 67 = .ok (.iastore, 1) := by decide +kernel
theorem dX10_adds_68 : decode cX10_adds 68 = .ok (.aload_n 0, 1) := by decide +kernel
theorem dX10_adds_69 : decode cX10_adds 69 = .ok (.getfield 56, 3) := by decide +kernel
theorem dX10_adds_72 : decode cX10_adds 72 = .ok (.aload_n 0, 1) := by decide +kernel
theorem dX10_adds_73 : decode cX10_adds 73 = .ok (.getfield 200, 3) := by decide +kernel
theorem dX10_adds_76 : decode cX10_adds 76 = .ok (.aload_n 0, 1) := by decide +kernel
theorem dX10_adds_77 : decode cX10_adds 77 = .ok (.getfield 203, 3) := by decide +kernel
theorem dX10_adds_80 : decode cX10_adds 80 = .ok (.iastore, 1) := by decide +kernel
theorem dX10_adds_81 : decode cX10_adds 81 = .ok (.aload_n 0, 1) := by decide +kernel
theorem dX10_adds_82 : decode cX10_adds 82 = .ok (.getfield 59, 3) := by decide +kernel
theorem dX10_adds_85 : decode cX10_adds 85 = .ok (.aload_n 0, 1) := by decide +kernel
theorem dX10_adds_86 : decode cX10_adds 86 = .ok (.getfield 200, 3) := by decide +kernel
theorem dX10_adds_89 : decode cX10_adds 89 = .ok (.aload_n 0, 1) := by decide +kernel
theorem dX10_adds_90 : decode cX10_adds 90 = .ok (.getfield 206, 3) := by decide +kernel
theorem dX10_adds_93 : decode cX10_adds 93 = .ok (.iastore, 1) := by decide +kernel
theorem dX10_adds_94 : decode cX10_adds 94 = .ok (.aload_n 0, 1) := by decide +kernel
theorem dX10_adds_95 : decode cX10_adds 95 = .ok (.dup, 1) := by decide +kernel
theorem dX10_adds_96 : decode cX10_adds 96 = .ok (.getfield 200, 3) := by decide +kernel
theorem dX10_adds_99 : decode cX10_adds 99 = .ok (.iconst 1, 1) := by decide +kernel
theorem dX10_adds_100 : decode cX10_adds 100 = .ok (.iadd, 1) := by decide +kernel
theorem dX10_adds_101 : decode cX10_adds 101 = .ok (.putfield 200, 3) := by decide +kernel
theorem dX10_adds_104 : decode cX10_adds 104 = .ok (.return_, 1) := by decide +kernel
theorem dX10_distance_0 : decode cX10_distance 0 = .ok (.iload_n 1, 1) := by decide +kernel
theorem dX10_distance_1 : decode cX10_distance 1 = .ok (.aload_n 0, 1) := by decide +kernel
theorem dX10_distance_2 : decode cX10_distance 2 = .ok (.getfield 203, 3) := by decide +kernel
theorem dX10_distance_5 : decode cX10_distance 5 = .ok (.isub, 1) := by decide +kernel
theorem dX10_distance_6 : decode cX10_distance 6 = .ok (.invokestatic 133, 3) := by decide +kernel
theorem dX10_distance_9 : decode cX10_distance 9 = .ok (.iload_n 2, 1) := by decide +kernel
theorem dX10_distance_10 : decode cX10_distance 10 = .ok (.aload_n 0, 1) := by decide +kernel
theorem dX10_distance_11 : decode cX10_distance 11 = .ok (.getfield 206, 3) := by decide +kernel
theorem dX10_distance_14 : decode cX10_distance 14 = .ok (.isub, 1) := by decide +kernel
theorem dX10_distance_15 : decode cX10_distance 15 = .ok (.invokestatic 133, 3) := by decide +kernel
theorem dX10_distance_18 : decode cX10_distance 18 = .ok (.iadd, 1) := by decide +kernel
theorem dX10_distance_19 : decode cX10_distance 19 = .ok (.ireturn, 1) := by decide +kernel
theorem dX10_nearest_0 : decode cX10_nearest 0 = .ok (.aload_n 0, 1) := by decide +kernel
theorem dX10_nearest_1 : decode cX10_nearest 1 = .ok (.aload_n 0, 1) := by decide +kernel
theorem dX10_nearest_2 : decode cX10_nearest 2 = .ok (.getfield 80, 3) := by decide +kernel
theorem dX10_nearest_5 : decode cX10_nearest 5 = .ok (.iload_n 1, 1) := by decide +kernel
theorem dX10_nearest_6 : decode cX10_nearest 6 = .ok (.iaload, 1) := by decide +kernel
theorem dX10_nearest_7 : decode cX10_nearest 7 = .ok (.aload_n 0, 1) := by decide +kernel
theorem dX10_nearest_8 : decode cX10_nearest 8 = .ok (.getfield 83, 3) := by decide +kernel
theorem dX10_nearest_11 : decode cX10_nearest 11 = .ok (.iload_n 1, 1) := by decide +kernel
theorem dX10_nearest_12 : decode cX10_nearest 12 = .ok (.iaload, 1) := by decide +kernel
theorem dX10_nearest_13 : decode cX10_nearest 13 = .ok (.invokevirtual 209, 3) := by decide +kernel
theorem dX10_nearest_16 : decode cX10_nearest 16 = .ok (.istore_n 2, 1) := by decide +kernel
theorem dX10_nearest_17 : decode cX10_nearest 17 = .ok (.aload_n 0, 1) := by decide +kernel
theorem dX10_nearest_18 : decode cX10_nearest 18 = .ok (.aload_n 0, 1) := by decide +kernel
theorem dX10_nearest_19 : decode cX10_nearest 19 = .ok (.getfield 86, 3) := by decide +kernel
theorem dX10_nearest_22 : decode cX10_nearest 22 = .ok (.iload_n 1, 1) := by decide +kernel
theorem dX10_nearest_23 : decode cX10_nearest 23 = .ok (.iaload, 1) := by decide +kernel
theorem dX10_nearest_24 : decode cX10_nearest 24 = .ok (.aload_n 0, 1) := by decide +kernel
theorem dX10_nearest_25 : decode cX10_nearest 25 = .ok (.getfield 89, 3) := by decide +kernel
theorem dX10_nearest_28 : decode cX10_nearest 28 = .ok (.iload_n 1, 1) := by decide +kernel
theorem dX10_nearest_29 : decode cX10_nearest 29 = .ok (.iaload, 1) := by decide +kernel
theorem dX10_nearest_30 : decode cX10_nearest 30 = .ok (.invokevirtual 209, 3) := by decide +kernel
theorem dX10_nearest_33 : decode cX10_nearest 33 = .ok (.istore_n 3, 1) := by decide +kernel
theorem dX10_nearest_34 : decode cX10_nearest 34 = .ok (.iload_n 3, 1) := by decide +kernel
theorem dX10_nearest_35 : decode cX10_nearest 35 = .ok (.iload_n 2, 1) := by decide +kernel
theorem dX10_nearest_36 : decode cX10_nearest 36 = .ok (.if_icmp .ge 7, 3) := by decide +kernel
theorem dX10_nearest_39 : decode cX10_nearest 39 = .ok (.iload_n 3, 1) := by decide +kernel
theorem dX10_nearest_40 : decode cX10_nearest 40 = .ok (.goto 4, 3) := by decide +kernel
theorem dX10_nearest_43 : decode cX10_nearest 43 = .ok (.iload_n 2, 1) := by decide +kernel
theorem dX10_nearest_44 : decode cX10_nearest 44 = .ok (.ireturn, 1) := by decide +kernel
theorem dX10_draws_0 : decode cX10_draws 0 = .ok (.aload_n 0, 1) := by decide +kernel
theorem dX10_draws_1 : decode cX10_draws 1 = .ok (.aload_n 0, 1) := by decide +kernel
theorem dX10_draws_2 : decode cX10_draws 2 = .ok (.getfield 86, 3) := by decide +kernel
theorem dX10_draws_5 : decode cX10_draws 5 = .ok (.iload_n 1, 1) := by decide +kernel
theorem dX10_draws_6 : decode cX10_draws 6 = .ok (.iaload, 1) := by decide +kernel
theorem dX10_draws_7 : decode cX10_draws 7 = .ok (.aload_n 0, 1) := by decide +kernel
theorem dX10_draws_8 : decode cX10_draws 8 = .ok (.getfield 89, 3) := by decide +kernel
theorem dX10_draws_11 : decode cX10_draws 11 = .ok (.iload_n 1, 1) := by decide +kernel
theorem dX10_draws_12 : decode cX10_draws 12 = .ok (.iaload, 1) := by decide +kernel
theorem dX10_draws_13 : decode cX10_draws 13 = .ok (.invokevirtual 209, 3) := by decide +kernel
theorem dX10_draws_16 : decode cX10_draws 16 = .ok (.aload_n 0, 1) := by decide +kernel
theorem dX10_draws_17 : decode cX10_draws 17 = .ok (.aload_n 0, 1) := by decide +kernel
theorem dX10_draws_18 : decode cX10_draws 18 = .ok (.getfield 80, 3) := by decide +kernel
theorem dX10_draws_21 : decode cX10_draws 21 = .ok (.iload_n 1, 1) := by decide +kernel
theorem dX10_draws_22 : decode cX10_draws 22 = .ok (.iaload, 1) := by decide +kernel
theorem dX10_draws_23 : decode cX10_draws 23 = .ok (.aload_n 0, 1) := by decide +kernel
theorem dX10_draws_24 : decode cX10_draws 24 = .ok (.getfield 83, 3) := by decide +kernel
theorem dX10_draws_27 : decode cX10_draws 27 = .ok (.iload_n 1, 1) := by decide +kernel
theorem dX10_draws_28 : decode cX10_draws 28 = .ok (.iaload, 1) := by decide +kernel
theorem dX10_draws_29 : decode cX10_draws 29 = .ok (.invokevirtual 209, 3) := by decide +kernel
theorem dX10_draws_32 : decode cX10_draws 32 = .ok (.if_icmp .ge 7, 3) := by decide +kernel
theorem dX10_draws_35 : decode cX10_draws 35 = .ok (.iconst 1, 1) := by decide +kernel
theorem dX10_draws_36 : decode cX10_draws 36 = .ok (.goto 4, 3) := by decide +kernel
theorem dX10_draws_39 : decode cX10_draws 39 = .ok (.iconst 0, 1) := by decide +kernel
theorem dX10_draws_40 : decode cX10_draws 40 = .ok (.istore_n 3, 1) := by decide +kernel
theorem dX10_draws_41 : decode cX10_draws 41 = .ok (.iload_n 3, 1) := by decide +kernel
theorem dX10_draws_42 : decode cX10_draws 42 = .ok (.ifCond .eq 12, 3) := by decide +kernel
theorem dX10_draws_45 : decode cX10_draws 45 = .ok (.aload_n 0, 1) := by decide +kernel
theorem dX10_draws_46 : decode cX10_draws 46 = .ok (.getfield 86, 3) := by decide +kernel
theorem dX10_draws_49 : decode cX10_draws 49 = .ok (.iload_n 1, 1) := by decide +kernel
theorem dX10_draws_50 : decode cX10_draws 50 = .ok (.iaload, 1) := by decide +kernel
theorem dX10_draws_51 : decode cX10_draws 51 = .ok (.goto 9, 3) := by decide +kernel
theorem dX10_draws_54 : decode cX10_draws 54 = .ok (.aload_n 0, 1) := by decide +kernel
theorem dX10_draws_55 : decode cX10_draws 55 = .ok (.getfield 80, 3) := by decide +kernel
theorem dX10_draws_58 : decode cX10_draws 58 = .ok (.iload_n 1, 1) := by decide +kernel
theorem dX10_draws_59 : decode cX10_draws 59 = .ok (.iaload, 1) := by decide +kernel
theorem dX10_draws_60 : decode cX10_draws 60 = .ok (.istore 4, 2) := by decide +kernel
theorem dX10_draws_62 : decode cX10_draws 62 = .ok (.iload_n 3, 1) := by decide +kernel
theorem dX10_draws_63 : decode cX10_draws 63 = .ok (.ifCond .eq 12, 3) := by decide +kernel
theorem dX10_draws_66 : decode cX10_draws 66 = .ok (.aload_n 0, 1) := by decide +kernel
theorem dX10_draws_67 : decode cX10_draws 67 = .ok (.getfield 89, 3) := by decide +kernel
theorem dX10_draws_70 : decode cX10_draws 70 = .ok (.iload_n 1, 1) := by decide +kernel
theorem dX10_draws_71 : decode cX10_draws 71 = .ok (.iaload, 1) := by decide +kernel
theorem dX10_draws_72 : decode cX10_draws 72 = .ok (.goto 9, 3) := by decide +kernel
theorem dX10_draws_75 : decode cX10_draws 75 = .ok (.aload_n 0, 1) := by decide +kernel
theorem dX10_draws_76 : decode cX10_draws 76 = .ok (.getfield 83, 3) := by decide +kernel
theorem dX10_draws_79 : decode cX10_draws 79 = .ok (.iload_n 1, 1) := by decide +kernel
theorem dX10_draws_80 : decode cX10_draws 80 = .ok (.iaload, 1) := by decide +kernel
theorem dX10_draws_81 : decode cX10_draws 81 = .ok (.istore 5, 2) := by decide +kernel
theorem dX10_draws_83 : decode cX10_draws 83 = .ok (.aload_n 0, 1) := by decide +kernel
theorem dX10_draws_84 : decode cX10_draws 84 = .ok (.iload 4, 2) := by decide +kernel
theorem dX10_draws_86 : decode cX10_draws 86 = .ok (.iload 5, 2) := by decide +kernel
theorem dX10_draws_88 : decode cX10_draws 88 = .ok (.invokevirtual 209, 3) := by decide +kernel
theorem dX10_draws_91 : decode cX10_draws 91 = .ok (.istore 6, 2) := by decide +kernel
theorem dX10_draws_93 : decode cX10_draws 93 = .ok (.iload 6, 2) := by decide +kernel
theorem dX10_draws_95 : decode cX10_draws 95 = .ok (.aload_n 0, 1) := by decide +kernel
theorem dX10_draws_96 : decode cX10_draws 96 = .ok (.getfield 23, 3) := by decide +kernel
theorem dX10_draws_99 : decode cX10_draws 99 = .ok (.if_icmp .le 19, 3) := by decide +kernel
theorem dX10_draws_102 : decode cX10_draws 102 = .ok (.aload_n 0, 1) := by decide +kernel
theorem dX10_draws_103 : decode cX10_draws 103 = .ok (.bipush 114, 2) := by decide +kernel
theorem dX10_draws_105 : decode cX10_draws 105 = .ok (.aload_n 0, 1) := by decide +kernel
theorem dX10_draws_106 : decode cX10_draws 106 = .ok (.getfield 203, 3) := by decide +kernel
theorem dX10_draws_109 : decode cX10_draws 109 = .ok (.aload_n 0, 1) := by decide +kernel
theorem dX10_draws_110 : decode cX10_draws 110 = .ok (.getfield 206, 3) := by decide +kernel
theorem dX10_draws_113 : decode cX10_draws 113 = .ok (.iconst 0, 1) := by decide +kernel
theorem dX10_draws_114 : decode cX10_draws 114 = .ok (.iload_n 2, 1) := by decide +kernel
theorem dX10_draws_115 : decode cX10_draws 115 = .ok (.invokevirtual 213, 3) := by decide +kernel
theorem dX10_draws_118 : decode cX10_draws 118 = .ok (.iload 6, 2) := by decide +kernel
theorem dX10_draws_120 : decode cX10_draws 120 = .ok (.ifCond .le 27, 3) := by decide +kernel
theorem dX10_draws_123 : decode cX10_draws 123 = .ok (.aload_n 0, 1) := by decide +kernel
theorem dX10_draws_124 : decode cX10_draws 124 = .ok (.bipush 103, 2) := by decide +kernel
theorem dX10_draws_126 : decode cX10_draws 126 = .ok (.iload 4, 2) := by decide +kernel
theorem dX10_draws_128 : decode cX10_draws 128 = .ok (.iload 5, 2) := by decide +kernel
theorem dX10_draws_130 : decode cX10_draws 130 = .ok (.iconst 0, 1) := by decide +kernel
theorem dX10_draws_131 : decode cX10_draws 131 = .ok (.iload_n 2, 1) := by decide +kernel
theorem dX10_draws_132 : decode cX10_draws 132 = .ok (.invokevirtual 213, 3) := by decide +kernel
theorem dX10_draws_135 : decode cX10_draws 135 = .ok (.aload_n 0, 1) := by decide +kernel
theorem dX10_draws_136 : decode cX10_draws 136 = .ok (.iload 4, 2) := by decide +kernel
theorem dX10_draws_138 : decode cX10_draws 138 = .ok (.putfield 203, 3) := by decide +kernel
theorem dX10_draws_141 : decode cX10_draws 141 = .ok (.aload_n 0, 1) := by decide +kernel
theorem dX10_draws_142 : decode cX10_draws 142 = .ok (.iload 5, 2) := by decide +kernel
theorem dX10_draws_144 : decode cX10_draws 144 = .ok (.putfield 206, 3) := by decide +kernel
theorem dX10_draws_147 : decode cX10_draws 147 = .ok (.iload 6, 2) := by decide +kernel
theorem dX10_draws_149 : decode cX10_draws 149 = .ok (.aload_n 0, 1) := by decide +kernel
theorem dX10_draws_150 : decode cX10_draws 150 = .ok (.getfield 23, 3) := by decide +kernel
theorem dX10_draws_153 : decode cX10_draws 153 = .ok (.if_icmp .le 19, 3) := by decide +kernel
theorem dX10_draws_156 : decode cX10_draws 156 = .ok (.aload_n 0, 1) := by decide +kernel
theorem dX10_draws_157 : decode cX10_draws 157 = .ok (.bipush 117, 2) := by decide +kernel
theorem dX10_draws_159 : decode cX10_draws 159 = .ok (.aload_n 0, 1) := by decide +kernel
theorem dX10_draws_160 : decode cX10_draws 160 = .ok (.getfield 203, 3) := by decide +kernel
theorem dX10_draws_163 : decode cX10_draws 163 = .ok (.aload_n 0, 1) := by decide +kernel
theorem dX10_draws_164 : decode cX10_draws 164 = .ok (.getfield 206, 3) := by decide +kernel
theorem dX10_draws_167 : decode cX10_draws 167 = .ok (.iconst 0, 1) := by decide +kernel
theorem dX10_draws_168 : decode cX10_draws 168 = .ok (.iload_n 2, 1) := by decide +kernel
theorem dX10_draws_169 : decode cX10_draws 169 = .ok (.invokevirtual 213, 3) := by decide +kernel
theorem dX10_draws_172 : decode cX10_draws 172 = .ok (.aload_n 0, 1) := by decide +kernel
theorem dX10_draws_173 : decode cX10_draws 173 = .ok (.bipush 100, 2) := by decide +kernel
theorem dX10_draws_175 : decode cX10_draws 175 = .ok (.iload_n 3, 1) := by decide +kernel
theorem dX10_draws_176 : decode cX10_draws 176 = .ok (.ifCond .eq 12, 3) := by decide +kernel
theorem dX10_draws_179 : decode cX10_draws 179 = .ok (.aload_n 0, 1) := by decide +kernel
theorem dX10_draws_180 : decode cX10_draws 180 = .ok (.getfield 80, 3) := by decide +kernel
theorem dX10_draws_183 : decode cX10_draws 183 = .ok (.iload_n 1, 1) := by decide +kernel
theorem dX10_draws_184 : decode cX10_draws 184 = .ok (.iaload, 1) := by decide +kernel
theorem dX10_draws_185 : decode cX10_draws 185 = .ok (.goto 9, 3) := by decide +kernel
theorem dX10_draws_188 : decode cX10_draws 188 = .ok (.aload_n 0, 1) := by decide +kernel
theorem dX10_draws_189 : decode cX10_draws 189 = .ok (.getfield 86, 3) := by decide +kernel
theorem dX10_draws_192 : decode cX10_draws 192 = .ok (.iload_n 1, 1) := by decide +kernel
theorem dX10_draws_193 : decode cX10_draws 193 = .ok (.iaload, 1) := by decide +kernel
theorem dX10_draws_194 : decode cX10_draws 194 = .ok (.iload_n 3, 1) := by decide +kernel
theorem dX10_draws_195 : decode cX10_draws 195 = .ok (.ifCond .eq 12, 3) := by decide +kernel
theorem dX10_draws_198 : decode cX10_draws 198 = .ok (.aload_n 0, 1) := by decide +kernel
theorem dX10_draws_199 : decode cX10_draws 199 = .ok (.getfield 83, 3) := by decide +kernel
theorem dX10_draws_202 : decode cX10_draws 202 = .ok (.iload_n 1, 1) := by decide +kernel
theorem dX10_draws_203 : decode cX10_draws 203 = .ok (.iaload, 1) := by decide +kernel
theorem dX10_draws_204 : decode cX10_draws 204 = .ok (.goto 9, 3) := by decide +kernel
theorem dX10_draws_207 : decode cX10_draws 207 = .ok (.aload_n 0, 1) := by decide +kernel
theorem dX10_draws_208 : decode cX10_draws 208 = .ok (.getfield 89, 3) := by decide +kernel
theorem dX10_draws_211 : decode cX10_draws 211 = .ok (.iload_n 1, 1) := by decide +kernel
theorem dX10_draws_212 : decode cX10_draws 212 = .ok (.iaload, 1) := by decide +kernel
theorem dX10_draws_213 : decode cX10_draws 213 = .ok (.bipush 10, 2) := by decide +kernel
theorem dX10_draws_215 : decode cX10_draws 215 = .ok (.aload_n 0, 1) := by decide +kernel
theorem dX10_draws_216 : decode cX10_draws 216 = .ok (.iload_n 1, 1) := by decide +kernel
theorem dX10_draws_217 : decode cX10_draws 217 = .ok (.invokevirtual 217, 3) := by decide +kernel
theorem dX10_draws_220 : decode cX10_draws 220 = .ok (.imul, 1) := by decide +kernel
theorem dX10_draws_221 : decode cX10_draws 221 = .ok (.aload_n 0, 1) := by decide +kernel
theorem dX10_draws_222 : decode cX10_draws 222 = .ok (.getfield 30, 3) := by decide +kernel
theorem dX10_draws_225 : decode cX10_draws 225 = .ok (.iload_n 2, 1) := by decide +kernel
theorem dX10_draws_226 : decode cX10_draws 226 = .ok (.iaload, 1) := by decide +kernel
theorem dX10_draws_227 : decode cX10_draws 227 = .ok (.imul, 1) := by decide +kernel
theorem dX10_draws_228 : decode cX10_draws 228 = .ok (.iload_n 2, 1) := by decide +kernel
theorem dX10_draws_229 : decode cX10_draws 229 = .ok (.invokevirtual 213, 3) := by decide +kernel
theorem dX10_draws_232 : decode cX10_draws 232 = .ok (.aload_n 0, 1) := by decide +kernel
theorem dX10_draws_233 : decode cX10_draws 233 = .ok (.aload_n 0, 1) := by decide +kernel
theorem dX10_draws_234 : decode cX10_draws 234 = .ok (.getfield 41, 3) := by decide +kernel
theorem dX10_draws_237 : decode cX10_draws 237 = .ok (.aload_n 0, 1) := by decide +kernel
theorem dX10_draws_238 : decode cX10_draws 238 = .ok (.getfield 200, 3) := by decide +kernel
theorem dX10_draws_241 : decode cX10_draws 241 = .ok (.iconst 1, 1) := by decide +kernel
theorem dX10_draws_242 : decode cX10_draws 242 = .ok (.isub, 1) := by decide +kernel
theorem dX10_draws_243 : decode cX10_draws 243 = .ok (.iaload, 1) := by decide +kernel
theorem dX10_draws_244 : decode cX10_draws 244 = .ok (.putfield 203, 3) := by decide +kernel
theorem dX10_draws_247 : decode cX10_draws 247 = .ok (.aload_n 0, 1) := by decide +kernel
theorem dX10_draws_248 : decode cX10_draws 248 = .ok (.aload_n 0, 1) := by decide +kernel
theorem dX10_draws_249 : decode cX10_draws 249 = .ok (.getfield 44, 3) := by decide +kernel
theorem dX10_draws_252 : decode cX10_draws 252 = .ok (.aload_n 0, 1) := by decide +kernel
theorem dX10_draws_253 : decode cX10_draws 253 = .ok (.getfield 200, 3) := by decide +kernel
theorem dX10_draws_256 : decode cX10_draws 256 = .ok (.iconst 1, 1) := by decide +kernel
theorem dX10_draws_257 : decode cX10_draws 257 = .ok (.isub, 1) := by decide +kernel
theorem dX10_draws_258 : decode cX10_draws 258 = .ok (.iaload, 1) := by decide +kernel
theorem dX10_draws_259 : decode cX10_draws 259 = .ok (.putfield 206, 3) := by decide +kernel
theorem dX10_draws_262 : decode cX10_draws 262 = .ok (.aload_n 0, 1) := by decide +kernel
theorem dX10_draws_263 : decode cX10_draws 263 = .ok (.getfield 95, 3) := by decide +kernel
theorem dX10_draws_266 : decode cX10_draws 266 = .ok (.iload_n 1, 1) := by decide +kernel
theorem dX10_draws_267 : decode cX10_draws 267 = .ok (.iconst 1, 1) := by decide +kernel
theorem dX10_draws_268 : decode cX10_draws 268 = .ok (.bastore, 1) := by decide +kernel
theorem dX10_draws_269 : decode cX10_draws 269 = .ok (.return_, 1) := by decide +kernel
theorem dX10_nextStroke_0 : decode cX10_nextStroke 0 = .ok (.iconst (-1), 1) := by decide +kernel
theorem dX10_nextStroke_1 : decode cX10_nextStroke 1 = .ok (.istore_n 2, 1) := by decide +kernel
theorem dX10_nextStroke_2 : decode cX10_nextStroke 2 = .ok (.iconst 0, 1) := by decide +kernel
theorem dX10_nextStroke_3 : decode cX10_nextStroke 3 = .ok (.istore_n 3, 1) := by decide +kernel
theorem dX10_nextStroke_4 : decode cX10_nextStroke 4 = .ok (.iload_n 3, 1) := by decide +kernel
theorem dX10_nextStroke_5 : decode cX10_nextStroke 5 = .ok (.aload_n 0, 1) := by decide +kernel
theorem dX10_nextStroke_6 : decode cX10_nextStroke 6 = .ok (.getfield 174, 3) := by decide +kernel
theorem dX10_nextStroke_9 : decode cX10_nextStroke 9 = .ok (.if_icmp .ge 64, 3) := by decide +kernel
theorem dX10_nextStroke_12 : decode cX10_nextStroke 12 = .ok (.aload_n 0, 1) := by decide +kernel
theorem dX10_nextStroke_13 : decode cX10_nextStroke 13 = .ok (.getfield 95, 3) := by decide +kernel
theorem dX10_nextStroke_16 : decode cX10_nextStroke 16 = .ok (.iload_n 3, 1) := by decide +kernel
theorem dX10_nextStroke_17 : decode cX10_nextStroke 17 = .ok (.baload, 1) := by decide +kernel
theorem dX10_nextStroke_18 : decode cX10_nextStroke 18 = .ok (.ifCond .ne 17, 3) := by decide +kernel
theorem dX10_nextStroke_21 : decode cX10_nextStroke 21 = .ok (.aload_n 0, 1) := by decide +kernel
theorem dX10_nextStroke_22 : decode cX10_nextStroke 22 = .ok (.getfield 77, 3) := by decide +kernel
theorem dX10_nextStroke_25 : decode cX10_nextStroke 25 = .ok (.iload_n 3, 1) := by decide +kernel
theorem dX10_nextStroke_26 : decode cX10_nextStroke 26 = .ok (.caload, 1) := by decide +kernel
theorem dX10_nextStroke_27 : decode cX10_nextStroke 27 = .ok (.iload_n 1, 1) := by decide +kernel
theorem dX10_nextStroke_28 : decode cX10_nextStroke 28 = .ok (.if_icmp .ne 7, 3) := by decide +kernel
theorem dX10_nextStroke_31 : decode cX10_nextStroke 31 = .ok (.iconst 1, 1) := by decide +kernel
theorem dX10_nextStroke_32 : decode cX10_nextStroke 32 = .ok (.goto 4, 3) := by decide +kernel
theorem dX10_nextStroke_35 : decode cX10_nextStroke 35 = .ok (.iconst 0, 1) := by decide +kernel
theorem dX10_nextStroke_36 : decode cX10_nextStroke 36 = .ok (.istore 4, 2) := by decide +kernel
theorem dX10_nextStroke_38 : decode cX10_nextStroke 38 = .ok (.iload 4, 2) := by decide +kernel
theorem dX10_nextStroke_40 : decode cX10_nextStroke 40 = .ok (.ifCond .eq 25, 3) := by decide +kernel
theorem dX10_nextStroke_43 : decode cX10_nextStroke 43 = .ok (.iload_n 2, 1) := by decide +kernel
theorem dX10_nextStroke_44 : decode cX10_nextStroke 44 = .ok (.iconst (-1), 1) := by decide +kernel
theorem dX10_nextStroke_45 : decode cX10_nextStroke 45 = .ok (.if_icmp .eq 16, 3) := by decide +kernel
theorem dX10_nextStroke_48 : decode cX10_nextStroke 48 = .ok (.aload_n 0, 1) := by decide +kernel
theorem dX10_nextStroke_49 : decode cX10_nextStroke 49 = .ok (.iload_n 3, 1) := by decide +kernel
theorem dX10_nextStroke_50 : decode cX10_nextStroke 50 = .ok (.invokevirtual 220, 3) := by decide +kernel
theorem dX10_nextStroke_53 : decode cX10_nextStroke 53 = .ok (.aload_n 0, 1) := by decide +kernel
theorem dX10_nextStroke_54 : decode cX10_nextStroke 54 = .ok (.iload_n 2, 1) := by decide +kernel
theorem dX10_nextStroke_55 : decode cX10_nextStroke 55 = .ok (.invokevirtual 220, 3) := by decide +kernel
theorem dX10_nextStroke_58 : decode cX10_nextStroke 58 = .ok (.if_icmp .ge 7, 3) := by decide +kernel
theorem dX10_nextStroke_61 : decode cX10_nextStroke 61 = .ok (.iload_n 3, 1) := by decide +kernel
theorem dX10_nextStroke_62 : decode cX10_nextStroke 62 = .ok (.goto 4, 3) := by decide +kernel
theorem dX10_nextStroke_65 : decode cX10_nextStroke 65 = .ok (.iload_n 2, 1) := by decide +kernel
theorem dX10_nextStroke_66 : decode cX10_nextStroke 66 = .ok (.istore_n 2, 1) := by decide +kernel
theorem dX10_nextStroke_67 : decode cX10_nextStroke 67 = .ok (.iinc 3 1, 3) := by decide +kernel
theorem dX10_nextStroke_70 : decode cX10_nextStroke 70 = .ok (.goto (-66), 3) := by decide +kernel
theorem dX10_nextStroke_73 : decode cX10_nextStroke 73 = .ok (.iload_n 2, 1) := by decide +kernel
theorem dX10_nextStroke_74 : decode cX10_nextStroke 74 = .ok (.ireturn, 1) := by decide +kernel
theorem dX10_plansLayer_0 : decode cX10_plansLayer 0 = .ok (.aload_n 0, 1) := by decide +kernel
theorem dX10_plansLayer_1 : decode cX10_plansLayer 1 = .ok (.iload_n 1, 1) := by decide +kernel
theorem dX10_plansLayer_2 : decode cX10_plansLayer 2 = .ok (.invokevirtual 196, 3) := by decide +kernel
theorem dX10_plansLayer_5 : decode cX10_plansLayer 5 = .ok (.aload_n 0, 1) := by decide +kernel
theorem dX10_plansLayer_6 : decode cX10_plansLayer 6 = .ok (.getfield 174, 3) := by decide +kernel
theorem dX10_plansLayer_9 : decode cX10_plansLayer 9 = .ok (.ifCond .ne 4, 3) := by decide +kernel
theorem dX10_plansLayer_12 : decode cX10_plansLayer 12 = .ok (.return_, 1) := by decide +kernel
theorem dX10_plansLayer_13 : decode cX10_plansLayer 13 = .ok (.aload_n 0, 1) := by decide +kernel
theorem dX10_plansLayer_14 : decode cX10_plansLayer 14 = .ok (.bipush 122, 2) := by decide +kernel
theorem dX10_plansLayer_16 : decode cX10_plansLayer 16 = .ok (.aload_n 0, 1) := by decide +kernel
theorem dX10_plansLayer_17 : decode cX10_plansLayer 17 = .ok (.getfield 203, 3) := by decide +kernel
theorem dX10_plansLayer_20 : decode cX10_plansLayer 20 = .ok (.aload_n 0, 1) := by decide +kernel
theorem dX10_plansLayer_21 : decode cX10_plansLayer 21 = .ok (.getfield 206, 3) := by decide +kernel
theorem dX10_plansLayer_24 : decode cX10_plansLayer 24 = .ok (.iconst 0, 1) := by decide +kernel
theorem dX10_plansLayer_25 : decode cX10_plansLayer 25 = .ok (.iload_n 1, 1) := by decide +kernel
theorem dX10_plansLayer_26 : decode cX10_plansLayer 26 = .ok (.invokevirtual 213, 3) := by decide +kernel
theorem dX10_plansLayer_29 : decode cX10_plansLayer 29 = .ok (.aload_n 0, 1) := by decide +kernel
theorem dX10_plansLayer_30 : decode cX10_plansLayer 30 = .ok (.getfield 34, 3) := by decide +kernel
theorem dX10_plansLayer_33 : decode cX10_plansLayer 33 = .ok (.iload_n 1, 1) := by decide +kernel
theorem dX10_plansLayer_34 : decode cX10_plansLayer 34 = .ok (.baload, 1) := by decide +kernel
theorem dX10_plansLayer_35 : decode cX10_plansLayer 35 = .ok (.ifCond .eq 19, 3) := by decide +kernel
theorem dX10_plansLayer_38 : decode cX10_plansLayer 38 = .ok (.aload_n 0, 1) := by decide +kernel
theorem dX10_plansLayer_39 : decode cX10_plansLayer 39 = .ok (.bipush 112, 2) := by decide +kernel
theorem dX10_plansLayer_41 : decode cX10_plansLayer 41 = .ok (.aload_n 0, 1) := by decide +kernel
theorem dX10_plansLayer_42 : decode cX10_plansLayer 42 = .ok (.getfield 203, 3) := by decide +kernel
theorem dX10_plansLayer_45 : decode cX10_plansLayer 45 = .ok (.aload_n 0, 1) := by decide +kernel
theorem dX10_plansLayer_46 : decode cX10_plansLayer 46 = .ok (.getfield 206, 3) := by decide +kernel
theorem dX10_plansLayer_49 : decode cX10_plansLayer 49 = .ok (.iconst 0, 1) := by decide +kernel
theorem dX10_plansLayer_50 : decode cX10_plansLayer 50 = .ok (.iload_n 1, 1) := by decide +kernel
theorem dX10_plansLayer_51 : decode cX10_plansLayer 51 = .ok (.invokevirtual 213, 3) := by decide +kernel
theorem dX10_plansLayer_54 : decode cX10_plansLayer 54 = .ok (.iconst 0, 1) := by decide +kernel
theorem dX10_plansLayer_55 : decode cX10_plansLayer 55 = .ok (.istore_n 2, 1) := by decide +kernel
theorem dX10_plansLayer_56 : decode cX10_plansLayer 56 = .ok (.iload_n 2, 1) := by decide +kernel
theorem dX10_plansLayer_57 : decode cX10_plansLayer 57 = .ok (.aload_n 0, 1) := by decide +kernel
theorem dX10_plansLayer_58 : decode cX10_plansLayer 58 = .ok (.getfield 174, 3) := by decide +kernel
theorem dX10_plansLayer_61 : decode cX10_plansLayer 61 = .ok (.if_icmp .ge 16, 3) := by decide +kernel
theorem dX10_plansLayer_64 : decode cX10_plansLayer 64 = .ok (.aload_n 0, 1) := by decide +kernel
theorem dX10_plansLayer_65 : decode cX10_plansLayer 65 = .ok (.getfield 95, 3) := by decide +kernel
theorem dX10_plansLayer_68 : decode cX10_plansLayer 68 = .ok (.iload_n 2, 1) := by decide +kernel
theorem dX10_plansLayer_69 : decode cX10_plansLayer 69 = .ok (.iconst 0, 1) := by decide +kernel
theorem dX10_plansLayer_70 : decode cX10_plansLayer 70 = .ok (.bastore, 1) := by decide +kernel
theorem dX10_plansLayer_71 : decode cX10_plansLayer 71 = .ok (.iinc 2 1, 3) := by decide +kernel
theorem dX10_plansLayer_74 : decode cX10_plansLayer 74 = .ok (.goto (-18), 3) := by decide +kernel
theorem dX10_plansLayer_77 : decode cX10_plansLayer 77 = .ok (.iconst 0, 1) := by decide +kernel
theorem dX10_plansLayer_78 : decode cX10_plansLayer 78 = .ok (.istore_n 2, 1) := by decide +kernel
theorem dX10_plansLayer_79 : decode cX10_plansLayer 79 = .ok (.iload_n 2, 1) := by decide +kernel
theorem dX10_plansLayer_80 : decode cX10_plansLayer 80 = .ok (.ldc 177, 2) := by decide +kernel
theorem dX10_plansLayer_82 : decode cX10_plansLayer 82 = .ok (.invokevirtual 179, 3) := by decide +kernel
theorem dX10_plansLayer_85 : decode cX10_plansLayer 85 = .ok (.if_icmp .ge 45, 3) := by decide +kernel
theorem dX10_plansLayer_88 : decode cX10_plansLayer 88 = .ok (.aload_n 0, 1) := by decide +kernel
theorem dX10_plansLayer_89 : decode cX10_plansLayer 89 = .ok (.ldc 177, 2) := by decide +kernel
theorem dX10_plansLayer_91 : decode cX10_plansLayer 91 = .ok (.iload_n 2, 1) := by decide +kernel
theorem dX10_plansLayer_92 : decode cX10_plansLayer 92 = .ok (.invokevirtual 185, 3) := by decide +kernel
theorem dX10_plansLayer_95 : decode cX10_plansLayer 95 = .ok (.invokevirtual 223, 3) := by decide +kernel
theorem dX10_plansLayer_98 : decode cX10_plansLayer 98 = .ok (.istore_n 3, 1) := by decide +kernel
theorem dX10_plansLayer_99 : decode cX10_plansLayer 99 = .ok (.iload_n 3, 1) := by decide +kernel
theorem dX10_plansLayer_100 : decode cX10_plansLayer 100 = .ok (.iconst (-1), 1) := by decide +kernel
theorem dX10_plansLayer_101 : decode cX10_plansLayer 101 = .ok (.if_icmp .eq 23, 3) := by decide +kernel
theorem dX10_plansLayer_104 : decode cX10_plansLayer 104 = .ok (.aload_n 0, 1) := by decide +kernel
theorem dX10_plansLayer_105 : decode cX10_plansLayer 105 = .ok (.iload_n 3, 1) := by decide +kernel
theorem dX10_plansLayer_106 : decode cX10_plansLayer 106 = .ok (.iload_n 1, 1) := by decide +kernel
theorem dX10_plansLayer_107 : decode cX10_plansLayer 107 = .ok (.invokevirtual 226, 3) := by decide +kernel
theorem dX10_plansLayer_110 : decode cX10_plansLayer 110 = .ok (.aload_n 0, 1) := by decide +kernel
theorem dX10_plansLayer_111 : decode cX10_plansLayer 111 = .ok (.ldc 177, 2) := by decide +kernel
theorem dX10_plansLayer_113 : decode cX10_plansLayer 113 = .ok (.iload_n 2, 1) := by decide +kernel
theorem dX10_plansLayer_114 : decode cX10_plansLayer 114 = .ok (.invokevirtual 185, 3) := by decide +kernel
theorem dX10_plansLayer_117 : decode cX10_plansLayer 117 = .ok (.invokevirtual 223, 3) := by decide +kernel
theorem dX10_plansLayer_120 : decode cX10_plansLayer 120 = .ok (.istore_n 3, 1) := by decide +kernel
theorem dX10_plansLayer_121 : decode cX10_plansLayer 121 = .ok (.goto (-22), 3) := by decide +kernel
theorem dX10_plansLayer_124 : decode cX10_plansLayer 124 = .ok (.iinc 2 1, 3) := by decide +kernel
theorem dX10_plansLayer_127 : decode cX10_plansLayer 127 = .ok (.goto (-48), 3) := by decide +kernel
theorem dX10_plansLayer_130 : decode cX10_plansLayer 130 = .ok (.return_, 1) := by decide +kernel
theorem dX10_isBusy_0 : decode cX10_isBusy 0 = .ok (.aload_n 0, 1) := by decide +kernel
theorem dX10_isBusy_1 : decode cX10_isBusy 1 = .ok (.getfield 62, 3) := by decide +kernel
theorem dX10_isBusy_4 : decode cX10_isBusy 4 = .ok (.bipush 114, 2) := by decide +kernel
theorem dX10_isBusy_6 : decode cX10_isBusy 6 = .ok (.if_icmp .eq 30, 3) := by decide +kernel
theorem dX10_isBusy_9 : decode cX10_isBusy 9 = .ok (.aload_n 0, 1) := by decide +kernel
theorem dX10_isBusy_10 : decode cX10_isBusy 10 = .ok (.getfield 62, 3) := by decide +kernel
theorem dX10_isBusy_13 : decode cX10_isBusy 13 = .ok (.bipush 119, 2) := by decide +kernel
theorem dX10_isBusy_15 : decode cX10_isBusy 15 = .ok (.if_icmp .eq 21, 3) := by decide +kernel
theorem dX10_isBusy_18 : decode cX10_isBusy 18 = .ok (.aload_n 0, 1) := by decide +kernel
theorem dX10_isBusy_19 : decode cX10_isBusy 19 = .ok (.getfield 62, 3) := by decide +kernel
theorem dX10_isBusy_22 : decode cX10_isBusy 22 = .ok (.bipush 112, 2) := by decide +kernel
theorem dX10_isBusy_24 : decode cX10_isBusy 24 = .ok (.if_icmp .eq 12, 3) := by decide +kernel
theorem dX10_isBusy_27 : decode cX10_isBusy 27 = .ok (.aload_n 0, 1) := by decide +kernel
theorem dX10_isBusy_28 : decode cX10_isBusy 28 = .ok (.getfield 62, 3) := by decide +kernel
theorem dX10_isBusy_31 : decode cX10_isBusy 31 = .ok (.bipush 102, 2) := by decide +kernel
theorem dX10_isBusy_33 : decode cX10_isBusy 33 = .ok (.if_icmp .ne 7, 3) := by decide +kernel
theorem dX10_isBusy_36 : decode cX10_isBusy 36 = .ok (.iconst 1, 1) := by decide +kernel
theorem dX10_isBusy_37 : decode cX10_isBusy 37 = .ok (.goto 4, 3) := by decide +kernel
theorem dX10_isBusy_40 : decode cX10_isBusy 40 = .ok (.iconst 0, 1) := by decide +kernel
theorem dX10_isBusy_41 : decode cX10_isBusy 41 = .ok (.ireturn, 1) := by decide +kernel
theorem dX10_plan_0 : decode cX10_plan 0 = .ok (.aload_n 0, 1) := by decide +kernel
theorem dX10_plan_1 : decode cX10_plan 1 = .ok (.aload_n 0, 1) := by decide +kernel
theorem dX10_plan_2 : decode cX10_plan 2 = .ok (.invokevirtual 230, 3) := by decide +kernel
theorem dX10_plan_5 : decode cX10_plan 5 = .ok (.ifCond .eq 7, 3) := by decide +kernel
theorem dX10_plan_8 : decode cX10_plan 8 = .ok (.iconst 1, 1) := by decide +kernel
theorem dX10_plan_9 : decode cX10_plan 9 = .ok (.goto 4, 3) := by decide +kernel
theorem dX10_plan_12 : decode cX10_plan 12 = .ok (.iconst 0, 1) := by decide +kernel
theorem dX10_plan_13 : decode cX10_plan 13 = .ok (.invokevirtual 112, 3) := by decide +kernel
theorem dX10_plan_16 : decode cX10_plan 16 = .ok (.ifCond .ne 5, 3) := by decide +kernel
theorem dX10_plan_19 : decode cX10_plan 19 = .ok (.iconst 0, 1) := by decide +kernel
theorem dX10_plan_20 : decode cX10_plan 20 = .ok (.ireturn, 1) := by decide +kernel
theorem dX10_plan_21 : decode cX10_plan 21 = .ok (.aload_n 0, 1) := by decide +kernel
theorem dX10_plan_22 : decode cX10_plan 22 = .ok (.iconst 0, 1) := by decide +kernel
theorem dX10_plan_23 : decode cX10_plan 23 = .ok (.putfield 200, 3) := by decide +kernel
theorem dX10_plan_26 : decode cX10_plan 26 = .ok (.aload_n 0, 1) := by decide +kernel
theorem dX10_plan_27 : decode cX10_plan 27 = .ok (.iconst 0, 1) := by decide +kernel
theorem dX10_plan_28 : decode cX10_plan 28 = .ok (.putfield 203, 3) := by decide +kernel
theorem dX10_plan_31 : decode cX10_plan 31 = .ok (.aload_n 0, 1) := by decide +kernel
theorem dX10_plan_32 : decode cX10_plan 32 = .ok (.iconst 0, 1) := by decide +kernel
theorem dX10_plan_33 : decode cX10_plan 33 = .ok (.putfield 206, 3) := by decide +kernel
theorem dX10_plan_36 : decode cX10_plan 36 = .ok (.iconst 0, 1) := by decide +kernel
theorem dX10_plan_37 : decode cX10_plan 37 = .ok (.istore_n 1, 1) := by decide +kernel
theorem dX10_plan_38 : decode cX10_plan 38 = .ok (.iload_n 1, 1) := by decide +kernel
theorem dX10_plan_39 : decode cX10_plan 39 = .ok (.bipush 12, 2) := by decide +kernel
theorem dX10_plan_41 : decode cX10_plan 41 = .ok (.if_icmp .ge 14, 3) := by decide +kernel
theorem dX10_plan_44 : decode cX10_plan 44 = .ok (.aload_n 0, 1) := by decide +kernel
theorem dX10_plan_45 : decode cX10_plan 45 = .ok (.iload_n 1, 1) := by decide +kernel
theorem dX10_plan_46 : decode cX10_plan 46 = .ok (.invokevirtual 234, 3) := by decide +kernel
theorem dX10_plan_49 : decode cX10_plan 49 = .ok (.iinc 1 1, 3) := by decide +kernel
theorem dX10_plan_52 : decode cX10_plan 52 = .ok (.goto (-14), 3) := by decide +kernel
theorem dX10_plan_55 : decode cX10_plan 55 = .ok (.aload_n 0, 1) := by decide +kernel
theorem dX10_plan_56 : decode cX10_plan 56 = .ok (.bipush 105, 2) := by decide +kernel
theorem dX10_plan_58 : decode cX10_plan 58 = .ok (.putfield 62, 3) := by decide +kernel
theorem dX10_plan_61 : decode cX10_plan 61 = .ok (.aload_n 0, 1) := by decide +kernel
theorem dX10_plan_62 : decode cX10_plan 62 = .ok (.iconst 0, 1) := by decide +kernel
theorem dX10_plan_63 : decode cX10_plan 63 = .ok (.putfield 237, 3) := by decide +kernel
theorem dX10_plan_66 : decode cX10_plan 66 = .ok (.aload_n 0, 1) := by decide +kernel
theorem dX10_plan_67 : decode cX10_plan 67 = .ok (.iconst 0, 1) := by decide +kernel
theorem dX10_plan_68 : decode cX10_plan 68 = .ok (.putfield 240, 3) := by decide +kernel
theorem dX10_plan_71 : decode cX10_plan 71 = .ok (.aload_n 0, 1) := by decide +kernel
theorem dX10_plan_72 : decode cX10_plan 72 = .ok (.iconst 0, 1) := by decide +kernel
theorem dX10_plan_73 : decode cX10_plan 73 = .ok (.putfield 244, 3) := by decide +kernel
theorem dX10_plan_76 : decode cX10_plan 76 = .ok (.aload_n 0, 1) := by decide +kernel
theorem dX10_plan_77 : decode cX10_plan 77 = .ok (.iconst 0, 1) := by decide +kernel
theorem dX10_plan_78 : decode cX10_plan 78 = .ok (.putfield 247, 3) := by decide +kernel
theorem dX10_plan_81 : decode cX10_plan 81 = .ok (.aload_n 0, 1) := by decide +kernel
theorem dX10_plan_82 : decode cX10_plan 82 = .ok (.getfield 200, 3) := by decide +kernel
theorem dX10_plan_85 : decode cX10_plan 85 = .ok (.ireturn, 1) := by decide +kernel
theorem dX10_commands_0 : decode cX10_commands 0 = .ok (.aload_n 0, 1) := by decide +kernel
theorem dX10_commands_1 : decode cX10_commands 1 = .ok (.iconst 0, 1) := by decide +kernel
theorem dX10_commands_2 : decode cX10_commands 2 = .ok (.putfield 98, 3) := by decide +kernel
theorem dX10_commands_5 : decode cX10_commands 5 = .ok (.aload_n 0, 1) := by decide +kernel
theorem dX10_commands_6 : decode cX10_commands 6 = .ok (.getfield 200, 3) := by decide +kernel
theorem dX10_commands_9 : decode cX10_commands 9 = .ok (.ireturn, 1) := by decide +kernel
theorem dX10_commandAt_0 : decode cX10_commandAt 0 = .ok (.aload_n 0, 1) := by decide +kernel
theorem dX10_commandAt_1 : decode cX10_commandAt 1 = .ok (.iload_n 1, 1) := by decide +kernel
theorem dX10_commandAt_2 : decode cX10_commandAt 2 = .ok (.iconst 0, 1) := by decide +kernel
theorem dX10_commandAt_3 : decode cX10_commandAt 3 = .ok (.aload_n 0, 1) := by decide +kernel
theorem dX10_commandAt_4 : decode cX10_commandAt 4 = .ok (.getfield 200, 3) := by decide +kernel
theorem dX10_commandAt_7 : decode cX10_commandAt 7 = .ok (.iconst 1, 1) := by decide +kernel
theorem dX10_commandAt_8 : decode cX10_commandAt 8 = .ok (.isub, 1) := by decide +kernel
theorem dX10_commandAt_9 : decode cX10_commandAt 9 = .ok (.invokestatic 101, 3) := by decide +kernel
theorem dX10_commandAt_12 : decode cX10_commandAt 12 = .ok (.ifCond .eq 7, 3) := by decide +kernel
theorem dX10_commandAt_15 : decode cX10_commandAt 15 = .ok (.iconst 0, 1) := by decide +kernel
theorem dX10_commandAt_16 : decode cX10_commandAt 16 = .ok (.goto 4, 3) := by decide +kernel
theorem dX10_commandAt_19 : decode cX10_commandAt 19 = .ok (.iconst 1, 1) := by decide +kernel
theorem dX10_commandAt_20 : decode cX10_commandAt 20 = .ok (.invokevirtual 112, 3) := by decide +kernel
theorem dX10_commandAt_23 : decode cX10_commandAt 23 = .ok (.ifCond .eq 12, 3) := by decide +kernel
theorem dX10_commandAt_26 : decode cX10_commandAt 26 = .ok (.aload_n 0, 1) := by decide +kernel
theorem dX10_commandAt_27 : decode cX10_commandAt 27 = .ok (.getfield 37, 3) := by decide +kernel
theorem dX10_commandAt_30 : decode cX10_commandAt 30 = .ok (.iload_n 1, 1) := by decide +kernel
theorem dX10_commandAt_31 : decode cX10_commandAt 31 = .ok (.caload, 1) := by decide +kernel
theorem dX10_commandAt_32 : decode cX10_commandAt 32 = .ok (.goto 4, 3) := by decide +kernel
theorem dX10_commandAt_35 : decode cX10_commandAt 35 = .ok (.iconst 0, 1) := by decide +kernel
theorem dX10_commandAt_36 : decode cX10_commandAt 36 = .ok (.ireturn, 1) := by decide +kernel
theorem dX10_isMove_0 : decode cX10_isMove 0 = .ok (.iload_n 1, 1) := by decide +kernel
theorem dX10_isMove_1 : decode cX10_isMove 1 = .ok (.aload_n 0, 1) := by decide +kernel
theorem dX10_isMove_2 : decode cX10_isMove 2 = .ok (.getfield 200, 3) := by decide +kernel
theorem dX10_isMove_5 : decode cX10_isMove 5 = .ok (.if_icmp .ge 29, 3) := by decide +kernel
theorem dX10_isMove_8 : decode cX10_isMove 8 = .ok (.aload_n 0, 1) := by decide +kernel
theorem dX10_isMove_9 : decode cX10_isMove 9 = .ok (.getfield 37, 3) := by decide +kernel
theorem dX10_isMove_12 : decode cX10_isMove 12 = .ok (.iload_n 1, 1) := by decide +kernel
theorem dX10_isMove_13 : decode cX10_isMove 13 = .ok (.caload, 1) := by decide +kernel
theorem dX10_isMove_14 : decode cX10_isMove 14 = .ok (.bipush 103, 2) := by decide +kernel
theorem dX10_isMove_16 : decode cX10_isMove 16 = .ok (.if_icmp .eq 14, 3) := by decide +kernel
theorem dX10_isMove_19 : decode cX10_isMove 19 = .ok (.aload_n 0, 1) := by decide +kernel
theorem dX10_isMove_20 : decode cX10_isMove 20 = .ok (.getfield 37, 3) := by decide +kernel
theorem dX10_isMove_23 : decode cX10_isMove 23 = .ok (.iload_n 1, 1) := by decide +kernel
theorem dX10_isMove_24 : decode cX10_isMove 24 = .ok (.caload, 1) := by decide +kernel
theorem dX10_isMove_25 : decode cX10_isMove 25 = .ok (.bipush 100, 2) := by decide +kernel
theorem dX10_isMove_27 : decode cX10_isMove 27 = .ok (.if_icmp .ne 7, 3) := by decide +kernel
theorem dX10_isMove_30 : decode cX10_isMove 30 = .ok (.iconst 1, 1) := by decide +kernel
theorem dX10_isMove_31 : decode cX10_isMove 31 = .ok (.goto 4, 3) := by decide +kernel
theorem dX10_isMove_34 : decode cX10_isMove 34 = .ok (.iconst 0, 1) := by decide +kernel
theorem dX10_isMove_35 : decode cX10_isMove 35 = .ok (.ireturn, 1) := by decide +kernel
theorem dX10_numberAt_0 : decode cX10_numberAt 0 = .ok (.iload_n 1, 1) := by decide +kernel
theorem dX10_numberAt_1 : decode cX10_numberAt 1 = .ok (.iconst 0, 1) := by decide +kernel
theorem dX10_numberAt_2 : decode cX10_numberAt 2 = .ok (.aload_n 0, 1) := by decide +kernel
theorem dX10_numberAt_3 : decode cX10_numberAt 3 = .ok (.getfield 200, 3) := by decide +kernel
theorem dX10_numberAt_6 : decode cX10_numberAt 6 = .ok (.iconst 1, 1) := by decide +kernel
theorem dX10_numberAt_7 : decode cX10_numberAt 7 = .ok (.isub, 1) := by decide +kernel
theorem dX10_numberAt_8 : decode cX10_numberAt 8 = .ok (.invokestatic 101, 3) := by decide +kernel
theorem dX10_numberAt_11 : decode cX10_numberAt 11 = .ok (.istore_n 3, 1) := by decide +kernel
theorem dX10_numberAt_12 : decode cX10_numberAt 12 = .ok (.iload_n 2, 1) := by decide +kernel
theorem dX10_numberAt_13 : decode cX10_numberAt 13 = .ok (.bipush 120, 2) := by decide +kernel
theorem dX10_numberAt_15 : decode cX10_numberAt 15 = .ok (.if_icmp .eq 21, 3) := by decide +kernel
theorem dX10_numberAt_18 : decode cX10_numberAt 18 = .ok (.iload_n 2, 1) := by decide +kernel
theorem dX10_numberAt_19 : decode cX10_numberAt 19 = .ok (.bipush 121, 2) := by decide +kernel
theorem dX10_numberAt_21 : decode cX10_numberAt 21 = .ok (.if_icmp .eq 15, 3) := by decide +kernel
theorem dX10_numberAt_24 : decode cX10_numberAt 24 = .ok (.iload_n 2, 1) := by decide +kernel
theorem dX10_numberAt_25 : decode cX10_numberAt 25 = .ok (.bipush 97, 2) := by decide +kernel
theorem dX10_numberAt_27 : decode cX10_numberAt 27 = .ok (.if_icmp .eq 9, 3) := by decide +kernel
theorem dX10_numberAt_30 : decode cX10_numberAt 30 = .ok (.iload_n 2, 1) := by decide +kernel
theorem dX10_numberAt_31 : decode cX10_numberAt 31 = .ok (.bipush 122, 2) := by decide +kernel
theorem dX10_numberAt_33 : decode cX10_numberAt 33 = .ok (.if_icmp .ne 7, 3) := by decide +kernel
theorem dX10_numberAt_36 : decode cX10_numberAt 36 = .ok (.iconst 1, 1) := by decide +kernel
theorem dX10_numberAt_37 : decode cX10_numberAt 37 = .ok (.goto 4, 3) := by decide +kernel
theorem dX10_numberAt_40 : decode cX10_numberAt 40 = .ok (.iconst 0, 1) := by decide +kernel
theorem dX10_numberAt_41 : decode cX10_numberAt 41 = .ok (.istore 4, 2) := by decide +kernel
theorem dX10_numberAt_43 : decode cX10_numberAt 43 = .ok (.iload_n 3, 1) := by decide +kernel
theorem dX10_numberAt_44 : decode cX10_numberAt 44 = .ok (.ifCond .eq 55, 3) := by decide +kernel
theorem dX10_numberAt_47 : decode cX10_numberAt 47 = .ok (.iload_n 2, 1) := by decide +kernel
theorem dX10_numberAt_48 : decode cX10_numberAt 48 = .ok (.bipush 97, 2) := by decide +kernel
theorem dX10_numberAt_50 : decode cX10_numberAt 50 = .ok (.if_icmp .ne 17, 3) := by decide +kernel
theorem dX10_numberAt_53 : decode cX10_numberAt 53 = .ok (.aload_n 0, 1) := by decide +kernel
theorem dX10_numberAt_54 : decode cX10_numberAt 54 = .ok (.getfield 37, 3) := by decide +kernel
theorem dX10_numberAt_57 : decode cX10_numberAt 57 = .ok (.iload_n 1, 1) := by decide +kernel
theorem dX10_numberAt_58 : decode cX10_numberAt 58 = .ok (.caload, 1) := by decide +kernel
theorem dX10_numberAt_59 : decode cX10_numberAt 59 = .ok (.bipush 100, 2) := by decide +kernel
theorem dX10_numberAt_61 : decode cX10_numberAt 61 = .ok (.if_icmp .ne 38, 3) := by decide +kernel
theorem dX10_numberAt_64 : decode cX10_numberAt 64 = .ok (.goto 31, 3) := by decide +kernel
theorem dX10_numberAt_67 : decode cX10_numberAt 67 = .ok (.iload_n 2, 1) := by decide +kernel
theorem dX10_numberAt_68 : decode cX10_numberAt 68 = .ok (.bipush 122, 2) := by decide +kernel
theorem dX10_numberAt_70 : decode cX10_numberAt 70 = .ok (.if_icmp .ne 17, 3) := by decide +kernel
theorem dX10_numberAt_73 : decode cX10_numberAt 73 = .ok (.aload_n 0, 1) := by decide +kernel
theorem dX10_numberAt_74 : decode cX10_numberAt 74 = .ok (.getfield 37, 3) := by decide +kernel
theorem dX10_numberAt_77 : decode cX10_numberAt 77 = .ok (.iload_n 1, 1) := by decide +kernel
theorem dX10_numberAt_78 : decode cX10_numberAt 78 = .ok (.caload, 1) := by decide +kernel
theorem dX10_numberAt_79 : decode cX10_numberAt 79 = .ok (.bipush 122, 2) := by decide +kernel
theorem dX10_numberAt_81 : decode cX10_numberAt 81 = .ok (.if_icmp .ne 18, 3) := by decide +kernel
theorem dX10_numberAt_84 : decode cX10_numberAt 84 = .ok (.goto 11, 3) := by decide +kernel
theorem dX10_numberAt_87 : decode cX10_numberAt 87 = .ok (.aload_n 0, 1) := by decide +kernel
theorem dX10_numberAt_88 : decode cX10_numberAt 88 = .ok (.iload_n 1, 1) := by decide +kernel
theorem dX10_numberAt_89 : decode cX10_numberAt 89 = .ok (.invokevirtual 250, 3) := by decide +kernel
theorem dX10_numberAt_92 : decode cX10_numberAt 92 = .ok (.ifCond .eq 7, 3) := by decide +kernel
theorem dX10_numberAt_95 : decode cX10_numberAt 95 = .ok (.iconst 1, 1) := by decide +kernel
theorem dX10_numberAt_96 : decode cX10_numberAt 96 = .ok (.goto 4, 3) := by decide +kernel
theorem dX10_numberAt_99 : decode cX10_numberAt 99 = .ok (.iconst 0, 1) := by decide +kernel
theorem dX10_numberAt_100 : decode cX10_numberAt 100 = .ok (.istore 5, 2) := by decide +kernel
theorem dX10_numberAt_102 : decode cX10_numberAt 102 = .ok (.aload_n 0, 1) := by decide +kernel
theorem dX10_numberAt_103 : decode cX10_numberAt 103 = .ok (.iload_n 3, 1) := by decide +kernel
theorem dX10_numberAt_104 : decode cX10_numberAt 104 = .ok (.ifCond .ne 7, 3) := by decide +kernel
theorem dX10_numberAt_107 : decode cX10_numberAt 107 = .ok (.iconst 1, 1) := by decide +kernel
theorem dX10_numberAt_108 : decode cX10_numberAt 108 = .ok (.goto 22, 3) := by decide +kernel
theorem dX10_numberAt_111 : decode cX10_numberAt 111 = .ok (.iload 4, 2) := by decide +kernel
theorem dX10_numberAt_113 : decode cX10_numberAt 113 = .ok (.ifCond .ne 7, 3) := by decide +kernel
theorem dX10_numberAt_116 : decode cX10_numberAt 116 = .ok (.iconst 2, 1) := by decide +kernel
theorem dX10_numberAt_117 : decode cX10_numberAt 117 = .ok (.goto 13, 3) := by decide +kernel
theorem dX10_numberAt_120 : decode cX10_numberAt 120 = .ok (.iload 5, 2) := by decide +kernel
theorem dX10_numberAt_122 : decode cX10_numberAt 122 = .ok (.ifCond .ne 7, 3) := by decide +kernel
theorem dX10_numberAt_125 : decode cX10_numberAt 125 = .ok (.iconst 3, 1) := by decide +kernel
theorem dX10_numberAt_126 : decode cX10_numberAt 126 = .ok (.goto 4, 3) := by decide +kernel
theorem dX10_numberAt_129 : decode cX10_numberAt 129 = .ok (.iconst 0, 1) := by decide +kernel
theorem dX10_numberAt_130 : decode cX10_numberAt 130 = .ok (.invokevirtual 112, 3) := by decide +kernel
theorem dX10_numberAt_133 : decode cX10_numberAt 133 = .ok (.ifCond .ne 5, 3) := by decide +kernel
theorem dX10_numberAt_136 : decode cX10_numberAt 136 = .ok (.iconst 0, 1) := by decide +kernel
theorem dX10_numberAt_137 : decode cX10_numberAt 137 = .ok (.ireturn, 1) := by decide +kernel
theorem dX10_numberAt_138 : decode cX10_numberAt 138 = .ok (.iload_n 2, 1) := by decide +kernel
theorem dX10_numberAt_139 : decode cX10_numberAt 139 = .ok (.bipush 120, 2) := by decide +kernel
theorem dX10_numberAt_141 : decode cX10_numberAt 141 = .ok (.if_icmp .ne 12, 3) := by decide +kernel
theorem dX10_numberAt_144 : decode cX10_numberAt 144 = .ok (.aload_n 0, 1) := by decide +kernel
theorem dX10_numberAt_145 : decode cX10_numberAt 145 = .ok (.getfield 41, 3) := by decide +kernel
theorem dX10_numberAt_148 : decode cX10_numberAt 148 = .ok (.iload_n 1, 1) := by decide +kernel
theorem dX10_numberAt_149 : decode cX10_numberAt 149 = .ok (.iaload, 1) := by decide +kernel
theorem dX10_numberAt_150 : decode cX10_numberAt 150 = .ok (.goto 39, 3) := by decide +kernel
theorem dX10_numberAt_153 : decode cX10_numberAt 153 = .ok (.iload_n 2, 1) := by decide +kernel
theorem dX10_numberAt_154 : decode cX10_numberAt 154 = .ok (.bipush 121, 2) := by decide +kernel
theorem dX10_numberAt_156 : decode cX10_numberAt 156 = .ok (.if_icmp .ne 12, 3) := by decide +kernel
theorem dX10_numberAt_159 : decode cX10_numberAt 159 = .ok (.aload_n 0, 1) := by decide +kernel
theorem dX10_numberAt_160 : decode cX10_numberAt 160 = .ok (.getfield 44, 3) := by decide +kernel
theorem dX10_numberAt_163 : decode cX10_numberAt 163 = .ok (.iload_n 1, 1) := by decide +kernel
theorem dX10_numberAt_164 : decode cX10_numberAt 164 = .ok (.iaload, 1) := by decide +kernel
theorem dX10_numberAt_165 : decode cX10_numberAt 165 = .ok (.goto 24, 3) := by decide +kernel
theorem dX10_numberAt_168 : decode cX10_numberAt 168 = .ok (.iload_n 2, 1) := by decide +kernel
theorem dX10_numberAt_169 : decode cX10_numberAt 169 = .ok (.bipush 97, 2) := by decide +kernel
theorem dX10_numberAt_171 : decode cX10_numberAt 171 = .ok (.if_icmp .ne 12, 3) := by decide +kernel
theorem dX10_numberAt_174 : decode cX10_numberAt 174 = .ok (.aload_n 0, 1) := by decide +kernel
theorem dX10_numberAt_175 : decode cX10_numberAt 175 = .ok (.getfield 47, 3) := by decide +kernel
theorem dX10_numberAt_178 : decode cX10_numberAt 178 = .ok (.iload_n 1, 1) := by decide +kernel
theorem dX10_numberAt_179 : decode cX10_numberAt 179 = .ok (.iaload, 1) := by decide +kernel
theorem dX10_numberAt_180 : decode cX10_numberAt 180 = .ok (.goto 9, 3) := by decide +kernel
theorem dX10_numberAt_183 : decode cX10_numberAt 183 = .ok (.aload_n 0, 1) := by decide +kernel
theorem dX10_numberAt_184 : decode cX10_numberAt 184 = .ok (.getfield 50, 3) := by decide +kernel
theorem dX10_numberAt_187 : decode cX10_numberAt 187 = .ok (.iload_n 1, 1) := by decide +kernel
theorem dX10_numberAt_188 : decode cX10_numberAt 188 = .ok (.iaload, 1) := by decide +kernel
theorem dX10_numberAt_189 : decode cX10_numberAt 189 = .ok (.ireturn, 1) := by decide +kernel
theorem dX10_travel_0 : decode cX10_travel 0 = .ok (.aload_n 0, 1) := by decide +kernel
theorem dX10_travel_1 : decode cX10_travel 1 = .ok (.iconst 0, 1) := by decide +kernel
theorem dX10_travel_2 : decode cX10_travel 2 = .ok (.putfield 98, 3) := by decide +kernel
theorem dX10_travel_5 : decode cX10_travel 5 = .ok (.iconst 0, 1) := by decide +kernel
theorem dX10_travel_6 : decode cX10_travel 6 = .ok (.istore_n 1, 1) := by decide +kernel
theorem dX10_travel_7 : decode cX10_travel 7 = .ok (.iconst 0, 1) := by decide +kernel
theorem dX10_travel_8 : decode cX10_travel 8 = .ok (.istore_n 2, 1) := by decide +kernel
theorem dX10_travel_9 : decode cX10_travel 9 = .ok (.iload_n 2, 1) := by decide +kernel
theorem dX10_travel_10 : decode cX10_travel 10 = .ok (.aload_n 0, 1) := by decide +kernel
theorem dX10_travel_11 : decode cX10_travel 11 = .ok (.getfield 200, 3) := by decide +kernel
theorem dX10_travel_14 : decode cX10_travel 14 = .ok (.if_icmp .ge 60, 3) := by decide +kernel
theorem dX10_travel_17 : decode cX10_travel 17 = .ok (.iload_n 1, 1) := by decide +kernel
theorem dX10_travel_18 : decode cX10_travel 18 = .ok (.aload_n 0, 1) := by decide +kernel
theorem dX10_travel_19 : decode cX10_travel 19 = .ok (.getfield 37, 3) := by decide +kernel
theorem dX10_travel_22 : decode cX10_travel 22 = .ok (.iload_n 2, 1) := by decide +kernel
theorem dX10_travel_23 : decode cX10_travel 23 = .ok (.caload, 1) := by decide +kernel
theorem dX10_travel_24 : decode cX10_travel 24 = .ok (.bipush 103, 2) := by decide +kernel
theorem dX10_travel_26 : decode cX10_travel 26 = .ok (.if_icmp .ne 39, 3) := by decide +kernel
theorem dX10_travel_29 : decode cX10_travel 29 = .ok (.aload_n 0, 1) := by decide +kernel
theorem dX10_travel_30 : decode cX10_travel 30 = .ok (.getfield 41, 3) := by decide +kernel
theorem dX10_travel_33 : decode cX10_travel 33 = .ok (.iload_n 2, 1) := by decide +kernel
theorem dX10_travel_34 : decode cX10_travel 34 = .ok (.iaload, 1) := by decide +kernel
theorem dX10_travel_35 : decode cX10_travel 35 = .ok (.aload_n 0, 1) := by decide +kernel
theorem dX10_travel_36 : decode cX10_travel 36 = .ok (.getfield 56, 3) := by decide +kernel
theorem dX10_travel_39 : decode cX10_travel 39 = .ok (.iload_n 2, 1) := by decide +kernel
theorem dX10_travel_40 : decode cX10_travel 40 = .ok (.iaload, 1) := by decide +kernel
theorem dX10_travel_41 : decode cX10_travel 41 = .ok (.isub, 1) := by decide +kernel
theorem dX10_travel_42 : decode cX10_travel 42 = .ok (.invokestatic 133, 3) := by decide +kernel
theorem dX10_travel_45 : decode cX10_travel 45 = .ok (.aload_n 0, 1) := by decide +kernel
theorem dX10_travel_46 : decode cX10_travel 46 = .ok (.getfield 44, 3) := by decide +kernel
theorem dX10_travel_49 : decode cX10_travel 49 = .ok (.iload_n 2, 1) := by decide +kernel
theorem dX10_travel_50 : decode cX10_travel 50 = .ok (.iaload, 1) := by decide +kernel
theorem dX10_travel_51 : decode cX10_travel 51 = .ok (.aload_n 0, 1) := by decide +kernel
theorem dX10_travel_52 : decode cX10_travel 52 = .ok (.getfield 59, 3) := by decide +kernel
theorem dX10_travel_55 : decode cX10_travel 55 = .ok (.iload_n 2, 1) := by decide +kernel
theorem dX10_travel_56 : decode cX10_travel 56 = .ok (.iaload, 1) := by decide +kernel
theorem dX10_travel_57 : decode cX10_travel 57 = .ok (.isub, 1) := by decide +kernel
theorem dX10_travel_58 : decode cX10_travel 58 = .ok (.invokestatic 133, 3) := by decide +kernel
theorem dX10_travel_61 : decode cX10_travel 61 = .ok (.iadd, 1) := by decide +kernel
theorem dX10_travel_62 : decode cX10_travel 62 = .ok (.goto 4, 3) := by decide +kernel
theorem dX10_travel_65 : decode cX10_travel 65 = .ok (.iconst 0, 1) := by decide +kernel
theorem dX10_travel_66 : decode cX10_travel 66 = .ok (.iadd, 1) := by decide +kernel
theorem dX10_travel_67 : decode cX10_travel 67 = .ok (.istore_n 1, 1) := by decide +kernel
theorem dX10_travel_68 : decode cX10_travel 68 = .ok (.iinc 2 1, 3) := by decide +kernel
theorem dX10_travel_71 : decode cX10_travel 71 = .ok (.goto (-62), 3) := by decide +kernel
theorem dX10_travel_74 : decode cX10_travel 74 = .ok (.iload_n 1, 1) := by decide +kernel
theorem dX10_travel_75 : decode cX10_travel 75 = .ok (.ireturn, 1) := by decide +kernel
theorem dX10_planned_0 : decode cX10_planned 0 = .ok (.aload_n 0, 1) := by decide +kernel
theorem dX10_planned_1 : decode cX10_planned 1 = .ok (.iconst 0, 1) := by decide +kernel
theorem dX10_planned_2 : decode cX10_planned 2 = .ok (.putfield 98, 3) := by decide +kernel
theorem dX10_planned_5 : decode cX10_planned 5 = .ok (.lconst 0, 1) := by decide +kernel
theorem dX10_planned_6 : decode cX10_planned 6 = .ok (.lstore_n 1, 1) := by decide +kernel
theorem dX10_planned_7 : decode cX10_planned 7 = .ok (.iconst 0, 1) := by decide +kernel
theorem dX10_planned_8 : decode cX10_planned 8 = .ok (.istore_n 3, 1) := by decide +kernel
theorem dX10_planned_9 : decode cX10_planned 9 = .ok (.iload_n 3, 1) := by decide +kernel
theorem dX10_planned_10 : decode cX10_planned 10 = .ok (.aload_n 0, 1) := by decide +kernel
theorem dX10_planned_11 : decode cX10_planned 11 = .ok (.getfield 200, 3) := by decide +kernel
theorem dX10_planned_14 : decode cX10_planned 14 = .ok (.if_icmp .ge 19, 3) := by decide +kernel
theorem dX10_planned_17 : decode cX10_planned 17 = .ok (.lload_n 1, 1) := by decide +kernel
theorem dX10_planned_18 : decode cX10_planned 18 = .ok (.aload_n 0, 1) := by decide +kernel
theorem dX10_planned_19 : decode cX10_planned 19 = .ok (.getfield 47, 3) := by decide +kernel
theorem dX10_planned_22 : decode cX10_planned 22 = .ok (.iload_n 3, 1) := by decide +kernel
theorem dX10_planned_23 : decode cX10_planned 23 = .ok (.iaload, 1) := by decide +kernel
theorem dX10_planned_24 : decode cX10_planned 24 = .ok (.i2l, 1) := by decide +kernel
theorem dX10_planned_25 : decode cX10_planned 25 = .ok (.ladd, 1) := by decide +kernel
theorem dX10_planned_26 : decode cX10_planned 26 = .ok (.lstore_n 1, 1) := by decide +kernel
theorem dX10_planned_27 : decode cX10_planned 27 = .ok (.iinc 3 1, 3) := by decide +kernel
theorem dX10_planned_30 : decode cX10_planned 30 = .ok (.goto (-21), 3) := by decide +kernel
theorem dX10_planned_33 : decode cX10_planned 33 = .ok (.lload_n 1, 1) := by decide +kernel
theorem dX10_planned_34 : decode cX10_planned 34 = .ok (.lreturn, 1) := by decide +kernel
theorem dX10_setTarget_0 : decode cX10_setTarget 0 = .ok (.aload_n 0, 1) := by decide +kernel
theorem dX10_setTarget_1 : decode cX10_setTarget 1 = .ok (.iload_n 1, 1) := by decide +kernel
theorem dX10_setTarget_2 : decode cX10_setTarget 2 = .ok (.iconst 0, 1) := by decide +kernel
theorem dX10_setTarget_3 : decode cX10_setTarget 3 = .ok (.sipush 300, 3) := by decide +kernel
theorem dX10_setTarget_6 : decode cX10_setTarget 6 = .ok (.invokestatic 101, 3) := by decide +kernel
theorem dX10_setTarget_9 : decode cX10_setTarget 9 = .ok (.ifCond .ne 7, 3) := by decide +kernel
theorem dX10_setTarget_12 : decode cX10_setTarget 12 = .ok (.iconst 1, 1) := by decide +kernel
theorem dX10_setTarget_13 : decode cX10_setTarget 13 = .ok (.goto 17, 3) := by decide +kernel
theorem dX10_setTarget_16 : decode cX10_setTarget 16 = .ok (.aload_n 0, 1) := by decide +kernel
theorem dX10_setTarget_17 : decode cX10_setTarget 17 = .ok (.getfield 62, 3) := by decide +kernel
theorem dX10_setTarget_20 : decode cX10_setTarget 20 = .ok (.bipush 102, 2) := by decide +kernel
theorem dX10_setTarget_22 : decode cX10_setTarget 22 = .ok (.if_icmp .ne 7, 3) := by decide +kernel
theorem dX10_setTarget_25 : decode cX10_setTarget 25 = .ok (.iconst 2, 1) := by decide +kernel
theorem dX10_setTarget_26 : decode cX10_setTarget 26 = .ok (.goto 4, 3) := by decide +kernel
theorem dX10_setTarget_29 : decode cX10_setTarget 29 = .ok (.iconst 0, 1) := by decide +kernel
theorem dX10_setTarget_30 : decode cX10_setTarget 30 = .ok (.invokevirtual 112, 3) := by decide +kernel
theorem dX10_setTarget_33 : decode cX10_setTarget 33 = .ok (.ifCond .ne 5, 3) := by decide +kernel
theorem dX10_setTarget_36 : decode cX10_setTarget 36 = .ok (.iconst 0, 1) := by decide +kernel
theorem dX10_setTarget_37 : decode cX10_setTarget 37 = .ok (.ireturn, 1) := by decide +kernel
theorem dX10_setTarget_38 : decode cX10_setTarget 38 = .ok (.aload_n 0, 1) := by decide +kernel
theorem dX10_setTarget_39 : decode cX10_setTarget 39 = .ok (.getfield 253, 3) := by decide +kernel
theorem dX10_setTarget_42 : decode cX10_setTarget 42 = .ok (.istore_n 2, 1) := by decide +kernel
theorem dX10_setTarget_43 : decode cX10_setTarget 43 = .ok (.aload_n 0, 1) := by decide +kernel
theorem dX10_setTarget_44 : decode cX10_setTarget 44 = .ok (.iload_n 1, 1) := by decide +kernel
theorem dX10_setTarget_45 : decode cX10_setTarget 45 = .ok (.putfield 253, 3) := by decide +kernel
theorem dX10_setTarget_48 : decode cX10_setTarget 48 = .ok (.iload_n 2, 1) := by decide +kernel
theorem dX10_setTarget_49 : decode cX10_setTarget 49 = .ok (.ireturn, 1) := by decide +kernel
theorem dX10_begins_0 : decode cX10_begins 0 = .ok (.aload_n 0, 1) := by decide +kernel
theorem dX10_begins_1 : decode cX10_begins 1 = .ok (.bipush 114, 2) := by decide +kernel
theorem dX10_begins_3 : decode cX10_begins 3 = .ok (.putfield 62, 3) := by decide +kernel
theorem dX10_begins_6 : decode cX10_begins 6 = .ok (.aload_n 0, 1) := by decide +kernel
theorem dX10_begins_7 : decode cX10_begins 7 = .ok (.iload_n 1, 1) := by decide +kernel
theorem dX10_begins_8 : decode cX10_begins 8 = .ok (.putfield 237, 3) := by decide +kernel
theorem dX10_begins_11 : decode cX10_begins 11 = .ok (.aload_n 0, 1) := by decide +kernel
theorem dX10_begins_12 : decode cX10_begins 12 = .ok (.iconst 0, 1) := by decide +kernel
theorem dX10_begins_13 : decode cX10_begins 13 = .ok (.putfield 244, 3) := by decide +kernel
theorem dX10_begins_16 : decode cX10_begins 16 = .ok (.aload_n 0, 1) := by decide +kernel
theorem dX10_begins_17 : decode cX10_begins 17 = .ok (.iconst 0, 1) := by decide +kernel
theorem dX10_begins_18 : decode cX10_begins 18 = .ok (.putfield 247, 3) := by decide +kernel
theorem dX10_begins_21 : decode cX10_begins 21 = .ok (.return_, 1) := by decide +kernel
theorem dX10_print_0 : decode cX10_print 0 = .ok (.aload_n 0, 1) := by decide +kernel
theorem dX10_print_1 : decode cX10_print 1 = .ok (.aload_n 0, 1) := by decide +kernel
theorem dX10_print_2 : decode cX10_print 2 = .ok (.invokevirtual 230, 3) := by decide +kernel
theorem dX10_print_5 : decode cX10_print 5 = .ok (.ifCond .ne 10, 3) := by decide +kernel
theorem dX10_print_8 : decode cX10_print 8 = .ok (.aload_n 0, 1) := by decide +kernel
theorem dX10_print_9 : decode cX10_print 9 = .ok (.getfield 200, 3) := by decide +kernel
theorem dX10_print_12 : decode cX10_print 12 = .ok (.ifCond .ne 7, 3) := by decide +kernel
theorem dX10_print_15 : decode cX10_print 15 = .ok (.iconst 1, 1) := by decide +kernel
theorem dX10_print_16 : decode cX10_print 16 = .ok (.goto 4, 3) := by decide +kernel
theorem dX10_print_19 : decode cX10_print 19 = .ok (.iconst 0, 1) := by decide +kernel
theorem dX10_print_20 : decode cX10_print 20 = .ok (.invokevirtual 112, 3) := by decide +kernel
theorem dX10_print_23 : decode cX10_print 23 = .ok (.ifCond .ne 5, 3) := by decide +kernel
theorem dX10_print_26 : decode cX10_print 26 = .ok (.iconst 0, 1) := by decide +kernel
theorem dX10_print_27 : decode cX10_print 27 = .ok (.ireturn, 1) := by decide +kernel
theorem dX10_print_28 : decode cX10_print 28 = .ok (.aload_n 0, 1) := by decide +kernel
theorem dX10_print_29 : decode cX10_print 29 = .ok (.iconst 0, 1) := by decide +kernel
theorem dX10_print_30 : decode cX10_print 30 = .ok (.invokevirtual 256, 3) := by decide +kernel
theorem dX10_print_33 : decode cX10_print 33 = .ok (.aload_n 0, 1) := by decide +kernel
theorem dX10_print_34 : decode cX10_print 34 = .ok (.iconst (-1), 1) := by decide +kernel
theorem dX10_print_35 : decode cX10_print 35 = .ok (.putfield 65, 3) := by decide +kernel
theorem dX10_print_38 : decode cX10_print 38 = .ok (.aload_n 0, 1) := by decide +kernel
theorem dX10_print_39 : decode cX10_print 39 = .ok (.iconst 0, 1) := by decide +kernel
theorem dX10_print_40 : decode cX10_print 40 = .ok (.putfield 240, 3) := by decide +kernel
theorem dX10_print_43 : decode cX10_print 43 = .ok (.iconst 0, 1) := by decide +kernel
theorem dX10_print_44 : decode cX10_print 44 = .ok (.istore_n 1, 1) := by decide +kernel
theorem dX10_print_45 : decode cX10_print 45 = .ok (.iload_n 1, 1) := by decide +kernel
theorem dX10_print_46 : decode cX10_print 46 = .ok (.sipush 1728, 3) := by decide +kernel
theorem dX10_print_49 : decode cX10_print 49 = .ok (.if_icmp .ge 16, 3) := by decide +kernel
theorem dX10_print_52 : decode cX10_print 52 = .ok (.aload_n 0, 1) := by decide +kernel
theorem dX10_print_53 : decode cX10_print 53 = .ok (.getfield 71, 3) := by decide +kernel
theorem dX10_print_56 : decode cX10_print 56 = .ok (.iload_n 1, 1) := by decide +kernel
theorem dX10_print_57 : decode cX10_print 57 = .ok (.iconst 0, 1) := by decide +kernel
theorem dX10_print_58 : decode cX10_print 58 = .ok (.iastore, 1) := by decide +kernel
theorem dX10_print_59 : decode cX10_print 59 = .ok (.iinc 1 1, 3) := by decide +kernel
theorem dX10_print_62 : decode cX10_print 62 = .ok (.goto (-17), 3) := by decide +kernel
theorem dX10_print_65 : decode cX10_print 65 = .ok (.aload_n 0, 1) := by decide +kernel
theorem dX10_print_66 : decode cX10_print 66 = .ok (.getfield 200, 3) := by decide +kernel
theorem dX10_print_69 : decode cX10_print 69 = .ok (.ireturn, 1) := by decide +kernel
theorem dX10_lengthOf_0 : decode cX10_lengthOf 0 = .ok (.aload_n 0, 1) := by decide +kernel
theorem dX10_lengthOf_1 : decode cX10_lengthOf 1 = .ok (.getfield 41, 3) := by decide +kernel
theorem dX10_lengthOf_4 : decode cX10_lengthOf 4 = .ok (.iload_n 1, 1) := by decide +kernel
theorem dX10_lengthOf_5 : decode cX10_lengthOf 5 = .ok (.iaload, 1) := by decide +kernel
theorem dX10_lengthOf_6 : decode cX10_lengthOf 6 = .ok (.aload_n 0, 1) := by decide +kernel
theorem dX10_lengthOf_7 : decode cX10_lengthOf 7 = .ok (.getfield 56, 3) := by decide +kernel
theorem dX10_lengthOf_10 : decode cX10_lengthOf 10 = .ok (.iload_n 1, 1) := by decide +kernel
theorem dX10_lengthOf_11 : decode cX10_lengthOf 11 = .ok (.iaload, 1) := by decide +kernel
theorem dX10_lengthOf_12 : decode cX10_lengthOf 12 = .ok (.isub, 1) := by decide +kernel
theorem dX10_lengthOf_13 : decode cX10_lengthOf 13 = .ok (.invokestatic 133, 3) := by decide +kernel
theorem dX10_lengthOf_16 : decode cX10_lengthOf 16 = .ok (.istore_n 2, 1) := by decide +kernel
theorem dX10_lengthOf_17 : decode cX10_lengthOf 17 = .ok (.aload_n 0, 1) := by decide +kernel
theorem dX10_lengthOf_18 : decode cX10_lengthOf 18 = .ok (.getfield 44, 3) := by decide +kernel
theorem dX10_lengthOf_21 : decode cX10_lengthOf 21 = .ok (.iload_n 1, 1) := by decide +kernel
theorem dX10_lengthOf_22 : decode cX10_lengthOf 22 = .ok (.iaload, 1) := by decide +kernel
theorem dX10_lengthOf_23 : decode cX10_lengthOf 23 = .ok (.aload_n 0, 1) := by decide +kernel
theorem dX10_lengthOf_24 : decode cX10_lengthOf 24 = .ok (.getfield 59, 3) := by decide +kernel
theorem dX10_lengthOf_27 : decode cX10_lengthOf 27 = .ok (.iload_n 1, 1) := by decide +kernel
theorem dX10_lengthOf_28 : decode cX10_lengthOf 28 = .ok (.iaload, 1) := by decide +kernel
theorem dX10_lengthOf_29 : decode cX10_lengthOf 29 = .ok (.isub, 1) := by decide +kernel
theorem dX10_lengthOf_30 : decode cX10_lengthOf 30 = .ok (.invokestatic 133, 3) := by decide +kernel
theorem dX10_lengthOf_33 : decode cX10_lengthOf 33 = .ok (.istore_n 3, 1) := by decide +kernel
theorem dX10_lengthOf_34 : decode cX10_lengthOf 34 = .ok (.bipush 10, 2) := by decide +kernel
theorem dX10_lengthOf_36 : decode cX10_lengthOf 36 = .ok (.iload_n 2, 1) := by decide +kernel
theorem dX10_lengthOf_37 : decode cX10_lengthOf 37 = .ok (.iload_n 3, 1) := by decide +kernel
theorem dX10_lengthOf_38 : decode cX10_lengthOf 38 = .ok (.if_icmp .le 7, 3) := by decide +kernel
theorem dX10_lengthOf_41 : decode cX10_lengthOf 41 = .ok (.iload_n 2, 1) := by decide +kernel
theorem dX10_lengthOf_42 : decode cX10_lengthOf 42 = .ok (.goto 4, 3) := by decide +kernel
theorem dX10_lengthOf_45 : decode cX10_lengthOf 45 = .ok (.iload_n 3, 1) := by decide +kernel
theorem dX10_lengthOf_46 : decode cX10_lengthOf 46 = .ok (.imul, 1) := by decide +kernel
theorem dX10_lengthOf_47 : decode cX10_lengthOf 47 = .ok (.ireturn, 1) := by decide +kernel
theorem dX10_greatest_0 : decode cX10_greatest 0 = .ok (.aload_n 0, 1) := by decide +kernel
theorem dX10_greatest_1 : decode cX10_greatest 1 = .ok (.getfield 37, 3) := by decide +kernel
theorem dX10_greatest_4 : decode cX10_greatest 4 = .ok (.iload_n 1, 1) := by decide +kernel
theorem dX10_greatest_5 : decode cX10_greatest 5 = .ok (.caload, 1) := by decide +kernel
theorem dX10_greatest_6 : decode cX10_greatest 6 = .ok (.bipush 103, 2) := by decide +kernel
theorem dX10_greatest_8 : decode cX10_greatest 8 = .ok (.if_icmp .ne 8, 3) := by decide +kernel
theorem dX10_greatest_11 : decode cX10_greatest 11 = .ok (.bipush 8, 2) := by decide +kernel
theorem dX10_greatest_13 : decode cX10_greatest 13 = .ok (.goto 4, 3) := by decide +kernel
theorem dX10_greatest_16 : decode cX10_greatest 16 = .ok (.iconst 4, 1) := by decide +kernel
theorem dX10_greatest_17 : decode cX10_greatest 17 = .ok (.ireturn, 1) := by decide +kernel
theorem dX10_goesOnBehind_0 : decode cX10_goesOnBehind 0 = .ok (.aload_n 0, 1) := by decide +kernel
theorem dX10_goesOnBehind_1 : decode cX10_goesOnBehind 1 = .ok (.iload_n 1, 1) := by decide +kernel
theorem dX10_goesOnBehind_2 : decode cX10_goesOnBehind 2 = .ok (.invokevirtual 250, 3) := by decide +kernel
theorem dX10_goesOnBehind_5 : decode cX10_goesOnBehind 5 = .ok (.ifCond .eq 21, 3) := by decide +kernel
theorem dX10_goesOnBehind_8 : decode cX10_goesOnBehind 8 = .ok (.aload_n 0, 1) := by decide +kernel
theorem dX10_goesOnBehind_9 : decode cX10_goesOnBehind 9 = .ok (.iload_n 1, 1) := by decide +kernel
theorem dX10_goesOnBehind_10 : decode cX10_goesOnBehind 10 = .ok (.iconst 1, 1) := by decide +kernel
theorem dX10_goesOnBehind_11 : decode cX10_goesOnBehind 11 = .ok (.iadd, 1) := by decide +kernel
theorem dX10_goesOnBehind_12 : decode cX10_goesOnBehind 12 = .ok (.invokevirtual 250, 3) := by decide +kernel
theorem dX10_goesOnBehind_15 : decode cX10_goesOnBehind 15 = .ok (.ifCond .eq 11, 3) := by decide +kernel
theorem dX10_goesOnBehind_18 : decode cX10_goesOnBehind 18 = .ok (.aload_n 0, 1) := by decide +kernel
theorem dX10_goesOnBehind_19 : decode cX10_goesOnBehind 19 = .ok (.iload_n 1, 1) := by decide +kernel
theorem dX10_goesOnBehind_20 : decode cX10_goesOnBehind 20 = .ok (.invokevirtual 259, 3) := by decide +kernel
theorem dX10_goesOnBehind_23 : decode cX10_goesOnBehind 23 = .ok (.ifCond .ne 5, 3) := by decide +kernel
theorem dX10_goesOnBehind_26 : decode cX10_goesOnBehind 26 = .ok (.iconst 0, 1) := by decide +kernel
theorem dX10_goesOnBehind_27 : decode cX10_goesOnBehind 27 = .ok (.ireturn, 1) := by decide +kernel
theorem dX10_goesOnBehind_28 : decode cX10_goesOnBehind 28 = .ok (.aload_n 0, 1) := by decide +kernel
theorem dX10_goesOnBehind_29 : decode cX10_goesOnBehind 29 = .ok (.getfield 41, 3) := by decide +kernel
theorem dX10_goesOnBehind_32 : decode cX10_goesOnBehind 32 = .ok (.iload_n 1, 1) := by decide +kernel
theorem dX10_goesOnBehind_33 : decode cX10_goesOnBehind 33 = .ok (.iaload, 1) := by decide +kernel
theorem dX10_goesOnBehind_34 : decode cX10_goesOnBehind 34 = .ok (.aload_n 0, 1) := by decide +kernel
theorem dX10_goesOnBehind_35 : decode cX10_goesOnBehind 35 = .ok (.getfield 56, 3) := by decide +kernel
theorem dX10_goesOnBehind_38 : decode cX10_goesOnBehind 38 = .ok (.iload_n 1, 1) := by decide +kernel
theorem dX10_goesOnBehind_39 : decode cX10_goesOnBehind 39 = .ok (.iaload, 1) := by decide +kernel
theorem dX10_goesOnBehind_40 : decode cX10_goesOnBehind 40 = .ok (.isub, 1) := by decide +kernel
theorem dX10_goesOnBehind_41 : decode cX10_goesOnBehind 41 = .ok (.invokestatic 262, 3) := by decide +kernel
theorem dX10_goesOnBehind_44 : decode cX10_goesOnBehind 44 = .ok (.aload_n 0, 1) := by decide +kernel
theorem dX10_goesOnBehind_45 : decode cX10_goesOnBehind 45 = .ok (.getfield 41, 3) := by decide +kernel
theorem dX10_goesOnBehind_48 : decode cX10_goesOnBehind 48 = .ok (.iload_n 1, 1) := by decide +kernel
theorem dX10_goesOnBehind_49 : decode cX10_goesOnBehind 49 = .ok (.iconst 1, 1) := by decide +kernel
theorem dX10_goesOnBehind_50 : decode cX10_goesOnBehind 50 = .ok (.iadd, 1) := by decide +kernel
theorem dX10_goesOnBehind_51 : decode cX10_goesOnBehind 51 = .ok (.iaload, 1) := by decide +kernel
theorem dX10_goesOnBehind_52 : decode cX10_goesOnBehind 52 = .ok (.aload_n 0, 1) := by decide +kernel
theorem dX10_goesOnBehind_53 : decode cX10_goesOnBehind 53 = .ok (.getfield 56, 3) := by decide +kernel
theorem dX10_goesOnBehind_56 : decode cX10_goesOnBehind 56 = .ok (.iload_n 1, 1) := by decide +kernel
theorem dX10_goesOnBehind_57 : decode cX10_goesOnBehind 57 = .ok (.iconst 1, 1) := by decide +kernel
theorem dX10_goesOnBehind_58 : decode cX10_goesOnBehind 58 = .ok (.iadd, 1) := by decide +kernel
theorem dX10_goesOnBehind_59 : decode cX10_goesOnBehind 59 = .ok (.iaload, 1) := by decide +kernel
theorem dX10_goesOnBehind_60 : decode cX10_goesOnBehind 60 = .ok (.isub, 1) := by decide +kernel
theorem dX10_goesOnBehind_61 : decode cX10_goesOnBehind 61 = .ok (.invokestatic 262, 3) := by decide +kernel
theorem dX10_goesOnBehind_64 : decode cX10_goesOnBehind 64 = .ok (.if_icmp .ne 7, 3) := by decide +kernel
theorem dX10_goesOnBehind_67 : decode cX10_goesOnBehind 67 = .ok (.iconst 1, 1) := by decide +kernel
theorem dX10_goesOnBehind_68 : decode cX10_goesOnBehind 68 = .ok (.goto 4, 3) := by decide +kernel
theorem dX10_goesOnBehind_71 : decode cX10_goesOnBehind 71 = .ok (.iconst 0, 1) := by decide +kernel
theorem dX10_goesOnBehind_72 : decode cX10_goesOnBehind 72 = .ok (.istore_n 2, 1) := by decide +kernel
theorem dX10_goesOnBehind_73 : decode cX10_goesOnBehind 73 = .ok (.iload_n 2, 1) := by decide +kernel
theorem dX10_goesOnBehind_74 : decode cX10_goesOnBehind 74 = .ok (.ifCond .eq 46, 3) := by decide +kernel
theorem dX10_goesOnBehind_77 : decode cX10_goesOnBehind 77 = .ok (.aload_n 0, 1) := by decide +kernel
theorem dX10_goesOnBehind_78 : decode cX10_goesOnBehind 78 = .ok (.getfield 44, 3) := by decide +kernel
theorem dX10_goesOnBehind_81 : decode cX10_goesOnBehind 81 = .ok (.iload_n 1, 1) := by decide +kernel
theorem dX10_goesOnBehind_82 : decode cX10_goesOnBehind 82 = .ok (.iaload, 1) := by decide +kernel
theorem dX10_goesOnBehind_83 : decode cX10_goesOnBehind 83 = .ok (.aload_n 0, 1) := by decide +kernel
theorem dX10_goesOnBehind_84 : decode cX10_goesOnBehind 84 = .ok (.getfield 59, 3) := by decide +kernel
theorem dX10_goesOnBehind_87 : decode cX10_goesOnBehind 87 = .ok (.iload_n 1, 1) := by decide +kernel
theorem dX10_goesOnBehind_88 : decode cX10_goesOnBehind 88 = .ok (.iaload, 1) := by decide +kernel
theorem dX10_goesOnBehind_89 : decode cX10_goesOnBehind 89 = .ok (.isub, 1) := by decide +kernel
theorem dX10_goesOnBehind_90 : decode cX10_goesOnBehind 90 = .ok (.invokestatic 262, 3) := by decide +kernel
theorem dX10_goesOnBehind_93 : decode cX10_goesOnBehind 93 = .ok (.aload_n 0, 1) := by decide +kernel
theorem dX10_goesOnBehind_94 : decode cX10_goesOnBehind 94 = .ok (.getfield 44, 3) := by decide +kernel
theorem dX10_goesOnBehind_97 : decode cX10_goesOnBehind 97 = .ok (.iload_n 1, 1) := by decide +kernel
theorem dX10_goesOnBehind_98 : decode cX10_goesOnBehind 98 = .ok (.iconst 1, 1) := by decide +kernel
theorem dX10_goesOnBehind_99 : decode cX10_goesOnBehind 99 = .ok (.iadd, 1) := by decide +kernel
theorem dX10_goesOnBehind_100 : decode cX10_goesOnBehind 100 = .ok (.iaload, 1) := by decide +kernel
theorem dX10_goesOnBehind_101 : decode cX10_goesOnBehind 101 = .ok (.aload_n 0, 1) := by decide +kernel
theorem dX10_goesOnBehind_102 : decode cX10_goesOnBehind 102 = .ok (.getfield 59, 3) := by decide +kernel
theorem dX10_goesOnBehind_105 : decode cX10_goesOnBehind 105 = .ok (.iload_n 1, 1) := by decide +kernel
theorem dX10_goesOnBehind_106 : decode cX10_goesOnBehind 106 = .ok (.iconst 1, 1) := by decide +kernel
theorem dX10_goesOnBehind_107 : decode cX10_goesOnBehind 107 = .ok (.iadd, 1) := by decide +kernel
theorem dX10_goesOnBehind_108 : decode cX10_goesOnBehind 108 = .ok (.iaload, 1) := by decide +kernel
theorem dX10_goesOnBehind_109 : decode cX10_goesOnBehind 109 = .ok (.isub, 1) := by decide +kernel
theorem dX10_goesOnBehind_110 : decode cX10_goesOnBehind 110 = .ok (.invokestatic 262, 3) := by decide +kernel
theorem dX10_goesOnBehind_113 : decode cX10_goesOnBehind 113 = .ok (.if_icmp .ne 7, 3) := by decide +kernel
theorem dX10_goesOnBehind_116 : decode cX10_goesOnBehind 116 = .ok (.iconst 1, 1) := by decide +kernel
theorem dX10_goesOnBehind_117 : decode cX10_goesOnBehind 117 = .ok (.goto 4, 3) := by decide +kernel
theorem dX10_goesOnBehind_120 : decode cX10_goesOnBehind 120 = .ok (.iconst 0, 1) := by decide +kernel
theorem dX10_goesOnBehind_121 : decode cX10_goesOnBehind 121 = .ok (.ireturn, 1) := by decide +kernel
theorem dX10_last_0 : decode cX10_last 0 = .ok (.aload_n 0, 1) := by decide +kernel
theorem dX10_last_1 : decode cX10_last 1 = .ok (.iload_n 1, 1) := by decide +kernel
theorem dX10_last_2 : decode cX10_last 2 = .ok (.invokevirtual 265, 3) := by decide +kernel
theorem dX10_last_5 : decode cX10_last 5 = .ok (.ifCond .eq 13, 3) := by decide +kernel
theorem dX10_last_8 : decode cX10_last 8 = .ok (.aload_n 0, 1) := by decide +kernel
theorem dX10_last_9 : decode cX10_last 9 = .ok (.iload_n 1, 1) := by decide +kernel
theorem dX10_last_10 : decode cX10_last 10 = .ok (.iconst 1, 1) := by decide +kernel
theorem dX10_last_11 : decode cX10_last 11 = .ok (.iadd, 1) := by decide +kernel
theorem dX10_last_12 : decode cX10_last 12 = .ok (.invokevirtual 268, 3) := by decide +kernel
theorem dX10_last_15 : decode cX10_last 15 = .ok (.goto 4, 3) := by decide +kernel
theorem dX10_last_18 : decode cX10_last 18 = .ok (.iconst 1, 1) := by decide +kernel
theorem dX10_last_19 : decode cX10_last 19 = .ok (.istore_n 2, 1) := by decide +kernel
theorem dX10_last_20 : decode cX10_last 20 = .ok (.iload_n 2, 1) := by decide +kernel
theorem dX10_last_21 : decode cX10_last 21 = .ok (.aload_n 0, 1) := by decide +kernel
theorem dX10_last_22 : decode cX10_last 22 = .ok (.iload_n 1, 1) := by decide +kernel
theorem dX10_last_23 : decode cX10_last 23 = .ok (.invokevirtual 268, 3) := by decide +kernel
theorem dX10_last_26 : decode cX10_last 26 = .ok (.if_icmp .ge 7, 3) := by decide +kernel
theorem dX10_last_29 : decode cX10_last 29 = .ok (.iload_n 2, 1) := by decide +kernel
theorem dX10_last_30 : decode cX10_last 30 = .ok (.goto 8, 3) := by decide +kernel
theorem dX10_last_33 : decode cX10_last 33 = .ok (.aload_n 0, 1) := by decide +kernel
theorem dX10_last_34 : decode cX10_last 34 = .ok (.iload_n 1, 1) := by decide +kernel
theorem dX10_last_35 : decode cX10_last 35 = .ok (.invokevirtual 268, 3) := by decide +kernel
theorem dX10_last_38 : decode cX10_last 38 = .ok (.ireturn, 1) := by decide +kernel
theorem dX10_nextSpeed_0 : decode cX10_nextSpeed 0 = .ok (.aload_n 0, 1) := by decide +kernel
theorem dX10_nextSpeed_1 : decode cX10_nextSpeed 1 = .ok (.iload_n 1, 1) := by decide +kernel
theorem dX10_nextSpeed_2 : decode cX10_nextSpeed 2 = .ok (.invokevirtual 259, 3) := by decide +kernel
theorem dX10_nextSpeed_5 : decode cX10_nextSpeed 5 = .ok (.aload_n 0, 1) := by decide +kernel
theorem dX10_nextSpeed_6 : decode cX10_nextSpeed 6 = .ok (.getfield 247, 3) := by decide +kernel
theorem dX10_nextSpeed_9 : decode cX10_nextSpeed 9 = .ok (.isub, 1) := by decide +kernel
theorem dX10_nextSpeed_10 : decode cX10_nextSpeed 10 = .ok (.istore_n 2, 1) := by decide +kernel
theorem dX10_nextSpeed_11 : decode cX10_nextSpeed 11 = .ok (.aload_n 0, 1) := by decide +kernel
theorem dX10_nextSpeed_12 : decode cX10_nextSpeed 12 = .ok (.iload_n 1, 1) := by decide +kernel
theorem dX10_nextSpeed_13 : decode cX10_nextSpeed 13 = .ok (.invokevirtual 271, 3) := by decide +kernel
theorem dX10_nextSpeed_16 : decode cX10_nextSpeed 16 = .ok (.istore_n 3, 1) := by decide +kernel
theorem dX10_nextSpeed_17 : decode cX10_nextSpeed 17 = .ok (.iconst 1, 1) := by decide +kernel
theorem dX10_nextSpeed_18 : decode cX10_nextSpeed 18 = .ok (.istore 4, 2) := by decide +kernel
theorem dX10_nextSpeed_20 : decode cX10_nextSpeed 20 = .ok (.iconst 0, 1) := by decide +kernel
theorem dX10_nextSpeed_21 : decode cX10_nextSpeed 21 = .ok (.istore 5, 2) := by decide +kernel
theorem dX10_nextSpeed_23 : decode cX10_nextSpeed 23 = .ok (.iconst 1, 1) := by decide +kernel
theorem dX10_nextSpeed_24 : decode cX10_nextSpeed 24 = .ok (.istore 6, 2) := by decide +kernel
theorem dX10_nextSpeed_26 : decode cX10_nextSpeed 26 = .ok (.iload 6, 2) := by decide +kernel
theorem dX10_nextSpeed_28 : decode cX10_nextSpeed 28 = .ok (.aload_n 0, 1) := by decide +kernel
theorem dX10_nextSpeed_29 : decode cX10_nextSpeed 29 = .ok (.getfield 244, 3) := by decide +kernel
theorem dX10_nextSpeed_32 : decode cX10_nextSpeed 32 = .ok (.iconst 1, 1) := by decide +kernel
theorem dX10_nextSpeed_33 : decode cX10_nextSpeed 33 = .ok (.iadd, 1) := by decide +kernel
theorem dX10_nextSpeed_34 : decode cX10_nextSpeed 34 = .ok (.if_icmp .gt 70, 3) := by decide +kernel
theorem dX10_nextSpeed_37 : decode cX10_nextSpeed 37 = .ok (.iload 6, 2) := by decide +kernel
theorem dX10_nextSpeed_39 : decode cX10_nextSpeed 39 = .ok (.aload_n 0, 1) := by decide +kernel
theorem dX10_nextSpeed_40 : decode cX10_nextSpeed 40 = .ok (.iload_n 1, 1) := by decide +kernel
theorem dX10_nextSpeed_41 : decode cX10_nextSpeed 41 = .ok (.invokevirtual 268, 3) := by decide +kernel
theorem dX10_nextSpeed_44 : decode cX10_nextSpeed 44 = .ok (.if_icmp .gt 60, 3) := by decide +kernel
theorem dX10_nextSpeed_47 : decode cX10_nextSpeed 47 = .ok (.iload 6, 2) := by decide +kernel
theorem dX10_nextSpeed_49 : decode cX10_nextSpeed 49 = .ok (.iload_n 2, 1) := by decide +kernel
theorem dX10_nextSpeed_50 : decode cX10_nextSpeed 50 = .ok (.if_icmp .gt 54, 3) := by decide +kernel
theorem dX10_nextSpeed_53 : decode cX10_nextSpeed 53 = .ok (.iload 5, 2) := by decide +kernel
theorem dX10_nextSpeed_55 : decode cX10_nextSpeed 55 = .ok (.iload 6, 2) := by decide +kernel
theorem dX10_nextSpeed_57 : decode cX10_nextSpeed 57 = .ok (.iconst 1, 1) := by decide +kernel
theorem dX10_nextSpeed_58 : decode cX10_nextSpeed 58 = .ok (.isub, 1) := by decide +kernel
theorem dX10_nextSpeed_59 : decode cX10_nextSpeed 59 = .ok (.iload_n 3, 1) := by decide +kernel
theorem dX10_nextSpeed_60 : decode cX10_nextSpeed 60 = .ok (.if_icmp .lt 10, 3) := by decide +kernel
theorem dX10_nextSpeed_63 : decode cX10_nextSpeed 63 = .ok (.iload 6, 2) := by decide +kernel
theorem dX10_nextSpeed_65 : decode cX10_nextSpeed 65 = .ok (.iconst 1, 1) := by decide +kernel
theorem dX10_nextSpeed_66 : decode cX10_nextSpeed 66 = .ok (.isub, 1) := by decide +kernel
theorem dX10_nextSpeed_67 : decode cX10_nextSpeed 67 = .ok (.goto 4, 3) := by decide +kernel
theorem dX10_nextSpeed_70 : decode cX10_nextSpeed 70 = .ok (.iconst 0, 1) := by decide +kernel
theorem dX10_nextSpeed_71 : decode cX10_nextSpeed 71 = .ok (.iadd, 1) := by decide +kernel
theorem dX10_nextSpeed_72 : decode cX10_nextSpeed 72 = .ok (.istore 5, 2) := by decide +kernel
theorem dX10_nextSpeed_74 : decode cX10_nextSpeed 74 = .ok (.iload 6, 2) := by decide +kernel
theorem dX10_nextSpeed_76 : decode cX10_nextSpeed 76 = .ok (.iload_n 3, 1) := by decide +kernel
theorem dX10_nextSpeed_77 : decode cX10_nextSpeed 77 = .ok (.if_icmp .le 12, 3) := by decide +kernel
theorem dX10_nextSpeed_80 : decode cX10_nextSpeed 80 = .ok (.iload_n 2, 1) := by decide +kernel
theorem dX10_nextSpeed_81 : decode cX10_nextSpeed 81 = .ok (.iload 6, 2) := by decide +kernel
theorem dX10_nextSpeed_83 : decode cX10_nextSpeed 83 = .ok (.isub, 1) := by decide +kernel
theorem dX10_nextSpeed_84 : decode cX10_nextSpeed 84 = .ok (.iload 5, 2) := by decide +kernel
theorem dX10_nextSpeed_86 : decode cX10_nextSpeed 86 = .ok (.if_icmp .lt 8, 3) := by decide +kernel
theorem dX10_nextSpeed_89 : decode cX10_nextSpeed 89 = .ok (.iload 6, 2) := by decide +kernel
theorem dX10_nextSpeed_91 : decode cX10_nextSpeed 91 = .ok (.goto 5, 3) := by decide +kernel
theorem dX10_nextSpeed_94 : decode cX10_nextSpeed 94 = .ok (.iload 4, 2) := by decide +kernel
theorem dX10_nextSpeed_96 : decode cX10_nextSpeed 96 = .ok (.istore 4, 2) := by decide +kernel
theorem dX10_nextSpeed_98 : decode cX10_nextSpeed 98 = .ok (.iinc 6 1, 3) := by decide +kernel
theorem dX10_nextSpeed_101 : decode cX10_nextSpeed 101 = .ok (.goto (-75), 3) := by decide +kernel
theorem dX10_nextSpeed_104 : decode cX10_nextSpeed 104 = .ok (.iload 4, 2) := by decide +kernel
theorem dX10_nextSpeed_106 : decode cX10_nextSpeed 106 = .ok (.ireturn, 1) := by decide +kernel
theorem dX10_lays_0 : decode cX10_lays 0 = .ok (.aload_n 0, 1) := by decide +kernel
theorem dX10_lays_1 : decode cX10_lays 1 = .ok (.getfield 56, 3) := by decide +kernel
theorem dX10_lays_4 : decode cX10_lays 4 = .ok (.iload_n 1, 1) := by decide +kernel
theorem dX10_lays_5 : decode cX10_lays 5 = .ok (.iaload, 1) := by decide +kernel
theorem dX10_lays_6 : decode cX10_lays 6 = .ok (.istore_n 2, 1) := by decide +kernel
theorem dX10_lays_7 : decode cX10_lays 7 = .ok (.aload_n 0, 1) := by decide +kernel
theorem dX10_lays_8 : decode cX10_lays 8 = .ok (.getfield 59, 3) := by decide +kernel
theorem dX10_lays_11 : decode cX10_lays 11 = .ok (.iload_n 1, 1) := by decide +kernel
theorem dX10_lays_12 : decode cX10_lays 12 = .ok (.iaload, 1) := by decide +kernel
theorem dX10_lays_13 : decode cX10_lays 13 = .ok (.istore_n 3, 1) := by decide +kernel
theorem dX10_lays_14 : decode cX10_lays 14 = .ok (.iconst 1, 1) := by decide +kernel
theorem dX10_lays_15 : decode cX10_lays 15 = .ok (.istore 4, 2) := by decide +kernel
theorem dX10_lays_17 : decode cX10_lays 17 = .ok (.iload 4, 2) := by decide +kernel
theorem dX10_lays_19 : decode cX10_lays 19 = .ok (.ifCond .eq 89, 3) := by decide +kernel
theorem dX10_lays_22 : decode cX10_lays 22 = .ok (.aload_n 0, 1) := by decide +kernel
theorem dX10_lays_23 : decode cX10_lays 23 = .ok (.getfield 71, 3) := by decide +kernel
theorem dX10_lays_26 : decode cX10_lays 26 = .ok (.iload_n 2, 1) := by decide +kernel
theorem dX10_lays_27 : decode cX10_lays 27 = .ok (.iload_n 3, 1) := by decide +kernel
theorem dX10_lays_28 : decode cX10_lays 28 = .ok (.aload_n 0, 1) := by decide +kernel
theorem dX10_lays_29 : decode cX10_lays 29 = .ok (.getfield 50, 3) := by decide +kernel
theorem dX10_lays_32 : decode cX10_lays 32 = .ok (.iload_n 1, 1) := by decide +kernel
theorem dX10_lays_33 : decode cX10_lays 33 = .ok (.iaload, 1) := by decide +kernel
theorem dX10_lays_34 : decode cX10_lays 34 = .ok (.invokestatic 108, 3) := by decide +kernel
theorem dX10_lays_37 : decode cX10_lays 37 = .ok (.dup2, 1) := by decide +kernel
theorem dX10_lays_38 : decode cX10_lays 38 = .ok (.iaload, 1) := by decide +kernel
theorem dX10_lays_39 : decode cX10_lays 39 = .ok (.bipush 10, 2) := by decide +kernel
theorem dX10_lays_41 : decode cX10_lays 41 = .ok (.aload_n 0, 1) := by decide +kernel
theorem dX10_lays_42 : decode cX10_lays 42 = .ok (.getfield 53, 3) := by decide +kernel
theorem dX10_lays_45 : decode cX10_lays 45 = .ok (.iload_n 1, 1) := by decide +kernel
theorem dX10_lays_46 : decode cX10_lays 46 = .ok (.iaload, 1) := by decide +kernel
theorem dX10_lays_47 : decode cX10_lays 47 = .ok (.imul, 1) := by decide +kernel
theorem dX10_lays_48 : decode cX10_lays 48 = .ok (.iadd, 1) := by decide +kernel
theorem dX10_lays_49 : decode cX10_lays 49 = .ok (.iastore, 1) := by decide +kernel
theorem dX10_lays_50 : decode cX10_lays 50 = .ok (.iload_n 2, 1) := by decide +kernel
theorem dX10_lays_51 : decode cX10_lays 51 = .ok (.aload_n 0, 1) := by decide +kernel
theorem dX10_lays_52 : decode cX10_lays 52 = .ok (.getfield 41, 3) := by decide +kernel
theorem dX10_lays_55 : decode cX10_lays 55 = .ok (.iload_n 1, 1) := by decide +kernel
theorem dX10_lays_56 : decode cX10_lays 56 = .ok (.iaload, 1) := by decide +kernel
theorem dX10_lays_57 : decode cX10_lays 57 = .ok (.if_icmp .ne 13, 3) := by decide +kernel
theorem dX10_lays_60 : decode cX10_lays 60 = .ok (.iload_n 3, 1) := by decide +kernel
theorem dX10_lays_61 : decode cX10_lays 61 = .ok (.aload_n 0, 1) := by decide +kernel
theorem dX10_lays_62 : decode cX10_lays 62 = .ok (.getfield 44, 3) := by decide +kernel
theorem dX10_lays_65 : decode cX10_lays 65 = .ok (.iload_n 1, 1) := by decide +kernel
theorem dX10_lays_66 : decode cX10_lays 66 = .ok (.iaload, 1) := by decide +kernel
theorem dX10_lays_67 : decode cX10_lays 67 = .ok (.if_icmp .eq 7, 3) := by decide +kernel
theorem dX10_lays_70 : decode cX10_lays 70 = .ok (.iconst 1, 1) := by decide +kernel
theorem dX10_lays_71 : decode cX10_lays 71 = .ok (.goto 4, 3) := by decide +kernel
theorem dX10_lays_74 : decode cX10_lays 74 = .ok (.iconst 0, 1) := by decide +kernel
theorem dX10_lays_75 : decode cX10_lays 75 = .ok (.istore 4, 2) := by decide +kernel
theorem dX10_lays_77 : decode cX10_lays 77 = .ok (.iload_n 2, 1) := by decide +kernel
theorem dX10_lays_78 : decode cX10_lays 78 = .ok (.aload_n 0, 1) := by decide +kernel
theorem dX10_lays_79 : decode cX10_lays 79 = .ok (.getfield 41, 3) := by decide +kernel
theorem dX10_lays_82 : decode cX10_lays 82 = .ok (.iload_n 1, 1) := by decide +kernel
theorem dX10_lays_83 : decode cX10_lays 83 = .ok (.iaload, 1) := by decide +kernel
theorem dX10_lays_84 : decode cX10_lays 84 = .ok (.iload_n 2, 1) := by decide +kernel
theorem dX10_lays_85 : decode cX10_lays 85 = .ok (.isub, 1) := by decide +kernel
theorem dX10_lays_86 : decode cX10_lays 86 = .ok (.invokestatic 262, 3) := by decide +kernel
theorem dX10_lays_89 : decode cX10_lays 89 = .ok (.iadd, 1) := by decide +kernel
theorem dX10_lays_90 : decode cX10_lays 90 = .ok (.istore_n 2, 1) := by decide +kernel
theorem dX10_lays_91 : decode cX10_lays 91 = .ok (.iload_n 3, 1) := by decide +kernel
theorem dX10_lays_92 : decode cX10_lays 92 = .ok (.aload_n 0, 1) := by decide +kernel
theorem dX10_lays_93 : decode cX10_lays 93 = .ok (.getfield 44, 3) := by decide +kernel
theorem dX10_lays_96 : decode cX10_lays 96 = .ok (.iload_n 1, 1) := by decide +kernel
theorem dX10_lays_97 : decode cX10_lays 97 = .ok (.iaload, 1) := by decide +kernel
theorem dX10_lays_98 : decode cX10_lays 98 = .ok (.iload_n 3, 1) := by decide +kernel
theorem dX10_lays_99 : decode cX10_lays 99 = .ok (.isub, 1) := by decide +kernel
theorem dX10_lays_100 : decode cX10_lays 100 = .ok (.invokestatic 262, 3) := by decide +kernel
theorem dX10_lays_103 : decode cX10_lays 103 = .ok (.iadd, 1) := by decide +kernel
theorem dX10_lays_104 : decode cX10_lays 104 = .ok (.istore_n 3, 1) := by decide +kernel
theorem dX10_lays_105 : decode cX10_lays 105 = .ok (.goto (-88), 3) := by decide +kernel
theorem dX10_lays_108 : decode cX10_lays 108 = .ok (.return_, 1) := by decide +kernel
theorem dX10_isOver_0 : decode cX10_isOver 0 = .ok (.aload_n 0, 1) := by decide +kernel
theorem dX10_isOver_1 : decode cX10_isOver 1 = .ok (.getfield 37, 3) := by decide +kernel
theorem dX10_isOver_4 : decode cX10_isOver 4 = .ok (.iload_n 1, 1) := by decide +kernel
theorem dX10_isOver_5 : decode cX10_isOver 5 = .ok (.caload, 1) := by decide +kernel
theorem dX10_isOver_6 : decode cX10_isOver 6 = .ok (.bipush 100, 2) := by decide +kernel
theorem dX10_isOver_8 : decode cX10_isOver 8 = .ok (.if_icmp .ne 8, 3) := by decide +kernel
theorem dX10_isOver_11 : decode cX10_isOver 11 = .ok (.aload_n 0, 1) := by decide +kernel
theorem dX10_isOver_12 : decode cX10_isOver 12 = .ok (.iload_n 1, 1) := by decide +kernel
theorem dX10_isOver_13 : decode cX10_isOver 13 = .ok (.invokevirtual 274, 3) := by decide +kernel
theorem dX10_isOver_16 : decode cX10_isOver 16 = .ok (.aload_n 0, 1) := by decide +kernel
theorem dX10_isOver_17 : decode cX10_isOver 17 = .ok (.aload_n 0, 1) := by decide +kernel
theorem dX10_isOver_18 : decode cX10_isOver 18 = .ok (.getfield 37, 3) := by decide +kernel
theorem dX10_isOver_21 : decode cX10_isOver 21 = .ok (.iload_n 1, 1) := by decide +kernel
theorem dX10_isOver_22 : decode cX10_isOver 22 = .ok (.caload, 1) := by decide +kernel
theorem dX10_isOver_23 : decode cX10_isOver 23 = .ok (.bipush 122, 2) := by decide +kernel
theorem dX10_isOver_25 : decode cX10_isOver 25 = .ok (.if_icmp .ne 7, 3) := by decide +kernel
theorem dX10_isOver_28 : decode cX10_isOver 28 = .ok (.iload_n 1, 1) := by decide +kernel
theorem dX10_isOver_29 : decode cX10_isOver 29 = .ok (.goto 7, 3) := by decide +kernel
theorem dX10_isOver_32 : decode cX10_isOver 32 = .ok (.aload_n 0, 1) := by decide +kernel
theorem dX10_isOver_33 : decode cX10_isOver 33 = .ok (.getfield 65, 3) := by decide +kernel
theorem dX10_isOver_36 : decode cX10_isOver 36 = .ok (.putfield 65, 3) := by decide +kernel
theorem dX10_isOver_39 : decode cX10_isOver 39 = .ok (.aload_n 0, 1) := by decide +kernel
theorem dX10_isOver_40 : decode cX10_isOver 40 = .ok (.iload_n 1, 1) := by decide +kernel
theorem dX10_isOver_41 : decode cX10_isOver 41 = .ok (.invokevirtual 265, 3) := by decide +kernel
theorem dX10_isOver_44 : decode cX10_isOver 44 = .ok (.istore_n 2, 1) := by decide +kernel
theorem dX10_isOver_45 : decode cX10_isOver 45 = .ok (.aload_n 0, 1) := by decide +kernel
theorem dX10_isOver_46 : decode cX10_isOver 46 = .ok (.iload_n 2, 1) := by decide +kernel
theorem dX10_isOver_47 : decode cX10_isOver 47 = .ok (.ifCond .ne 7, 3) := by decide +kernel
theorem dX10_isOver_50 : decode cX10_isOver 50 = .ok (.iconst 0, 1) := by decide +kernel
theorem dX10_isOver_51 : decode cX10_isOver 51 = .ok (.goto 31, 3) := by decide +kernel
theorem dX10_isOver_54 : decode cX10_isOver 54 = .ok (.aload_n 0, 1) := by decide +kernel
theorem dX10_isOver_55 : decode cX10_isOver 55 = .ok (.getfield 244, 3) := by decide +kernel
theorem dX10_isOver_58 : decode cX10_isOver 58 = .ok (.aload_n 0, 1) := by decide +kernel
theorem dX10_isOver_59 : decode cX10_isOver 59 = .ok (.iload_n 1, 1) := by decide +kernel
theorem dX10_isOver_60 : decode cX10_isOver 60 = .ok (.iconst 1, 1) := by decide +kernel
theorem dX10_isOver_61 : decode cX10_isOver 61 = .ok (.iadd, 1) := by decide +kernel
theorem dX10_isOver_62 : decode cX10_isOver 62 = .ok (.invokevirtual 268, 3) := by decide +kernel
theorem dX10_isOver_65 : decode cX10_isOver 65 = .ok (.if_icmp .le 13, 3) := by decide +kernel
theorem dX10_isOver_68 : decode cX10_isOver 68 = .ok (.aload_n 0, 1) := by decide +kernel
theorem dX10_isOver_69 : decode cX10_isOver 69 = .ok (.iload_n 1, 1) := by decide +kernel
theorem dX10_isOver_70 : decode cX10_isOver 70 = .ok (.iconst 1, 1) := by decide +kernel
theorem dX10_isOver_71 : decode cX10_isOver 71 = .ok (.iadd, 1) := by decide +kernel
theorem dX10_isOver_72 : decode cX10_isOver 72 = .ok (.invokevirtual 268, 3) := by decide +kernel
theorem dX10_isOver_75 : decode cX10_isOver 75 = .ok (.goto 7, 3) := by decide +kernel
theorem dX10_isOver_78 : decode cX10_isOver 78 = .ok (.aload_n 0, 1) := by decide +kernel
theorem dX10_isOver_79 : decode cX10_isOver 79 = .ok (.getfield 244, 3) := by decide +kernel
theorem dX10_isOver_82 : decode cX10_isOver 82 = .ok (.putfield 244, 3) := by decide +kernel
theorem dX10_isOver_85 : decode cX10_isOver 85 = .ok (.aload_n 0, 1) := by decide +kernel
theorem dX10_isOver_86 : decode cX10_isOver 86 = .ok (.iconst 0, 1) := by decide +kernel
theorem dX10_isOver_87 : decode cX10_isOver 87 = .ok (.putfield 247, 3) := by decide +kernel
theorem dX10_isOver_90 : decode cX10_isOver 90 = .ok (.aload_n 0, 1) := by decide +kernel
theorem dX10_isOver_91 : decode cX10_isOver 91 = .ok (.dup, 1) := by decide +kernel
theorem dX10_isOver_92 : decode cX10_isOver 92 = .ok (.getfield 237, 3) := by decide +kernel
theorem dX10_isOver_95 : decode cX10_isOver 95 = .ok (.iconst 1, 1) := by decide +kernel
theorem dX10_isOver_96 : decode cX10_isOver 96 = .ok (.iadd, 1) := by decide +kernel
theorem dX10_isOver_97 : decode cX10_isOver 97 = .ok (.putfield 237, 3) := by decide +kernel
theorem dX10_isOver_100 : decode cX10_isOver 100 = .ok (.aload_n 0, 1) := by decide +kernel
theorem dX10_isOver_101 : decode cX10_isOver 101 = .ok (.aload_n 0, 1) := by decide +kernel
theorem dX10_isOver_102 : decode cX10_isOver 102 = .ok (.getfield 237, 3) := by decide +kernel
theorem dX10_isOver_105 : decode cX10_isOver 105 = .ok (.aload_n 0, 1) := by decide +kernel
theorem dX10_isOver_106 : decode cX10_isOver 106 = .ok (.getfield 200, 3) := by decide +kernel
theorem dX10_isOver_109 : decode cX10_isOver 109 = .ok (.if_icmp .ne 8, 3) := by decide +kernel
theorem dX10_isOver_112 : decode cX10_isOver 112 = .ok (.bipush 100, 2) := by decide +kernel
theorem dX10_isOver_114 : decode cX10_isOver 114 = .ok (.goto 21, 3) := by decide +kernel
theorem dX10_isOver_117 : decode cX10_isOver 117 = .ok (.aload_n 0, 1) := by decide +kernel
theorem dX10_isOver_118 : decode cX10_isOver 118 = .ok (.getfield 37, 3) := by decide +kernel
theorem dX10_isOver_121 : decode cX10_isOver 121 = .ok (.iload_n 1, 1) := by decide +kernel
theorem dX10_isOver_122 : decode cX10_isOver 122 = .ok (.caload, 1) := by decide +kernel
theorem dX10_isOver_123 : decode cX10_isOver 123 = .ok (.bipush 112, 2) := by decide +kernel
theorem dX10_isOver_125 : decode cX10_isOver 125 = .ok (.if_icmp .ne 8, 3) := by decide +kernel
theorem dX10_isOver_128 : decode cX10_isOver 128 = .ok (.bipush 112, 2) := by decide +kernel
theorem dX10_isOver_130 : decode cX10_isOver 130 = .ok (.goto 5, 3) := by decide +kernel
theorem dX10_isOver_133 : decode cX10_isOver 133 = .ok (.bipush 114, 2) := by decide +kernel
theorem dX10_isOver_135 : decode cX10_isOver 135 = .ok (.putfield 62, 3) := by decide +kernel
theorem dX10_isOver_138 : decode cX10_isOver 138 = .ok (.return_, 1) := by decide +kernel
theorem dX10_heats_0 : decode cX10_heats 0 = .ok (.aload_n 0, 1) := by decide +kernel
theorem dX10_heats_1 : decode cX10_heats 1 = .ok (.aload_n 0, 1) := by decide +kernel
theorem dX10_heats_2 : decode cX10_heats 2 = .ok (.getfield 68, 3) := by decide +kernel
theorem dX10_heats_5 : decode cX10_heats 5 = .ok (.aload_n 0, 1) := by decide +kernel
theorem dX10_heats_6 : decode cX10_heats 6 = .ok (.getfield 253, 3) := by decide +kernel
theorem dX10_heats_9 : decode cX10_heats 9 = .ok (.iconst 2, 1) := by decide +kernel
theorem dX10_heats_10 : decode cX10_heats 10 = .ok (.isub, 1) := by decide +kernel
theorem dX10_heats_11 : decode cX10_heats 11 = .ok (.if_icmp .lt 23, 3) := by decide +kernel
theorem dX10_heats_14 : decode cX10_heats 14 = .ok (.aload_n 0, 1) := by decide +kernel
theorem dX10_heats_15 : decode cX10_heats 15 = .ok (.getfield 277, 3) := by decide +kernel
theorem dX10_heats_18 : decode cX10_heats 18 = .ok (.ifCond .eq 20, 3) := by decide +kernel
theorem dX10_heats_21 : decode cX10_heats 21 = .ok (.aload_n 0, 1) := by decide +kernel
theorem dX10_heats_22 : decode cX10_heats 22 = .ok (.getfield 68, 3) := by decide +kernel
theorem dX10_heats_25 : decode cX10_heats 25 = .ok (.aload_n 0, 1) := by decide +kernel
theorem dX10_heats_26 : decode cX10_heats 26 = .ok (.getfield 253, 3) := by decide +kernel
theorem dX10_heats_29 : decode cX10_heats 29 = .ok (.iconst 2, 1) := by decide +kernel
theorem dX10_heats_30 : decode cX10_heats 30 = .ok (.iadd, 1) := by decide +kernel
theorem dX10_heats_31 : decode cX10_heats 31 = .ok (.if_icmp .gt 7, 3) := by decide +kernel
theorem dX10_heats_34 : decode cX10_heats 34 = .ok (.iconst 1, 1) := by decide +kernel
theorem dX10_heats_35 : decode cX10_heats 35 = .ok (.goto 4, 3) := by decide +kernel
theorem dX10_heats_38 : decode cX10_heats 38 = .ok (.iconst 0, 1) := by decide +kernel
theorem dX10_heats_39 : decode cX10_heats 39 = .ok (.putfield 277, 3) := by decide +kernel
theorem dX10_heats_42 : decode cX10_heats 42 = .ok (.aload_n 0, 1) := by decide +kernel
theorem dX10_heats_43 : decode cX10_heats 43 = .ok (.aload_n 0, 1) := by decide +kernel
theorem dX10_heats_44 : decode cX10_heats 44 = .ok (.getfield 277, 3) := by decide +kernel
theorem dX10_heats_47 : decode cX10_heats 47 = .ok (.ifCond .eq 12, 3) := by decide +kernel
theorem dX10_heats_50 : decode cX10_heats 50 = .ok (.aload_n 0, 1) := by decide +kernel
theorem dX10_heats_51 : decode cX10_heats 51 = .ok (.getfield 68, 3) := by decide +kernel
theorem dX10_heats_54 : decode cX10_heats 54 = .ok (.iconst 3, 1) := by decide +kernel
theorem dX10_heats_55 : decode cX10_heats 55 = .ok (.iadd, 1) := by decide +kernel
theorem dX10_heats_56 : decode cX10_heats 56 = .ok (.goto 23, 3) := by decide +kernel
theorem dX10_heats_59 : decode cX10_heats 59 = .ok (.aload_n 0, 1) := by decide +kernel
theorem dX10_heats_60 : decode cX10_heats 60 = .ok (.getfield 68, 3) := by decide +kernel
theorem dX10_heats_63 : decode cX10_heats 63 = .ok (.bipush 20, 2) := by decide +kernel
theorem dX10_heats_65 : decode cX10_heats 65 = .ok (.if_icmp .le 12, 3) := by decide +kernel
theorem dX10_heats_68 : decode cX10_heats 68 = .ok (.aload_n 0, 1) := by decide +kernel
theorem dX10_heats_69 : decode cX10_heats 69 = .ok (.getfield 68, 3) := by decide +kernel
theorem dX10_heats_72 : decode cX10_heats 72 = .ok (.iconst 1, 1) := by decide +kernel
theorem dX10_heats_73 : decode cX10_heats 73 = .ok (.isub, 1) := by decide +kernel
theorem dX10_heats_74 : decode cX10_heats 74 = .ok (.goto 5, 3) := by decide +kernel
theorem dX10_heats_77 : decode cX10_heats 77 = .ok (.bipush 20, 2) := by decide +kernel
theorem dX10_heats_79 : decode cX10_heats 79 = .ok (.putfield 68, 3) := by decide +kernel
theorem dX10_heats_82 : decode cX10_heats 82 = .ok (.return_, 1) := by decide +kernel
theorem dX10_isHot_0 : decode cX10_isHot 0 = .ok (.aload_n 0, 1) := by decide +kernel
theorem dX10_isHot_1 : decode cX10_isHot 1 = .ok (.getfield 253, 3) := by decide +kernel
theorem dX10_isHot_4 : decode cX10_isHot 4 = .ok (.sipush 150, 3) := by decide +kernel
theorem dX10_isHot_7 : decode cX10_isHot 7 = .ok (.if_icmp .lt 21, 3) := by decide +kernel
theorem dX10_isHot_10 : decode cX10_isHot 10 = .ok (.aload_n 0, 1) := by decide +kernel
theorem dX10_isHot_11 : decode cX10_isHot 11 = .ok (.getfield 68, 3) := by decide +kernel
theorem dX10_isHot_14 : decode cX10_isHot 14 = .ok (.aload_n 0, 1) := by decide +kernel
theorem dX10_isHot_15 : decode cX10_isHot 15 = .ok (.getfield 253, 3) := by decide +kernel
theorem dX10_isHot_18 : decode cX10_isHot 18 = .ok (.bipush 10, 2) := by decide +kernel
theorem dX10_isHot_20 : decode cX10_isHot 20 = .ok (.isub, 1) := by decide +kernel
theorem dX10_isHot_21 : decode cX10_isHot 21 = .ok (.if_icmp .lt 7, 3) := by decide +kernel
theorem dX10_isHot_24 : decode cX10_isHot 24 = .ok (.iconst 1, 1) := by decide +kernel
theorem dX10_isHot_25 : decode cX10_isHot 25 = .ok (.goto 4, 3) := by decide +kernel
theorem dX10_isHot_28 : decode cX10_isHot 28 = .ok (.iconst 0, 1) := by decide +kernel
theorem dX10_isHot_29 : decode cX10_isHot 29 = .ok (.ireturn, 1) := by decide +kernel
theorem dX10_works_0 : decode cX10_works 0 = .ok (.aload_n 0, 1) := by decide +kernel
theorem dX10_works_1 : decode cX10_works 1 = .ok (.getfield 237, 3) := by decide +kernel
theorem dX10_works_4 : decode cX10_works 4 = .ok (.istore_n 1, 1) := by decide +kernel
theorem dX10_works_5 : decode cX10_works 5 = .ok (.aload_n 0, 1) := by decide +kernel
theorem dX10_works_6 : decode cX10_works 6 = .ok (.aload_n 0, 1) := by decide +kernel
theorem dX10_works_7 : decode cX10_works 7 = .ok (.getfield 37, 3) := by decide +kernel
theorem dX10_works_10 : decode cX10_works 10 = .ok (.iload_n 1, 1) := by decide +kernel
theorem dX10_works_11 : decode cX10_works 11 = .ok (.caload, 1) := by decide +kernel
theorem dX10_works_12 : decode cX10_works 12 = .ok (.bipush 100, 2) := by decide +kernel
theorem dX10_works_14 : decode cX10_works 14 = .ok (.if_icmp .ne 15, 3) := by decide +kernel
theorem dX10_works_17 : decode cX10_works 17 = .ok (.aload_n 0, 1) := by decide +kernel
theorem dX10_works_18 : decode cX10_works 18 = .ok (.invokevirtual 280, 3) := by decide +kernel
theorem dX10_works_21 : decode cX10_works 21 = .ok (.ifCond .ne 8, 3) := by decide +kernel
theorem dX10_works_24 : decode cX10_works 24 = .ok (.bipush 119, 2) := by decide +kernel
theorem dX10_works_26 : decode cX10_works 26 = .ok (.goto 5, 3) := by decide +kernel
theorem dX10_works_29 : decode cX10_works 29 = .ok (.bipush 114, 2) := by decide +kernel
theorem dX10_works_31 : decode cX10_works 31 = .ok (.putfield 62, 3) := by decide +kernel
theorem dX10_works_34 : decode cX10_works 34 = .ok (.aload_n 0, 1) := by decide +kernel
theorem dX10_works_35 : decode cX10_works 35 = .ok (.getfield 62, 3) := by decide +kernel
theorem dX10_works_38 : decode cX10_works 38 = .ok (.bipush 119, 2) := by decide +kernel
theorem dX10_works_40 : decode cX10_works 40 = .ok (.if_icmp .ne 10, 3) := by decide +kernel
theorem dX10_works_43 : decode cX10_works 43 = .ok (.aload_n 0, 1) := by decide +kernel
theorem dX10_works_44 : decode cX10_works 44 = .ok (.iconst 0, 1) := by decide +kernel
theorem dX10_works_45 : decode cX10_works 45 = .ok (.putfield 244, 3) := by decide +kernel
theorem dX10_works_48 : decode cX10_works 48 = .ok (.iconst 0, 1) := by decide +kernel
theorem dX10_works_49 : decode cX10_works 49 = .ok (.ireturn, 1) := by decide +kernel
theorem dX10_works_50 : decode cX10_works 50 = .ok (.aload_n 0, 1) := by decide +kernel
theorem dX10_works_51 : decode cX10_works 51 = .ok (.iload_n 1, 1) := by decide +kernel
theorem dX10_works_52 : decode cX10_works 52 = .ok (.invokevirtual 250, 3) := by decide +kernel
theorem dX10_works_55 : decode cX10_works 55 = .ok (.ifCond .eq 47, 3) := by decide +kernel
theorem dX10_works_58 : decode cX10_works 58 = .ok (.aload_n 0, 1) := by decide +kernel
theorem dX10_works_59 : decode cX10_works 59 = .ok (.iload_n 1, 1) := by decide +kernel
theorem dX10_works_60 : decode cX10_works 60 = .ok (.invokevirtual 259, 3) := by decide +kernel
theorem dX10_works_63 : decode cX10_works 63 = .ok (.ifCond .le 39, 3) := by decide +kernel
theorem dX10_works_66 : decode cX10_works 66 = .ok (.aload_n 0, 1) := by decide +kernel
theorem dX10_works_67 : decode cX10_works 67 = .ok (.aload_n 0, 1) := by decide +kernel
theorem dX10_works_68 : decode cX10_works 68 = .ok (.iload_n 1, 1) := by decide +kernel
theorem dX10_works_69 : decode cX10_works 69 = .ok (.invokevirtual 283, 3) := by decide +kernel
theorem dX10_works_72 : decode cX10_works 72 = .ok (.putfield 244, 3) := by decide +kernel
theorem dX10_works_75 : decode cX10_works 75 = .ok (.aload_n 0, 1) := by decide +kernel
theorem dX10_works_76 : decode cX10_works 76 = .ok (.dup, 1) := by decide +kernel
theorem dX10_works_77 : decode cX10_works 77 = .ok (.getfield 247, 3) := by decide +kernel
theorem dX10_works_80 : decode cX10_works 80 = .ok (.aload_n 0, 1) := by decide +kernel
theorem dX10_works_81 : decode cX10_works 81 = .ok (.getfield 244, 3) := by decide +kernel
theorem dX10_works_84 : decode cX10_works 84 = .ok (.iadd, 1) := by decide +kernel
theorem dX10_works_85 : decode cX10_works 85 = .ok (.putfield 247, 3) := by decide +kernel
theorem dX10_works_88 : decode cX10_works 88 = .ok (.aload_n 0, 1) := by decide +kernel
theorem dX10_works_89 : decode cX10_works 89 = .ok (.getfield 247, 3) := by decide +kernel
theorem dX10_works_92 : decode cX10_works 92 = .ok (.aload_n 0, 1) := by decide +kernel
theorem dX10_works_93 : decode cX10_works 93 = .ok (.iload_n 1, 1) := by decide +kernel
theorem dX10_works_94 : decode cX10_works 94 = .ok (.invokevirtual 259, 3) := by decide +kernel
theorem dX10_works_97 : decode cX10_works 97 = .ok (.if_icmp .ge 5, 3) := by decide +kernel
theorem dX10_works_100 : decode cX10_works 100 = .ok (.iconst 0, 1) := by decide +kernel
theorem dX10_works_101 : decode cX10_works 101 = .ok (.ireturn, 1) := by decide +kernel
theorem dX10_works_102 : decode cX10_works 102 = .ok (.aload_n 0, 1) := by decide +kernel
theorem dX10_works_103 : decode cX10_works 103 = .ok (.iload_n 1, 1) := by decide +kernel
theorem dX10_works_104 : decode cX10_works 104 = .ok (.invokevirtual 286, 3) := by decide +kernel
theorem dX10_works_107 : decode cX10_works 107 = .ok (.iconst 1, 1) := by decide +kernel
theorem dX10_works_108 : decode cX10_works 108 = .ok (.ireturn, 1) := by decide +kernel
theorem dX10_pass_0 : decode cX10_pass 0 = .ok (.aload_n 0, 1) := by decide +kernel
theorem dX10_pass_1 : decode cX10_pass 1 = .ok (.iload_n 1, 1) := by decide +kernel
theorem dX10_pass_2 : decode cX10_pass 2 = .ok (.iconst 1, 1) := by decide +kernel
theorem dX10_pass_3 : decode cX10_pass 3 = .ok (.sipush 200, 3) := by decide +kernel
theorem dX10_pass_6 : decode cX10_pass 6 = .ok (.invokestatic 101, 3) := by decide +kernel
theorem dX10_pass_9 : decode cX10_pass 9 = .ok (.ifCond .eq 7, 3) := by decide +kernel
theorem dX10_pass_12 : decode cX10_pass 12 = .ok (.iconst 0, 1) := by decide +kernel
theorem dX10_pass_13 : decode cX10_pass 13 = .ok (.goto 4, 3) := by decide +kernel
theorem dX10_pass_16 : decode cX10_pass 16 = .ok (.iconst 1, 1) := by decide +kernel
theorem dX10_pass_17 : decode cX10_pass 17 = .ok (.invokevirtual 112, 3) := by decide +kernel
theorem dX10_pass_20 : decode cX10_pass 20 = .ok (.ifCond .ne 5, 3) := by decide +kernel
theorem dX10_pass_23 : decode cX10_pass 23 = .ok (.iconst 0, 1) := by decide +kernel
theorem dX10_pass_24 : decode cX10_pass 24 = .ok (.ireturn, 1) := by decide +kernel
theorem dX10_pass_25 : decode cX10_pass 25 = .ok (.iconst 0, 1) := by decide +kernel
theorem dX10_pass_26 : decode cX10_pass 26 = .ok (.istore_n 2, 1) := by decide +kernel
theorem dX10_pass_27 : decode cX10_pass 27 = .ok (.iconst 0, 1) := by decide +kernel
theorem dX10_pass_28 : decode cX10_pass 28 = .ok (.istore_n 3, 1) := by decide +kernel
theorem dX10_pass_29 : decode cX10_pass 29 = .ok (.iload_n 3, 1) := by decide +kernel
theorem dX10_pass_30 : decode cX10_pass 30 = .ok (.iload_n 1, 1) := by decide +kernel
theorem dX10_pass_31 : decode cX10_pass 31 = .ok (.if_icmp .ge 56, 3) := by decide +kernel
theorem dX10_pass_34 : decode cX10_pass 34 = .ok (.aload_n 0, 1) := by decide +kernel
theorem dX10_pass_35 : decode cX10_pass 35 = .ok (.dup, 1) := by decide +kernel
theorem dX10_pass_36 : decode cX10_pass 36 = .ok (.getfield 289, 3) := by decide +kernel
theorem dX10_pass_39 : decode cX10_pass 39 = .ok (.lconst 1, 1) := by decide +kernel
theorem dX10_pass_40 : decode cX10_pass 40 = .ok (.ladd, 1) := by decide +kernel
theorem dX10_pass_41 : decode cX10_pass 41 = .ok (.putfield 289, 3) := by decide +kernel
theorem dX10_pass_44 : decode cX10_pass 44 = .ok (.aload_n 0, 1) := by decide +kernel
theorem dX10_pass_45 : decode cX10_pass 45 = .ok (.invokevirtual 293, 3) := by decide +kernel
theorem dX10_pass_48 : decode cX10_pass 48 = .ok (.aload_n 0, 1) := by decide +kernel
theorem dX10_pass_49 : decode cX10_pass 49 = .ok (.getfield 62, 3) := by decide +kernel
theorem dX10_pass_52 : decode cX10_pass 52 = .ok (.bipush 114, 2) := by decide +kernel
theorem dX10_pass_54 : decode cX10_pass 54 = .ok (.if_icmp .eq 12, 3) := by decide +kernel
theorem dX10_pass_57 : decode cX10_pass 57 = .ok (.aload_n 0, 1) := by decide +kernel
theorem dX10_pass_58 : decode cX10_pass 58 = .ok (.getfield 62, 3) := by decide +kernel
theorem dX10_pass_61 : decode cX10_pass 61 = .ok (.bipush 119, 2) := by decide +kernel
theorem dX10_pass_63 : decode cX10_pass 63 = .ok (.if_icmp .ne 18, 3) := by decide +kernel
theorem dX10_pass_66 : decode cX10_pass 66 = .ok (.iload_n 2, 1) := by decide +kernel
theorem dX10_pass_67 : decode cX10_pass 67 = .ok (.aload_n 0, 1) := by decide +kernel
theorem dX10_pass_68 : decode cX10_pass 68 = .ok (.invokevirtual 296, 3) := by decide +kernel
theorem dX10_pass_71 : decode cX10_pass 71 = .ok (.ifCond .eq 7, 3) := by decide +kernel
theorem dX10_pass_74 : decode cX10_pass 74 = .ok (.iconst 1, 1) := by decide +kernel
theorem dX10_pass_75 : decode cX10_pass 75 = .ok (.goto 4, 3) := by decide +kernel
theorem dX10_pass_78 : decode cX10_pass 78 = .ok (.iconst 0, 1) := by decide +kernel
theorem dX10_pass_79 : decode cX10_pass 79 = .ok (.iadd, 1) := by decide +kernel
theorem dX10_pass_80 : decode cX10_pass 80 = .ok (.istore_n 2, 1) := by decide +kernel
theorem dX10_pass_81 : decode cX10_pass 81 = .ok (.iinc 3 1, 3) := by decide +kernel
theorem dX10_pass_84 : decode cX10_pass 84 = .ok (.goto (-55), 3) := by decide +kernel
theorem dX10_pass_87 : decode cX10_pass 87 = .ok (.iload_n 2, 1) := by decide +kernel
theorem dX10_pass_88 : decode cX10_pass 88 = .ok (.ireturn, 1) := by decide +kernel
theorem dX10_goOn_0 : decode cX10_goOn 0 = .ok (.aload_n 0, 1) := by decide +kernel
theorem dX10_goOn_1 : decode cX10_goOn 1 = .ok (.aload_n 0, 1) := by decide +kernel
theorem dX10_goOn_2 : decode cX10_goOn 2 = .ok (.getfield 62, 3) := by decide +kernel
theorem dX10_goOn_5 : decode cX10_goOn 5 = .ok (.bipush 112, 2) := by decide +kernel
theorem dX10_goOn_7 : decode cX10_goOn 7 = .ok (.if_icmp .ne 7, 3) := by decide +kernel
theorem dX10_goOn_10 : decode cX10_goOn 10 = .ok (.iconst 0, 1) := by decide +kernel
theorem dX10_goOn_11 : decode cX10_goOn 11 = .ok (.goto 4, 3) := by decide +kernel
theorem dX10_goOn_14 : decode cX10_goOn 14 = .ok (.iconst 1, 1) := by decide +kernel
theorem dX10_goOn_15 : decode cX10_goOn 15 = .ok (.invokevirtual 112, 3) := by decide +kernel
theorem dX10_goOn_18 : decode cX10_goOn 18 = .ok (.ifCond .ne 5, 3) := by decide +kernel
theorem dX10_goOn_21 : decode cX10_goOn 21 = .ok (.iconst 0, 1) := by decide +kernel
theorem dX10_goOn_22 : decode cX10_goOn 22 = .ok (.ireturn, 1) := by decide +kernel
theorem dX10_goOn_23 : decode cX10_goOn 23 = .ok (.aload_n 0, 1) := by decide +kernel
theorem dX10_goOn_24 : decode cX10_goOn 24 = .ok (.bipush 114, 2) := by decide +kernel
theorem dX10_goOn_26 : decode cX10_goOn 26 = .ok (.putfield 62, 3) := by decide +kernel
theorem dX10_goOn_29 : decode cX10_goOn 29 = .ok (.aload_n 0, 1) := by decide +kernel
theorem dX10_goOn_30 : decode cX10_goOn 30 = .ok (.getfield 200, 3) := by decide +kernel
theorem dX10_goOn_33 : decode cX10_goOn 33 = .ok (.aload_n 0, 1) := by decide +kernel
theorem dX10_goOn_34 : decode cX10_goOn 34 = .ok (.getfield 237, 3) := by decide +kernel
theorem dX10_goOn_37 : decode cX10_goOn 37 = .ok (.isub, 1) := by decide +kernel
theorem dX10_goOn_38 : decode cX10_goOn 38 = .ok (.ireturn, 1) := by decide +kernel
theorem dX10_fail_0 : decode cX10_fail 0 = .ok (.aload_n 0, 1) := by decide +kernel
theorem dX10_fail_1 : decode cX10_fail 1 = .ok (.aload_n 0, 1) := by decide +kernel
theorem dX10_fail_2 : decode cX10_fail 2 = .ok (.getfield 62, 3) := by decide +kernel
theorem dX10_fail_5 : decode cX10_fail 5 = .ok (.bipush 102, 2) := by decide +kernel
theorem dX10_fail_7 : decode cX10_fail 7 = .ok (.if_icmp .ne 7, 3) := by decide +kernel
theorem dX10_fail_10 : decode cX10_fail 10 = .ok (.iconst 1, 1) := by decide +kernel
theorem dX10_fail_11 : decode cX10_fail 11 = .ok (.goto 4, 3) := by decide +kernel
theorem dX10_fail_14 : decode cX10_fail 14 = .ok (.iconst 0, 1) := by decide +kernel
theorem dX10_fail_15 : decode cX10_fail 15 = .ok (.invokevirtual 112, 3) := by decide +kernel
theorem dX10_fail_18 : decode cX10_fail 18 = .ok (.ifCond .ne 5, 3) := by decide +kernel
theorem dX10_fail_21 : decode cX10_fail 21 = .ok (.iconst 0, 1) := by decide +kernel
theorem dX10_fail_22 : decode cX10_fail 22 = .ok (.ireturn, 1) := by decide +kernel
theorem dX10_fail_23 : decode cX10_fail 23 = .ok (.aload_n 0, 1) := by decide +kernel
theorem dX10_fail_24 : decode cX10_fail 24 = .ok (.aload_n 0, 1) := by decide +kernel
theorem dX10_fail_25 : decode cX10_fail 25 = .ok (.getfield 62, 3) := by decide +kernel
theorem dX10_fail_28 : decode cX10_fail 28 = .ok (.putfield 299, 3) := by decide +kernel
theorem dX10_fail_31 : decode cX10_fail 31 = .ok (.aload_n 0, 1) := by decide +kernel
theorem dX10_fail_32 : decode cX10_fail 32 = .ok (.bipush 102, 2) := by decide +kernel
theorem dX10_fail_34 : decode cX10_fail 34 = .ok (.putfield 62, 3) := by decide +kernel
theorem dX10_fail_37 : decode cX10_fail 37 = .ok (.aload_n 0, 1) := by decide +kernel
theorem dX10_fail_38 : decode cX10_fail 38 = .ok (.iconst 0, 1) := by decide +kernel
theorem dX10_fail_39 : decode cX10_fail 39 = .ok (.putfield 253, 3) := by decide +kernel
theorem dX10_fail_42 : decode cX10_fail 42 = .ok (.aload_n 0, 1) := by decide +kernel
theorem dX10_fail_43 : decode cX10_fail 43 = .ok (.iconst 0, 1) := by decide +kernel
theorem dX10_fail_44 : decode cX10_fail 44 = .ok (.putfield 244, 3) := by decide +kernel
theorem dX10_fail_47 : decode cX10_fail 47 = .ok (.aload_n 0, 1) := by decide +kernel
theorem dX10_fail_48 : decode cX10_fail 48 = .ok (.getfield 299, 3) := by decide +kernel
theorem dX10_fail_51 : decode cX10_fail 51 = .ok (.ireturn, 1) := by decide +kernel
theorem dX10_mend_0 : decode cX10_mend 0 = .ok (.aload_n 0, 1) := by decide +kernel
theorem dX10_mend_1 : decode cX10_mend 1 = .ok (.aload_n 0, 1) := by decide +kernel
theorem dX10_mend_2 : decode cX10_mend 2 = .ok (.getfield 62, 3) := by decide +kernel
theorem dX10_mend_5 : decode cX10_mend 5 = .ok (.bipush 102, 2) := by decide +kernel
theorem dX10_mend_7 : decode cX10_mend 7 = .ok (.if_icmp .ne 7, 3) := by decide +kernel
theorem dX10_mend_10 : decode cX10_mend 10 = .ok (.iconst 0, 1) := by decide +kernel
theorem dX10_mend_11 : decode cX10_mend 11 = .ok (.goto 4, 3) := by decide +kernel
theorem dX10_mend_14 : decode cX10_mend 14 = .ok (.iconst 1, 1) := by decide +kernel
theorem dX10_mend_15 : decode cX10_mend 15 = .ok (.invokevirtual 112, 3) := by decide +kernel
theorem dX10_mend_18 : decode cX10_mend 18 = .ok (.ifCond .ne 5, 3) := by decide +kernel
theorem dX10_mend_21 : decode cX10_mend 21 = .ok (.iconst 0, 1) := by decide +kernel
theorem dX10_mend_22 : decode cX10_mend 22 = .ok (.ireturn, 1) := by decide +kernel
theorem dX10_mend_23 : decode cX10_mend 23 = .ok (.aload_n 0, 1) := by decide +kernel
theorem dX10_mend_24 : decode cX10_mend 24 = .ok (.aload_n 0, 1) := by decide +kernel
theorem dX10_mend_25 : decode cX10_mend 25 = .ok (.getfield 299, 3) := by decide +kernel
theorem dX10_mend_28 : decode cX10_mend 28 = .ok (.putfield 62, 3) := by decide +kernel
theorem dX10_mend_31 : decode cX10_mend 31 = .ok (.aload_n 0, 1) := by decide +kernel
theorem dX10_mend_32 : decode cX10_mend 32 = .ok (.getfield 62, 3) := by decide +kernel
theorem dX10_mend_35 : decode cX10_mend 35 = .ok (.ireturn, 1) := by decide +kernel
theorem dX10_cut_0 : decode cX10_cut 0 = .ok (.aload_n 0, 1) := by decide +kernel
theorem dX10_cut_1 : decode cX10_cut 1 = .ok (.iconst 0, 1) := by decide +kernel
theorem dX10_cut_2 : decode cX10_cut 2 = .ok (.putfield 98, 3) := by decide +kernel
theorem dX10_cut_5 : decode cX10_cut 5 = .ok (.aload_n 0, 1) := by decide +kernel
theorem dX10_cut_6 : decode cX10_cut 6 = .ok (.getfield 62, 3) := by decide +kernel
theorem dX10_cut_9 : decode cX10_cut 9 = .ok (.istore_n 1, 1) := by decide +kernel
theorem dX10_cut_10 : decode cX10_cut 10 = .ok (.aload_n 0, 1) := by decide +kernel
theorem dX10_cut_11 : decode cX10_cut 11 = .ok (.getfield 62, 3) := by decide +kernel
theorem dX10_cut_14 : decode cX10_cut 14 = .ok (.bipush 102, 2) := by decide +kernel
theorem dX10_cut_16 : decode cX10_cut 16 = .ok (.if_icmp .ne 10, 3) := by decide +kernel
theorem dX10_cut_19 : decode cX10_cut 19 = .ok (.aload_n 0, 1) := by decide +kernel
theorem dX10_cut_20 : decode cX10_cut 20 = .ok (.getfield 299, 3) := by decide +kernel
theorem dX10_cut_23 : decode cX10_cut 23 = .ok (.goto 7, 3) := by decide +kernel
theorem dX10_cut_26 : decode cX10_cut 26 = .ok (.aload_n 0, 1) := by decide +kernel
theorem dX10_cut_27 : decode cX10_cut 27 = .ok (.getfield 62, 3) := by decide +kernel
theorem dX10_cut_30 : decode cX10_cut 30 = .ok (.istore_n 2, 1) := by decide +kernel
theorem dX10_cut_31 : decode cX10_cut 31 = .ok (.aload_n 0, 1) := by decide +kernel
theorem dX10_cut_32 : decode cX10_cut 32 = .ok (.aload_n 0, 1) := by decide +kernel
theorem dX10_cut_33 : decode cX10_cut 33 = .ok (.getfield 240, 3) := by decide +kernel
theorem dX10_cut_36 : decode cX10_cut 36 = .ok (.ifCond .ne 21, 3) := by decide +kernel
theorem dX10_cut_39 : decode cX10_cut 39 = .ok (.iload_n 2, 1) := by decide +kernel
theorem dX10_cut_40 : decode cX10_cut 40 = .ok (.bipush 114, 2) := by decide +kernel
theorem dX10_cut_42 : decode cX10_cut 42 = .ok (.if_icmp .eq 15, 3) := by decide +kernel
theorem dX10_cut_45 : decode cX10_cut 45 = .ok (.iload_n 2, 1) := by decide +kernel
theorem dX10_cut_46 : decode cX10_cut 46 = .ok (.bipush 119, 2) := by decide +kernel
theorem dX10_cut_48 : decode cX10_cut 48 = .ok (.if_icmp .eq 9, 3) := by decide +kernel
theorem dX10_cut_51 : decode cX10_cut 51 = .ok (.iload_n 2, 1) := by decide +kernel
theorem dX10_cut_52 : decode cX10_cut 52 = .ok (.bipush 112, 2) := by decide +kernel
theorem dX10_cut_54 : decode cX10_cut 54 = .ok (.if_icmp .ne 7, 3) := by decide +kernel
theorem dX10_cut_57 : decode cX10_cut 57 = .ok (.iconst 1, 1) := by decide +kernel
theorem dX10_cut_58 : decode cX10_cut 58 = .ok (.goto 4, 3) := by decide +kernel
theorem dX10_cut_61 : decode cX10_cut 61 = .ok (.iconst 0, 1) := by decide +kernel
theorem dX10_cut_62 : decode cX10_cut 62 = .ok (.putfield 240, 3) := by decide +kernel
theorem dX10_cut_65 : decode cX10_cut 65 = .ok (.aload_n 0, 1) := by decide +kernel
theorem dX10_cut_66 : decode cX10_cut 66 = .ok (.bipush 105, 2) := by decide +kernel
theorem dX10_cut_68 : decode cX10_cut 68 = .ok (.putfield 62, 3) := by decide +kernel
theorem dX10_cut_71 : decode cX10_cut 71 = .ok (.aload_n 0, 1) := by decide +kernel
theorem dX10_cut_72 : decode cX10_cut 72 = .ok (.iconst 0, 1) := by decide +kernel
theorem dX10_cut_73 : decode cX10_cut 73 = .ok (.putfield 253, 3) := by decide +kernel
theorem dX10_cut_76 : decode cX10_cut 76 = .ok (.aload_n 0, 1) := by decide +kernel
theorem dX10_cut_77 : decode cX10_cut 77 = .ok (.iconst 0, 1) := by decide +kernel
theorem dX10_cut_78 : decode cX10_cut 78 = .ok (.putfield 277, 3) := by decide +kernel
theorem dX10_cut_81 : decode cX10_cut 81 = .ok (.aload_n 0, 1) := by decide +kernel
theorem dX10_cut_82 : decode cX10_cut 82 = .ok (.iconst 0, 1) := by decide +kernel
theorem dX10_cut_83 : decode cX10_cut 83 = .ok (.putfield 244, 3) := by decide +kernel
theorem dX10_cut_86 : decode cX10_cut 86 = .ok (.iload_n 1, 1) := by decide +kernel
theorem dX10_cut_87 : decode cX10_cut 87 = .ok (.ireturn, 1) := by decide +kernel
theorem dX10_resume_0 : decode cX10_resume 0 = .ok (.aload_n 0, 1) := by decide +kernel
theorem dX10_resume_1 : decode cX10_resume 1 = .ok (.aload_n 0, 1) := by decide +kernel
theorem dX10_resume_2 : decode cX10_resume 2 = .ok (.getfield 62, 3) := by decide +kernel
theorem dX10_resume_5 : decode cX10_resume 5 = .ok (.bipush 105, 2) := by decide +kernel
theorem dX10_resume_7 : decode cX10_resume 7 = .ok (.if_icmp .ne 10, 3) := by decide +kernel
theorem dX10_resume_10 : decode cX10_resume 10 = .ok (.aload_n 0, 1) := by decide +kernel
theorem dX10_resume_11 : decode cX10_resume 11 = .ok (.getfield 240, 3) := by decide +kernel
theorem dX10_resume_14 : decode cX10_resume 14 = .ok (.ifCond .ne 7, 3) := by decide +kernel
theorem dX10_resume_17 : decode cX10_resume 17 = .ok (.iconst 1, 1) := by decide +kernel
theorem dX10_resume_18 : decode cX10_resume 18 = .ok (.goto 4, 3) := by decide +kernel
theorem dX10_resume_21 : decode cX10_resume 21 = .ok (.iconst 0, 1) := by decide +kernel
theorem dX10_resume_22 : decode cX10_resume 22 = .ok (.invokevirtual 112, 3) := by decide +kernel
theorem dX10_resume_25 : decode cX10_resume 25 = .ok (.ifCond .ne 5, 3) := by decide +kernel
theorem dX10_resume_28 : decode cX10_resume 28 = .ok (.iconst 0, 1) := by decide +kernel
theorem dX10_resume_29 : decode cX10_resume 29 = .ok (.ireturn, 1) := by decide +kernel
theorem dX10_resume_30 : decode cX10_resume 30 = .ok (.aload_n 0, 1) := by decide +kernel
theorem dX10_resume_31 : decode cX10_resume 31 = .ok (.aload_n 0, 1) := by decide +kernel
theorem dX10_resume_32 : decode cX10_resume 32 = .ok (.getfield 65, 3) := by decide +kernel
theorem dX10_resume_35 : decode cX10_resume 35 = .ok (.iconst (-1), 1) := by decide +kernel
theorem dX10_resume_36 : decode cX10_resume 36 = .ok (.if_icmp .ne 7, 3) := by decide +kernel
theorem dX10_resume_39 : decode cX10_resume 39 = .ok (.iconst 0, 1) := by decide +kernel
theorem dX10_resume_40 : decode cX10_resume 40 = .ok (.goto 7, 3) := by decide +kernel
theorem dX10_resume_43 : decode cX10_resume 43 = .ok (.aload_n 0, 1) := by decide +kernel
theorem dX10_resume_44 : decode cX10_resume 44 = .ok (.getfield 65, 3) := by decide +kernel
theorem dX10_resume_47 : decode cX10_resume 47 = .ok (.invokevirtual 256, 3) := by decide +kernel
theorem dX10_resume_50 : decode cX10_resume 50 = .ok (.aload_n 0, 1) := by decide +kernel
theorem dX10_resume_51 : decode cX10_resume 51 = .ok (.getfield 237, 3) := by decide +kernel
theorem dX10_resume_54 : decode cX10_resume 54 = .ok (.ireturn, 1) := by decide +kernel
theorem dX10_state_0 : decode cX10_state 0 = .ok (.aload_n 0, 1) := by decide +kernel
theorem dX10_state_1 : decode cX10_state 1 = .ok (.iconst 0, 1) := by decide +kernel
theorem dX10_state_2 : decode cX10_state 2 = .ok (.putfield 98, 3) := by decide +kernel
theorem dX10_state_5 : decode cX10_state 5 = .ok (.aload_n 0, 1) := by decide +kernel
theorem dX10_state_6 : decode cX10_state 6 = .ok (.getfield 62, 3) := by decide +kernel
theorem dX10_state_9 : decode cX10_state 9 = .ok (.ireturn, 1) := by decide +kernel
theorem dX10_next_0 : decode cX10_next 0 = .ok (.aload_n 0, 1) := by decide +kernel
theorem dX10_next_1 : decode cX10_next 1 = .ok (.iconst 0, 1) := by decide +kernel
theorem dX10_next_2 : decode cX10_next 2 = .ok (.putfield 98, 3) := by decide +kernel
theorem dX10_next_5 : decode cX10_next 5 = .ok (.aload_n 0, 1) := by decide +kernel
theorem dX10_next_6 : decode cX10_next 6 = .ok (.getfield 237, 3) := by decide +kernel
theorem dX10_next_9 : decode cX10_next 9 = .ok (.ireturn, 1) := by decide +kernel
theorem dX10_speed_0 : decode cX10_speed 0 = .ok (.aload_n 0, 1) := by decide +kernel
theorem dX10_speed_1 : decode cX10_speed 1 = .ok (.iconst 0, 1) := by decide +kernel
theorem dX10_speed_2 : decode cX10_speed 2 = .ok (.putfield 98, 3) := by decide +kernel
theorem dX10_speed_5 : decode cX10_speed 5 = .ok (.aload_n 0, 1) := by decide +kernel
theorem dX10_speed_6 : decode cX10_speed 6 = .ok (.getfield 244, 3) := by decide +kernel
theorem dX10_speed_9 : decode cX10_speed 9 = .ok (.ireturn, 1) := by decide +kernel
theorem dX10_temperature_0 : decode cX10_temperature 0 = .ok (.aload_n 0, 1) := by decide +kernel
theorem dX10_temperature_1 : decode cX10_temperature 1 = .ok (.iconst 0, 1) := by decide +kernel
theorem dX10_temperature_2 : decode cX10_temperature 2 = .ok (.putfield 98, 3) := by decide +kernel
theorem dX10_temperature_5 : decode cX10_temperature 5 = .ok (.aload_n 0, 1) := by decide +kernel
theorem dX10_temperature_6 : decode cX10_temperature 6 = .ok (.getfield 68, 3) := by decide +kernel
theorem dX10_temperature_9 : decode cX10_temperature 9 = .ok (.ireturn, 1) := by decide +kernel
theorem dX10_time_0 : decode cX10_time 0 = .ok (.aload_n 0, 1) := by decide +kernel
theorem dX10_time_1 : decode cX10_time 1 = .ok (.iconst 0, 1) := by decide +kernel
theorem dX10_time_2 : decode cX10_time 2 = .ok (.putfield 98, 3) := by decide +kernel
theorem dX10_time_5 : decode cX10_time 5 = .ok (.aload_n 0, 1) := by decide +kernel
theorem dX10_time_6 : decode cX10_time 6 = .ok (.getfield 289, 3) := by decide +kernel
theorem dX10_time_9 : decode cX10_time 9 = .ok (.lreturn, 1) := by decide +kernel
theorem dX10_laid_0 : decode cX10_laid 0 = .ok (.aload_n 0, 1) := by decide +kernel
theorem dX10_laid_1 : decode cX10_laid 1 = .ok (.iload_n 1, 1) := by decide +kernel
theorem dX10_laid_2 : decode cX10_laid 2 = .ok (.iload_n 2, 1) := by decide +kernel
theorem dX10_laid_3 : decode cX10_laid 3 = .ok (.iload_n 3, 1) := by decide +kernel
theorem dX10_laid_4 : decode cX10_laid 4 = .ok (.invokestatic 105, 3) := by decide +kernel
theorem dX10_laid_7 : decode cX10_laid 7 = .ok (.ifCond .eq 7, 3) := by decide +kernel
theorem dX10_laid_10 : decode cX10_laid 10 = .ok (.iconst 0, 1) := by decide +kernel
theorem dX10_laid_11 : decode cX10_laid 11 = .ok (.goto 4, 3) := by decide +kernel
theorem dX10_laid_14 : decode cX10_laid 14 = .ok (.iconst 1, 1) := by decide +kernel
theorem dX10_laid_15 : decode cX10_laid 15 = .ok (.invokevirtual 112, 3) := by decide +kernel
theorem dX10_laid_18 : decode cX10_laid 18 = .ok (.ifCond .eq 17, 3) := by decide +kernel
theorem dX10_laid_21 : decode cX10_laid 21 = .ok (.aload_n 0, 1) := by decide +kernel
theorem dX10_laid_22 : decode cX10_laid 22 = .ok (.getfield 71, 3) := by decide +kernel
theorem dX10_laid_25 : decode cX10_laid 25 = .ok (.iload_n 1, 1) := by decide +kernel
theorem dX10_laid_26 : decode cX10_laid 26 = .ok (.iload_n 2, 1) := by decide +kernel
theorem dX10_laid_27 : decode cX10_laid 27 = .ok (.iload_n 3, 1) := by decide +kernel
theorem dX10_laid_28 : decode cX10_laid 28 = .ok (.invokestatic 108, 3) := by decide +kernel
theorem dX10_laid_31 : decode cX10_laid 31 = .ok (.iaload, 1) := by decide +kernel
theorem dX10_laid_32 : decode cX10_laid 32 = .ok (.goto 4, 3) := by decide +kernel
theorem dX10_laid_35 : decode cX10_laid 35 = .ok (.iconst 0, 1) := by decide +kernel
theorem dX10_laid_36 : decode cX10_laid 36 = .ok (.ireturn, 1) := by decide +kernel
theorem dX10_laidInAll_0 : decode cX10_laidInAll 0 = .ok (.aload_n 0, 1) := by decide +kernel
theorem dX10_laidInAll_1 : decode cX10_laidInAll 1 = .ok (.iconst 0, 1) := by decide +kernel
theorem dX10_laidInAll_2 : decode cX10_laidInAll 2 = .ok (.putfield 98, 3) := by decide +kernel
theorem dX10_laidInAll_5 : decode cX10_laidInAll 5 = .ok (.lconst 0, 1) := by decide +kernel
theorem dX10_laidInAll_6 : decode cX10_laidInAll 6 = .ok (.lstore_n 1, 1) := by decide +kernel
theorem dX10_laidInAll_7 : decode cX10_laidInAll 7 = .ok (.iconst 0, 1) := by decide +kernel
theorem dX10_laidInAll_8 : decode cX10_laidInAll 8 = .ok (.istore_n 3, 1) := by decide +kernel
theorem dX10_laidInAll_9 : decode cX10_laidInAll 9 = .ok (.iload_n 3, 1) := by decide +kernel
theorem dX10_laidInAll_10 : decode cX10_laidInAll 10 = .ok (.sipush 1728, 3) := by decide +kernel
theorem dX10_laidInAll_13 : decode cX10_laidInAll 13 = .ok (.if_icmp .ge 19, 3) := by decide +kernel
theorem dX10_laidInAll_16 : decode cX10_laidInAll 16 = .ok (.lload_n 1, 1) := by decide +kernel
theorem dX10_laidInAll_17 : decode cX10_laidInAll 17 = .ok (.aload_n 0, 1) := by decide +kernel
theorem dX10_laidInAll_18 : decode cX10_laidInAll 18 = .ok (.getfield 71, 3) := by decide +kernel
theorem dX10_laidInAll_21 : decode cX10_laidInAll 21 = .ok (.iload_n 3, 1) := by decide +kernel
theorem dX10_laidInAll_22 : decode cX10_laidInAll 22 = .ok (.iaload, 1) := by decide +kernel
theorem dX10_laidInAll_23 : decode cX10_laidInAll 23 = .ok (.i2l, 1) := by decide +kernel
theorem dX10_laidInAll_24 : decode cX10_laidInAll 24 = .ok (.ladd, 1) := by decide +kernel
theorem dX10_laidInAll_25 : decode cX10_laidInAll 25 = .ok (.lstore_n 1, 1) := by decide +kernel
theorem dX10_laidInAll_26 : decode cX10_laidInAll 26 = .ok (.iinc 3 1, 3) := by decide +kernel
theorem dX10_laidInAll_29 : decode cX10_laidInAll 29 = .ok (.goto (-20), 3) := by decide +kernel
theorem dX10_laidInAll_32 : decode cX10_laidInAll 32 = .ok (.lload_n 1, 1) := by decide +kernel
theorem dX10_laidInAll_33 : decode cX10_laidInAll 33 = .ok (.lreturn, 1) := by decide +kernel
theorem dX10_emptyShare_0 : decode cX10_emptyShare 0 = .ok (.iconst 0, 1) := by decide +kernel
theorem dX10_emptyShare_1 : decode cX10_emptyShare 1 = .ok (.istore_n 1, 1) := by decide +kernel
theorem dX10_emptyShare_2 : decode cX10_emptyShare 2 = .ok (.iconst 0, 1) := by decide +kernel
theorem dX10_emptyShare_3 : decode cX10_emptyShare 3 = .ok (.istore_n 2, 1) := by decide +kernel
theorem dX10_emptyShare_4 : decode cX10_emptyShare 4 = .ok (.iconst 0, 1) := by decide +kernel
theorem dX10_emptyShare_5 : decode cX10_emptyShare 5 = .ok (.istore_n 3, 1) := by decide +kernel
theorem dX10_emptyShare_6 : decode cX10_emptyShare 6 = .ok (.iload_n 3, 1) := by decide +kernel
theorem dX10_emptyShare_7 : decode cX10_emptyShare 7 = .ok (.sipush 1728, 3) := by decide +kernel
theorem dX10_emptyShare_10 : decode cX10_emptyShare 10 = .ok (.if_icmp .ge 68, 3) := by decide +kernel
theorem dX10_emptyShare_13 : decode cX10_emptyShare 13 = .ok (.iload_n 2, 1) := by decide +kernel
theorem dX10_emptyShare_14 : decode cX10_emptyShare 14 = .ok (.aload_n 0, 1) := by decide +kernel
theorem dX10_emptyShare_15 : decode cX10_emptyShare 15 = .ok (.getfield 9, 3) := by decide +kernel
theorem dX10_emptyShare_18 : decode cX10_emptyShare 18 = .ok (.iload_n 3, 1) := by decide +kernel
theorem dX10_emptyShare_19 : decode cX10_emptyShare 19 = .ok (.baload, 1) := by decide +kernel
theorem dX10_emptyShare_20 : decode cX10_emptyShare 20 = .ok (.ifCond .eq 7, 3) := by decide +kernel
theorem dX10_emptyShare_23 : decode cX10_emptyShare 23 = .ok (.iconst 1, 1) := by decide +kernel
theorem dX10_emptyShare_24 : decode cX10_emptyShare 24 = .ok (.goto 4, 3) := by decide +kernel
theorem dX10_emptyShare_27 : decode cX10_emptyShare 27 = .ok (.iconst 0, 1) := by decide +kernel
theorem dX10_emptyShare_28 : decode cX10_emptyShare 28 = .ok (.iadd, 1) := by decide +kernel
theorem dX10_emptyShare_29 : decode cX10_emptyShare 29 = .ok (.istore_n 2, 1) := by decide +kernel
theorem dX10_emptyShare_30 : decode cX10_emptyShare 30 = .ok (.iload_n 1, 1) := by decide +kernel
theorem dX10_emptyShare_31 : decode cX10_emptyShare 31 = .ok (.aload_n 0, 1) := by decide +kernel
theorem dX10_emptyShare_32 : decode cX10_emptyShare 32 = .ok (.getfield 9, 3) := by decide +kernel
theorem dX10_emptyShare_35 : decode cX10_emptyShare 35 = .ok (.iload_n 3, 1) := by decide +kernel
theorem dX10_emptyShare_36 : decode cX10_emptyShare 36 = .ok (.baload, 1) := by decide +kernel
theorem dX10_emptyShare_37 : decode cX10_emptyShare 37 = .ok (.ifCond .eq 32, 3) := by decide +kernel
theorem dX10_emptyShare_40 : decode cX10_emptyShare 40 = .ok (.aload_n 0, 1) := by decide +kernel
theorem dX10_emptyShare_41 : decode cX10_emptyShare 41 = .ok (.iload_n 3, 1) := by decide +kernel
theorem dX10_emptyShare_42 : decode cX10_emptyShare 42 = .ok (.bipush 12, 2) := by decide +kernel
theorem dX10_emptyShare_44 : decode cX10_emptyShare 44 = .ok (.irem, 1) := by decide +kernel
theorem dX10_emptyShare_45 : decode cX10_emptyShare 45 = .ok (.iload_n 3, 1) := by decide +kernel
theorem dX10_emptyShare_46 : decode cX10_emptyShare 46 = .ok (.bipush 12, 2) := by decide +kernel
theorem dX10_emptyShare_48 : decode cX10_emptyShare 48 = .ok (.idiv, 1) := by decide +kernel
theorem dX10_emptyShare_49 : decode cX10_emptyShare 49 = .ok (.bipush 12, 2) := by decide +kernel
theorem dX10_emptyShare_51 : decode cX10_emptyShare 51 = .ok (.irem, 1) := by decide +kernel
theorem dX10_emptyShare_52 : decode cX10_emptyShare 52 = .ok (.iload_n 3, 1) := by decide +kernel
theorem dX10_emptyShare_53 : decode cX10_emptyShare 53 = .ok (.sipush 144, 3) := by decide +kernel
theorem dX10_emptyShare_56 : decode cX10_emptyShare 56 = .ok (.idiv, 1) := by decide +kernel
theorem dX10_emptyShare_57 : decode cX10_emptyShare 57 = .ok (.invokevirtual 162, 3) := by decide +kernel
theorem dX10_emptyShare_60 : decode cX10_emptyShare 60 = .ok (.bipush 101, 2) := by decide +kernel
theorem dX10_emptyShare_62 : decode cX10_emptyShare 62 = .ok (.if_icmp .ne 7, 3) := by decide +kernel
theorem dX10_emptyShare_65 : decode cX10_emptyShare 65 = .ok (.iconst 1, 1) := by decide +kernel
theorem dX10_emptyShare_66 : decode cX10_emptyShare 66 = .ok (.goto 4, 3) := by decide +kernel
theorem dX10_emptyShare_69 : decode cX10_emptyShare 69 = .ok (.iconst 0, 1) := by decide +kernel
theorem dX10_emptyShare_70 : decode cX10_emptyShare 70 = .ok (.iadd, 1) := by decide +kernel
theorem dX10_emptyShare_71 : decode cX10_emptyShare 71 = .ok (.istore_n 1, 1) := by decide +kernel
theorem dX10_emptyShare_72 : decode cX10_emptyShare 72 = .ok (.iinc 3 1, 3) := by decide +kernel
theorem dX10_emptyShare_75 : decode cX10_emptyShare 75 = .ok (.goto (-69), 3) := by decide +kernel
theorem dX10_emptyShare_78 : decode cX10_emptyShare 78 = .ok (.aload_n 0, 1) := by decide +kernel
theorem dX10_emptyShare_79 : decode cX10_emptyShare 79 = .ok (.iload_n 2, 1) := by decide +kernel
theorem dX10_emptyShare_80 : decode cX10_emptyShare 80 = .ok (.ifCond .ne 7, 3) := by decide +kernel
theorem dX10_emptyShare_83 : decode cX10_emptyShare 83 = .ok (.iconst 1, 1) := by decide +kernel
theorem dX10_emptyShare_84 : decode cX10_emptyShare 84 = .ok (.goto 4, 3) := by decide +kernel
theorem dX10_emptyShare_87 : decode cX10_emptyShare 87 = .ok (.iconst 0, 1) := by decide +kernel
theorem dX10_emptyShare_88 : decode cX10_emptyShare 88 = .ok (.invokevirtual 112, 3) := by decide +kernel
theorem dX10_emptyShare_91 : decode cX10_emptyShare 91 = .ok (.ifCond .eq 11, 3) := by decide +kernel
theorem dX10_emptyShare_94 : decode cX10_emptyShare 94 = .ok (.iload_n 1, 1) := by decide +kernel
theorem dX10_emptyShare_95 : decode cX10_emptyShare 95 = .ok (.i2f, 1) := by decide +kernel
theorem dX10_emptyShare_96 : decode cX10_emptyShare 96 = .ok (.iload_n 2, 1) := by decide +kernel
theorem dX10_emptyShare_97 : decode cX10_emptyShare 97 = .ok (.i2f, 1) := by decide +kernel
theorem dX10_emptyShare_98 : decode cX10_emptyShare 98 = .ok (.fdiv, 1) := by decide +kernel
theorem dX10_emptyShare_99 : decode cX10_emptyShare 99 = .ok (.goto 4, 3) := by decide +kernel
theorem dX10_emptyShare_102 : decode cX10_emptyShare 102 = .ok (.fconst 0, 1) := by decide +kernel
theorem dX10_emptyShare_103 : decode cX10_emptyShare 103 = .ok (.freturn, 1) := by decide +kernel
theorem dX10_meanStroke_0 : decode cX10_meanStroke 0 = .ok (.iconst 0, 1) := by decide +kernel
theorem dX10_meanStroke_1 : decode cX10_meanStroke 1 = .ok (.istore_n 1, 1) := by decide +kernel
theorem dX10_meanStroke_2 : decode cX10_meanStroke 2 = .ok (.iconst 0, 1) := by decide +kernel
theorem dX10_meanStroke_3 : decode cX10_meanStroke 3 = .ok (.istore_n 2, 1) := by decide +kernel
theorem dX10_meanStroke_4 : decode cX10_meanStroke 4 = .ok (.iconst 0, 1) := by decide +kernel
theorem dX10_meanStroke_5 : decode cX10_meanStroke 5 = .ok (.istore_n 3, 1) := by decide +kernel
theorem dX10_meanStroke_6 : decode cX10_meanStroke 6 = .ok (.iload_n 3, 1) := by decide +kernel
theorem dX10_meanStroke_7 : decode cX10_meanStroke 7 = .ok (.bipush 12, 2) := by decide +kernel
theorem dX10_meanStroke_9 : decode cX10_meanStroke 9 = .ok (.if_icmp .ge 48, 3) := by decide +kernel
theorem dX10_meanStroke_12 : decode cX10_meanStroke 12 = .ok (.aload_n 0, 1) := by decide +kernel
theorem dX10_meanStroke_13 : decode cX10_meanStroke 13 = .ok (.iload_n 3, 1) := by decide +kernel
theorem dX10_meanStroke_14 : decode cX10_meanStroke 14 = .ok (.invokevirtual 196, 3) := by decide +kernel
theorem dX10_meanStroke_17 : decode cX10_meanStroke 17 = .ok (.iload_n 2, 1) := by decide +kernel
theorem dX10_meanStroke_18 : decode cX10_meanStroke 18 = .ok (.aload_n 0, 1) := by decide +kernel
theorem dX10_meanStroke_19 : decode cX10_meanStroke 19 = .ok (.getfield 174, 3) := by decide +kernel
theorem dX10_meanStroke_22 : decode cX10_meanStroke 22 = .ok (.iadd, 1) := by decide +kernel
theorem dX10_meanStroke_23 : decode cX10_meanStroke 23 = .ok (.istore_n 2, 1) := by decide +kernel
theorem dX10_meanStroke_24 : decode cX10_meanStroke 24 = .ok (.iconst 0, 1) := by decide +kernel
theorem dX10_meanStroke_25 : decode cX10_meanStroke 25 = .ok (.istore 4, 2) := by decide +kernel
theorem dX10_meanStroke_27 : decode cX10_meanStroke 27 = .ok (.iload 4, 2) := by decide +kernel
theorem dX10_meanStroke_29 : decode cX10_meanStroke 29 = .ok (.aload_n 0, 1) := by decide +kernel
theorem dX10_meanStroke_30 : decode cX10_meanStroke 30 = .ok (.getfield 174, 3) := by decide +kernel
theorem dX10_meanStroke_33 : decode cX10_meanStroke 33 = .ok (.if_icmp .ge 18, 3) := by decide +kernel
theorem dX10_meanStroke_36 : decode cX10_meanStroke 36 = .ok (.iload_n 1, 1) := by decide +kernel
theorem dX10_meanStroke_37 : decode cX10_meanStroke 37 = .ok (.aload_n 0, 1) := by decide +kernel
theorem dX10_meanStroke_38 : decode cX10_meanStroke 38 = .ok (.iload 4, 2) := by decide +kernel
theorem dX10_meanStroke_40 : decode cX10_meanStroke 40 = .ok (.invokevirtual 217, 3) := by decide +kernel
theorem dX10_meanStroke_43 : decode cX10_meanStroke 43 = .ok (.iadd, 1) := by decide +kernel
theorem dX10_meanStroke_44 : decode cX10_meanStroke 44 = .ok (.istore_n 1, 1) := by decide +kernel
theorem dX10_meanStroke_45 : decode cX10_meanStroke 45 = .ok (.iinc 4 1, 3) := by decide +kernel
theorem dX10_meanStroke_48 : decode cX10_meanStroke 48 = .ok (.goto (-21), 3) := by decide +kernel
theorem dX10_meanStroke_51 : decode cX10_meanStroke 51 = .ok (.iinc 3 1, 3) := by decide +kernel
theorem dX10_meanStroke_54 : decode cX10_meanStroke 54 = .ok (.goto (-48), 3) := by decide +kernel
theorem dX10_meanStroke_57 : decode cX10_meanStroke 57 = .ok (.aload_n 0, 1) := by decide +kernel
theorem dX10_meanStroke_58 : decode cX10_meanStroke 58 = .ok (.iload_n 2, 1) := by decide +kernel
theorem dX10_meanStroke_59 : decode cX10_meanStroke 59 = .ok (.ifCond .ne 7, 3) := by decide +kernel
theorem dX10_meanStroke_62 : decode cX10_meanStroke 62 = .ok (.iconst 1, 1) := by decide +kernel
theorem dX10_meanStroke_63 : decode cX10_meanStroke 63 = .ok (.goto 4, 3) := by decide +kernel
theorem dX10_meanStroke_66 : decode cX10_meanStroke 66 = .ok (.iconst 0, 1) := by decide +kernel
theorem dX10_meanStroke_67 : decode cX10_meanStroke 67 = .ok (.invokevirtual 112, 3) := by decide +kernel
theorem dX10_meanStroke_70 : decode cX10_meanStroke 70 = .ok (.ifCond .eq 11, 3) := by decide +kernel
theorem dX10_meanStroke_73 : decode cX10_meanStroke 73 = .ok (.iload_n 1, 1) := by decide +kernel
theorem dX10_meanStroke_74 : decode cX10_meanStroke 74 = .ok (.i2d, 1) := by decide +kernel
theorem dX10_meanStroke_75 : decode cX10_meanStroke 75 = .ok (.iload_n 2, 1) := by decide +kernel
theorem dX10_meanStroke_76 : decode cX10_meanStroke 76 = .ok (.i2d, 1) := by decide +kernel
theorem dX10_meanStroke_77 : decode cX10_meanStroke 77 = .ok (.ddiv, 1) := by decide +kernel
theorem dX10_meanStroke_78 : decode cX10_meanStroke 78 = .ok (.goto 4, 3) := by decide +kernel
theorem dX10_meanStroke_81 : decode cX10_meanStroke 81 = .ok (.dconst 0, 1) := by decide +kernel
theorem dX10_meanStroke_82 : decode cX10_meanStroke 82 = .ok (.dreturn, 1) := by decide +kernel
theorem dJ9_abs_0f7a4_0 : decode cJ9_abs_0f7a4 0 = .ok (.iload_n 0, 1) := by decide +kernel
theorem dJ9_abs_0f7a4_1 : decode cJ9_abs_0f7a4 1 = .ok (.ifCond .ge 8, 3) := by decide +kernel
theorem dJ9_abs_0f7a4_4 : decode cJ9_abs_0f7a4 4 = .ok (.iload_n 0, 1) := by decide +kernel
theorem dJ9_abs_0f7a4_5 : decode cJ9_abs_0f7a4 5 = .ok (.ineg, 1) := by decide +kernel
theorem dJ9_abs_0f7a4_6 : decode cJ9_abs_0f7a4 6 = .ok (.goto 4, 3) := by decide +kernel
theorem dJ9_abs_0f7a4_9 : decode cJ9_abs_0f7a4 9 = .ok (.iload_n 0, 1) := by decide +kernel
theorem dJ9_abs_0f7a4_10 : decode cJ9_abs_0f7a4 10 = .ok (.ireturn, 1) := by decide +kernel
theorem dJ9_max_7cf53_0 : decode cJ9_max_7cf53 0 = .ok (.iload_n 0, 1) := by decide +kernel
theorem dJ9_max_7cf53_1 : decode cJ9_max_7cf53 1 = .ok (.iload_n 1, 1) := by decide +kernel
theorem dJ9_max_7cf53_2 : decode cJ9_max_7cf53 2 = .ok (.if_icmp .lt 7, 3) := by decide +kernel
theorem dJ9_max_7cf53_5 : decode cJ9_max_7cf53 5 = .ok (.iload_n 0, 1) := by decide +kernel
theorem dJ9_max_7cf53_6 : decode cJ9_max_7cf53 6 = .ok (.goto 4, 3) := by decide +kernel
theorem dJ9_max_7cf53_9 : decode cJ9_max_7cf53 9 = .ok (.iload_n 1, 1) := by decide +kernel
theorem dJ9_max_7cf53_10 : decode cJ9_max_7cf53 10 = .ok (.ireturn, 1) := by decide +kernel
theorem dJ9_min_7cf53_0 : decode cJ9_min_7cf53 0 = .ok (.iload_n 0, 1) := by decide +kernel
theorem dJ9_min_7cf53_1 : decode cJ9_min_7cf53 1 = .ok (.iload_n 1, 1) := by decide +kernel
theorem dJ9_min_7cf53_2 : decode cJ9_min_7cf53 2 = .ok (.if_icmp .gt 7, 3) := by decide +kernel
theorem dJ9_min_7cf53_5 : decode cJ9_min_7cf53 5 = .ok (.iload_n 0, 1) := by decide +kernel
theorem dJ9_min_7cf53_6 : decode cJ9_min_7cf53 6 = .ok (.goto 4, 3) := by decide +kernel
theorem dJ9_min_7cf53_9 : decode cJ9_min_7cf53 9 = .ok (.iload_n 1, 1) := by decide +kernel
theorem dJ9_min_7cf53_10 : decode cJ9_min_7cf53 10 = .ok (.ireturn, 1) := by decide +kernel
theorem dJ7_fill_53178_0 : decode cJ7_fill_53178 0 = .ok (.iconst 0, 1) := by decide +kernel
theorem dJ7_fill_53178_1 : decode cJ7_fill_53178 1 = .ok (.istore_n 2, 1) := by decide +kernel
theorem dJ7_fill_53178_2 : decode cJ7_fill_53178 2 = .ok (.aload_n 0, 1) := by decide +kernel
theorem dJ7_fill_53178_3 : decode cJ7_fill_53178 3 = .ok (.arraylength, 1) := by decide +kernel
theorem dJ7_fill_53178_4 : decode cJ7_fill_53178 4 = .ok (.istore_n 3, 1) := by decide +kernel
theorem dJ7_fill_53178_5 : decode cJ7_fill_53178 5 = .ok (.iload_n 2, 1) := by decide +kernel
theorem dJ7_fill_53178_6 : decode cJ7_fill_53178 6 = .ok (.iload_n 3, 1) := by decide +kernel
theorem dJ7_fill_53178_7 : decode cJ7_fill_53178 7 = .ok (.if_icmp .ge 13, 3) := by decide +kernel
theorem dJ7_fill_53178_10 : decode cJ7_fill_53178 10 = .ok (.aload_n 0, 1) := by decide +kernel
theorem dJ7_fill_53178_11 : decode cJ7_fill_53178 11 = .ok (.iload_n 2, 1) := by decide +kernel
theorem dJ7_fill_53178_12 : decode cJ7_fill_53178 12 = .ok (.iload_n 1, 1) := by decide +kernel
theorem dJ7_fill_53178_13 : decode cJ7_fill_53178 13 = .ok (.iastore, 1) := by decide +kernel
theorem dJ7_fill_53178_14 : decode cJ7_fill_53178 14 = .ok (.iinc 2 1, 3) := by decide +kernel
theorem dJ7_fill_53178_17 : decode cJ7_fill_53178 17 = .ok (.goto (-12), 3) := by decide +kernel
theorem dJ7_fill_53178_20 : decode cJ7_fill_53178 20 = .ok (.return_, 1) := by decide +kernel
theorem dL_box_0 : decode cL_box 0 = .ok (.aload 8, 2) := by decide +kernel
theorem dL_box_2 : decode cL_box 2 = .ok (.iconst 0, 1) := by decide +kernel
theorem dL_box_3 : decode cL_box 3 = .ok (.aload_n 0, 1) := by decide +kernel
theorem dL_box_4 : decode cL_box 4 = .ok (.iload_n 1, 1) := by decide +kernel
theorem dL_box_5 : decode cL_box 5 = .ok (.iload_n 2, 1) := by decide +kernel
theorem dL_box_6 : decode cL_box 6 = .ok (.iload_n 3, 1) := by decide +kernel
theorem dL_box_7 : decode cL_box 7 = .ok (.iload 4, 2) := by decide +kernel
theorem dL_box_9 : decode cL_box 9 = .ok (.iload 5, 2) := by decide +kernel
theorem dL_box_11 : decode cL_box 11 = .ok (.iload 6, 2) := by decide +kernel
theorem dL_box_13 : decode cL_box 13 = .ok (.iload 7, 2) := by decide +kernel
theorem dL_box_15 : decode cL_box 15 = .ok (.invokevirtual 7, 3) := by decide +kernel
theorem dL_box_18 : decode cL_box 18 = .ok (.i2l, 1) := by decide +kernel
theorem dL_box_19 : decode cL_box 19 = .ok (.lastore, 1) := by decide +kernel
theorem dL_box_20 : decode cL_box 20 = .ok (.goto 7, 3) := by decide +kernel
theorem dL_box_27 : decode cL_box 27 = .ok (.iconst 0, 1) := by decide +kernel
theorem dL_box_28 : decode cL_box 28 = .ok (.ireturn, 1) := by decide +kernel
theorem dL_set_0 : decode cL_set 0 = .ok (.aload_n 3, 1) := by decide +kernel
theorem dL_set_1 : decode cL_set 1 = .ok (.iconst 0, 1) := by decide +kernel
theorem dL_set_2 : decode cL_set 2 = .ok (.aload_n 0, 1) := by decide +kernel
theorem dL_set_3 : decode cL_set 3 = .ok (.iload_n 1, 1) := by decide +kernel
theorem dL_set_4 : decode cL_set 4 = .ok (.iload_n 2, 1) := by decide +kernel
theorem dL_set_5 : decode cL_set 5 = .ok (.invokevirtual 15, 3) := by decide +kernel
theorem dL_set_8 : decode cL_set 8 = .ok (.i2l, 1) := by decide +kernel
theorem dL_set_9 : decode cL_set 9 = .ok (.lastore, 1) := by decide +kernel
theorem dL_set_10 : decode cL_set 10 = .ok (.goto 7, 3) := by decide +kernel
theorem dL_set_17 : decode cL_set 17 = .ok (.iconst 0, 1) := by decide +kernel
theorem dL_set_18 : decode cL_set 18 = .ok (.ireturn, 1) := by decide +kernel
theorem dL_setPattern_0 : decode cL_setPattern 0 = .ok (.aload_n 2, 1) := by decide +kernel
theorem dL_setPattern_1 : decode cL_setPattern 1 = .ok (.iconst 0, 1) := by decide +kernel
theorem dL_setPattern_2 : decode cL_setPattern 2 = .ok (.aload_n 0, 1) := by decide +kernel
theorem dL_setPattern_3 : decode cL_setPattern 3 = .ok (.iload_n 1, 1) := by decide +kernel
theorem dL_setPattern_4 : decode cL_setPattern 4 = .ok (.invokevirtual 19, 3) := by decide +kernel
theorem dL_setPattern_7 : decode cL_setPattern 7 = .ok (.i2l, 1) := by decide +kernel
theorem dL_setPattern_8 : decode cL_setPattern 8 = .ok (.lastore, 1) := by decide +kernel
theorem dL_setPattern_9 : decode cL_setPattern 9 = .ok (.goto 6, 3) := by decide +kernel
theorem dL_setPattern_15 : decode cL_setPattern 15 = .ok (.iconst 0, 1) := by decide +kernel
theorem dL_setPattern_16 : decode cL_setPattern 16 = .ok (.ireturn, 1) := by decide +kernel
theorem dL_setThickness_0 : decode cL_setThickness 0 = .ok (.aload_n 3, 1) := by decide +kernel
theorem dL_setThickness_1 : decode cL_setThickness 1 = .ok (.iconst 0, 1) := by decide +kernel
theorem dL_setThickness_2 : decode cL_setThickness 2 = .ok (.aload_n 0, 1) := by decide +kernel
theorem dL_setThickness_3 : decode cL_setThickness 3 = .ok (.iload_n 1, 1) := by decide +kernel
theorem dL_setThickness_4 : decode cL_setThickness 4 = .ok (.iload_n 2, 1) := by decide +kernel
theorem dL_setThickness_5 : decode cL_setThickness 5 = .ok (.invokevirtual 23, 3) := by decide +kernel
theorem dL_setThickness_8 : decode cL_setThickness 8 = .ok (.i2l, 1) := by decide +kernel
theorem dL_setThickness_9 : decode cL_setThickness 9 = .ok (.lastore, 1) := by decide +kernel
theorem dL_setThickness_10 : decode cL_setThickness 10 = .ok (.goto 11, 3) := by decide +kernel
theorem dL_setThickness_21 : decode cL_setThickness 21 = .ok (.iconst 0, 1) := by decide +kernel
theorem dL_setThickness_22 : decode cL_setThickness 22 = .ok (.ireturn, 1) := by decide +kernel
theorem dL_setPause_0 : decode cL_setPause 0 = .ok (.aload_n 3, 1) := by decide +kernel
theorem dL_setPause_1 : decode cL_setPause 1 = .ok (.iconst 0, 1) := by decide +kernel
theorem dL_setPause_2 : decode cL_setPause 2 = .ok (.aload_n 0, 1) := by decide +kernel
theorem dL_setPause_3 : decode cL_setPause 3 = .ok (.iload_n 1, 1) := by decide +kernel
theorem dL_setPause_4 : decode cL_setPause 4 = .ok (.iload_n 2, 1) := by decide +kernel
theorem dL_setPause_5 : decode cL_setPause 5 = .ok (.invokevirtual 29, 3) := by decide +kernel
theorem dL_setPause_8 : decode cL_setPause 8 = .ok (.ifCond .eq 7, 3) := by decide +kernel
theorem dL_setPause_11 : decode cL_setPause 11 = .ok (.lconst 1, 1) := by decide +kernel
theorem dL_setPause_12 : decode cL_setPause 12 = .ok (.goto 4, 3) := by decide +kernel
theorem dL_setPause_15 : decode cL_setPause 15 = .ok (.lconst 0, 1) := by decide +kernel
theorem dL_setPause_16 : decode cL_setPause 16 = .ok (.lastore, 1) := by decide +kernel
theorem dL_setPause_17 : decode cL_setPause 17 = .ok (.goto 7, 3) := by decide +kernel
theorem dL_setPause_24 : decode cL_setPause 24 = .ok (.iconst 0, 1) := by decide +kernel
theorem dL_setPause_25 : decode cL_setPause 25 = .ok (.ireturn, 1) := by decide +kernel
theorem dL_kindAt_0 : decode cL_kindAt 0 = .ok (.aload 4, 2) := by decide +kernel
theorem dL_kindAt_2 : decode cL_kindAt 2 = .ok (.iconst 0, 1) := by decide +kernel
theorem dL_kindAt_3 : decode cL_kindAt 3 = .ok (.aload_n 0, 1) := by decide +kernel
theorem dL_kindAt_4 : decode cL_kindAt 4 = .ok (.iload_n 1, 1) := by decide +kernel
theorem dL_kindAt_5 : decode cL_kindAt 5 = .ok (.iload_n 2, 1) := by decide +kernel
theorem dL_kindAt_6 : decode cL_kindAt 6 = .ok (.iload_n 3, 1) := by decide +kernel
theorem dL_kindAt_7 : decode cL_kindAt 7 = .ok (.invokevirtual 33, 3) := by decide +kernel
theorem dL_kindAt_10 : decode cL_kindAt 10 = .ok (.i2l, 1) := by decide +kernel
theorem dL_kindAt_11 : decode cL_kindAt 11 = .ok (.lastore, 1) := by decide +kernel
theorem dL_kindAt_12 : decode cL_kindAt 12 = .ok (.goto 7, 3) := by decide +kernel
theorem dL_kindAt_19 : decode cL_kindAt 19 = .ok (.iconst 0, 1) := by decide +kernel
theorem dL_kindAt_20 : decode cL_kindAt 20 = .ok (.ireturn, 1) := by decide +kernel
theorem dL_hanging_0 : decode cL_hanging 0 = .ok (.aload_n 2, 1) := by decide +kernel
theorem dL_hanging_1 : decode cL_hanging 1 = .ok (.iconst 0, 1) := by decide +kernel
theorem dL_hanging_2 : decode cL_hanging 2 = .ok (.aload_n 0, 1) := by decide +kernel
theorem dL_hanging_3 : decode cL_hanging 3 = .ok (.iload_n 1, 1) := by decide +kernel
theorem dL_hanging_4 : decode cL_hanging 4 = .ok (.invokevirtual 37, 3) := by decide +kernel
theorem dL_hanging_7 : decode cL_hanging 7 = .ok (.i2l, 1) := by decide +kernel
theorem dL_hanging_8 : decode cL_hanging 8 = .ok (.lastore, 1) := by decide +kernel
theorem dL_hanging_9 : decode cL_hanging 9 = .ok (.goto 6, 3) := by decide +kernel
theorem dL_hanging_15 : decode cL_hanging 15 = .ok (.iconst 0, 1) := by decide +kernel
theorem dL_hanging_16 : decode cL_hanging 16 = .ok (.ireturn, 1) := by decide +kernel
theorem dL_outer_0 : decode cL_outer 0 = .ok (.aload_n 2, 1) := by decide +kernel
theorem dL_outer_1 : decode cL_outer 1 = .ok (.iconst 0, 1) := by decide +kernel
theorem dL_outer_2 : decode cL_outer 2 = .ok (.aload_n 0, 1) := by decide +kernel
theorem dL_outer_3 : decode cL_outer 3 = .ok (.iload_n 1, 1) := by decide +kernel
theorem dL_outer_4 : decode cL_outer 4 = .ok (.invokevirtual 41, 3) := by decide +kernel
theorem dL_outer_7 : decode cL_outer 7 = .ok (.i2l, 1) := by decide +kernel
theorem dL_outer_8 : decode cL_outer 8 = .ok (.lastore, 1) := by decide +kernel
theorem dL_outer_9 : decode cL_outer 9 = .ok (.goto 6, 3) := by decide +kernel
theorem dL_outer_15 : decode cL_outer 15 = .ok (.iconst 0, 1) := by decide +kernel
theorem dL_outer_16 : decode cL_outer 16 = .ok (.ireturn, 1) := by decide +kernel
theorem dL_inner_0 : decode cL_inner 0 = .ok (.aload_n 2, 1) := by decide +kernel
theorem dL_inner_1 : decode cL_inner 1 = .ok (.iconst 0, 1) := by decide +kernel
theorem dL_inner_2 : decode cL_inner 2 = .ok (.aload_n 0, 1) := by decide +kernel
theorem dL_inner_3 : decode cL_inner 3 = .ok (.iload_n 1, 1) := by decide +kernel
theorem dL_inner_4 : decode cL_inner 4 = .ok (.invokevirtual 44, 3) := by decide +kernel
theorem dL_inner_7 : decode cL_inner 7 = .ok (.i2l, 1) := by decide +kernel
theorem dL_inner_8 : decode cL_inner 8 = .ok (.lastore, 1) := by decide +kernel
theorem dL_inner_9 : decode cL_inner 9 = .ok (.goto 6, 3) := by decide +kernel
theorem dL_inner_15 : decode cL_inner 15 = .ok (.iconst 0, 1) := by decide +kernel
theorem dL_inner_16 : decode cL_inner 16 = .ok (.ireturn, 1) := by decide +kernel
theorem dL_outlinesByEdges_0 : decode cL_outlinesByEdges 0 = .ok (.aload_n 2, 1) := by decide +kernel
theorem dL_outlinesByEdges_1 : decode cL_outlinesByEdges 1 = .ok (.iconst 0, 1) := by decide +kernel
theorem dL_outlinesByEdges_2 : decode cL_outlinesByEdges 2 = .ok (.aload_n 0, 1) := by decide +kernel
theorem dL_outlinesByEdges_3 : decode cL_outlinesByEdges 3 = .ok (.iload_n 1, 1) := by decide +kernel
theorem dL_outlinesByEdges_4 : decode cL_outlinesByEdges 4 = .ok (.invokevirtual 47, 3) := by decide +kernel
theorem dL_outlinesByEdges_7 : decode cL_outlinesByEdges 7 = .ok (.i2l, 1) := by decide +kernel
theorem dL_outlinesByEdges_8 : decode cL_outlinesByEdges 8 = .ok (.lastore, 1) := by decide +kernel
theorem dL_outlinesByEdges_9 : decode cL_outlinesByEdges 9 = .ok (.goto 6, 3) := by decide +kernel
theorem dL_outlinesByEdges_15 : decode cL_outlinesByEdges 15 = .ok (.iconst 0, 1) := by decide +kernel
theorem dL_outlinesByEdges_16 : decode cL_outlinesByEdges 16 = .ok (.ireturn, 1) := by decide +kernel
theorem dL_edges_0 : decode cL_edges 0 = .ok (.aload_n 2, 1) := by decide +kernel
theorem dL_edges_1 : decode cL_edges 1 = .ok (.iconst 0, 1) := by decide +kernel
theorem dL_edges_2 : decode cL_edges 2 = .ok (.aload_n 0, 1) := by decide +kernel
theorem dL_edges_3 : decode cL_edges 3 = .ok (.iload_n 1, 1) := by decide +kernel
theorem dL_edges_4 : decode cL_edges 4 = .ok (.invokevirtual 50, 3) := by decide +kernel
theorem dL_edges_7 : decode cL_edges 7 = .ok (.i2l, 1) := by decide +kernel
theorem dL_edges_8 : decode cL_edges 8 = .ok (.lastore, 1) := by decide +kernel
theorem dL_edges_9 : decode cL_edges 9 = .ok (.goto 6, 3) := by decide +kernel
theorem dL_edges_15 : decode cL_edges 15 = .ok (.iconst 0, 1) := by decide +kernel
theorem dL_edges_16 : decode cL_edges 16 = .ok (.ireturn, 1) := by decide +kernel
theorem dL_strokes_0 : decode cL_strokes 0 = .ok (.aload_n 2, 1) := by decide +kernel
theorem dL_strokes_1 : decode cL_strokes 1 = .ok (.iconst 0, 1) := by decide +kernel
theorem dL_strokes_2 : decode cL_strokes 2 = .ok (.aload_n 0, 1) := by decide +kernel
theorem dL_strokes_3 : decode cL_strokes 3 = .ok (.iload_n 1, 1) := by decide +kernel
theorem dL_strokes_4 : decode cL_strokes 4 = .ok (.invokevirtual 53, 3) := by decide +kernel
theorem dL_strokes_7 : decode cL_strokes 7 = .ok (.i2l, 1) := by decide +kernel
theorem dL_strokes_8 : decode cL_strokes 8 = .ok (.lastore, 1) := by decide +kernel
theorem dL_strokes_9 : decode cL_strokes 9 = .ok (.goto 6, 3) := by decide +kernel
theorem dL_strokes_15 : decode cL_strokes 15 = .ok (.iconst 0, 1) := by decide +kernel
theorem dL_strokes_16 : decode cL_strokes 16 = .ok (.ireturn, 1) := by decide +kernel
theorem dL_plan_0 : decode cL_plan 0 = .ok (.aload_n 1, 1) := by decide +kernel
theorem dL_plan_1 : decode cL_plan 1 = .ok (.iconst 0, 1) := by decide +kernel
theorem dL_plan_2 : decode cL_plan 2 = .ok (.aload_n 0, 1) := by decide +kernel
theorem dL_plan_3 : decode cL_plan 3 = .ok (.invokevirtual 56, 3) := by decide +kernel
theorem dL_plan_6 : decode cL_plan 6 = .ok (.i2l, 1) := by decide +kernel
theorem dL_plan_7 : decode cL_plan 7 = .ok (.lastore, 1) := by decide +kernel
theorem dL_plan_8 : decode cL_plan 8 = .ok (.goto 6, 3) := by decide +kernel
theorem dL_plan_14 : decode cL_plan 14 = .ok (.iconst 0, 1) := by decide +kernel
theorem dL_plan_15 : decode cL_plan 15 = .ok (.ireturn, 1) := by decide +kernel
theorem dL_commandAt_0 : decode cL_commandAt 0 = .ok (.aload_n 2, 1) := by decide +kernel
theorem dL_commandAt_1 : decode cL_commandAt 1 = .ok (.iconst 0, 1) := by decide +kernel
theorem dL_commandAt_2 : decode cL_commandAt 2 = .ok (.aload_n 0, 1) := by decide +kernel
theorem dL_commandAt_3 : decode cL_commandAt 3 = .ok (.iload_n 1, 1) := by decide +kernel
theorem dL_commandAt_4 : decode cL_commandAt 4 = .ok (.invokevirtual 62, 3) := by decide +kernel
theorem dL_commandAt_7 : decode cL_commandAt 7 = .ok (.i2l, 1) := by decide +kernel
theorem dL_commandAt_8 : decode cL_commandAt 8 = .ok (.lastore, 1) := by decide +kernel
theorem dL_commandAt_9 : decode cL_commandAt 9 = .ok (.goto 6, 3) := by decide +kernel
theorem dL_commandAt_15 : decode cL_commandAt 15 = .ok (.iconst 0, 1) := by decide +kernel
theorem dL_commandAt_16 : decode cL_commandAt 16 = .ok (.ireturn, 1) := by decide +kernel
theorem dL_numberAt_0 : decode cL_numberAt 0 = .ok (.aload_n 3, 1) := by decide +kernel
theorem dL_numberAt_1 : decode cL_numberAt 1 = .ok (.iconst 0, 1) := by decide +kernel
theorem dL_numberAt_2 : decode cL_numberAt 2 = .ok (.aload_n 0, 1) := by decide +kernel
theorem dL_numberAt_3 : decode cL_numberAt 3 = .ok (.iload_n 1, 1) := by decide +kernel
theorem dL_numberAt_4 : decode cL_numberAt 4 = .ok (.iload_n 2, 1) := by decide +kernel
theorem dL_numberAt_5 : decode cL_numberAt 5 = .ok (.invokevirtual 66, 3) := by decide +kernel
theorem dL_numberAt_8 : decode cL_numberAt 8 = .ok (.i2l, 1) := by decide +kernel
theorem dL_numberAt_9 : decode cL_numberAt 9 = .ok (.lastore, 1) := by decide +kernel
theorem dL_numberAt_10 : decode cL_numberAt 10 = .ok (.goto 15, 3) := by decide +kernel
theorem dL_numberAt_25 : decode cL_numberAt 25 = .ok (.iconst 0, 1) := by decide +kernel
theorem dL_numberAt_26 : decode cL_numberAt 26 = .ok (.ireturn, 1) := by decide +kernel
theorem dL_setTarget_0 : decode cL_setTarget 0 = .ok (.aload_n 2, 1) := by decide +kernel
theorem dL_setTarget_1 : decode cL_setTarget 1 = .ok (.iconst 0, 1) := by decide +kernel
theorem dL_setTarget_2 : decode cL_setTarget 2 = .ok (.aload_n 0, 1) := by decide +kernel
theorem dL_setTarget_3 : decode cL_setTarget 3 = .ok (.iload_n 1, 1) := by decide +kernel
theorem dL_setTarget_4 : decode cL_setTarget 4 = .ok (.invokevirtual 72, 3) := by decide +kernel
theorem dL_setTarget_7 : decode cL_setTarget 7 = .ok (.i2l, 1) := by decide +kernel
theorem dL_setTarget_8 : decode cL_setTarget 8 = .ok (.lastore, 1) := by decide +kernel
theorem dL_setTarget_9 : decode cL_setTarget 9 = .ok (.goto 9, 3) := by decide +kernel
theorem dL_setTarget_18 : decode cL_setTarget 18 = .ok (.iconst 0, 1) := by decide +kernel
theorem dL_setTarget_19 : decode cL_setTarget 19 = .ok (.ireturn, 1) := by decide +kernel
theorem dL_print_0 : decode cL_print 0 = .ok (.aload_n 1, 1) := by decide +kernel
theorem dL_print_1 : decode cL_print 1 = .ok (.iconst 0, 1) := by decide +kernel
theorem dL_print_2 : decode cL_print 2 = .ok (.aload_n 0, 1) := by decide +kernel
theorem dL_print_3 : decode cL_print 3 = .ok (.invokevirtual 75, 3) := by decide +kernel
theorem dL_print_6 : decode cL_print 6 = .ok (.i2l, 1) := by decide +kernel
theorem dL_print_7 : decode cL_print 7 = .ok (.lastore, 1) := by decide +kernel
theorem dL_print_8 : decode cL_print 8 = .ok (.goto 6, 3) := by decide +kernel
theorem dL_print_14 : decode cL_print 14 = .ok (.iconst 0, 1) := by decide +kernel
theorem dL_print_15 : decode cL_print 15 = .ok (.ireturn, 1) := by decide +kernel
theorem dL_pass_0 : decode cL_pass 0 = .ok (.aload_n 2, 1) := by decide +kernel
theorem dL_pass_1 : decode cL_pass 1 = .ok (.iconst 0, 1) := by decide +kernel
theorem dL_pass_2 : decode cL_pass 2 = .ok (.aload_n 0, 1) := by decide +kernel
theorem dL_pass_3 : decode cL_pass 3 = .ok (.iload_n 1, 1) := by decide +kernel
theorem dL_pass_4 : decode cL_pass 4 = .ok (.invokevirtual 78, 3) := by decide +kernel
theorem dL_pass_7 : decode cL_pass 7 = .ok (.i2l, 1) := by decide +kernel
theorem dL_pass_8 : decode cL_pass 8 = .ok (.lastore, 1) := by decide +kernel
theorem dL_pass_9 : decode cL_pass 9 = .ok (.goto 6, 3) := by decide +kernel
theorem dL_pass_15 : decode cL_pass 15 = .ok (.iconst 0, 1) := by decide +kernel
theorem dL_pass_16 : decode cL_pass 16 = .ok (.ireturn, 1) := by decide +kernel
theorem dL_goOn_0 : decode cL_goOn 0 = .ok (.aload_n 1, 1) := by decide +kernel
theorem dL_goOn_1 : decode cL_goOn 1 = .ok (.iconst 0, 1) := by decide +kernel
theorem dL_goOn_2 : decode cL_goOn 2 = .ok (.aload_n 0, 1) := by decide +kernel
theorem dL_goOn_3 : decode cL_goOn 3 = .ok (.invokevirtual 81, 3) := by decide +kernel
theorem dL_goOn_6 : decode cL_goOn 6 = .ok (.i2l, 1) := by decide +kernel
theorem dL_goOn_7 : decode cL_goOn 7 = .ok (.lastore, 1) := by decide +kernel
theorem dL_goOn_8 : decode cL_goOn 8 = .ok (.goto 6, 3) := by decide +kernel
theorem dL_goOn_14 : decode cL_goOn 14 = .ok (.iconst 0, 1) := by decide +kernel
theorem dL_goOn_15 : decode cL_goOn 15 = .ok (.ireturn, 1) := by decide +kernel
theorem dL_fail_0 : decode cL_fail 0 = .ok (.aload_n 1, 1) := by decide +kernel
theorem dL_fail_1 : decode cL_fail 1 = .ok (.iconst 0, 1) := by decide +kernel
theorem dL_fail_2 : decode cL_fail 2 = .ok (.aload_n 0, 1) := by decide +kernel
theorem dL_fail_3 : decode cL_fail 3 = .ok (.invokevirtual 84, 3) := by decide +kernel
theorem dL_fail_6 : decode cL_fail 6 = .ok (.i2l, 1) := by decide +kernel
theorem dL_fail_7 : decode cL_fail 7 = .ok (.lastore, 1) := by decide +kernel
theorem dL_fail_8 : decode cL_fail 8 = .ok (.goto 6, 3) := by decide +kernel
theorem dL_fail_14 : decode cL_fail 14 = .ok (.iconst 0, 1) := by decide +kernel
theorem dL_fail_15 : decode cL_fail 15 = .ok (.ireturn, 1) := by decide +kernel
theorem dL_mend_0 : decode cL_mend 0 = .ok (.aload_n 1, 1) := by decide +kernel
theorem dL_mend_1 : decode cL_mend 1 = .ok (.iconst 0, 1) := by decide +kernel
theorem dL_mend_2 : decode cL_mend 2 = .ok (.aload_n 0, 1) := by decide +kernel
theorem dL_mend_3 : decode cL_mend 3 = .ok (.invokevirtual 88, 3) := by decide +kernel
theorem dL_mend_6 : decode cL_mend 6 = .ok (.i2l, 1) := by decide +kernel
theorem dL_mend_7 : decode cL_mend 7 = .ok (.lastore, 1) := by decide +kernel
theorem dL_mend_8 : decode cL_mend 8 = .ok (.goto 6, 3) := by decide +kernel
theorem dL_mend_14 : decode cL_mend 14 = .ok (.iconst 0, 1) := by decide +kernel
theorem dL_mend_15 : decode cL_mend 15 = .ok (.ireturn, 1) := by decide +kernel
theorem dL_resume_0 : decode cL_resume 0 = .ok (.aload_n 1, 1) := by decide +kernel
theorem dL_resume_1 : decode cL_resume 1 = .ok (.iconst 0, 1) := by decide +kernel
theorem dL_resume_2 : decode cL_resume 2 = .ok (.aload_n 0, 1) := by decide +kernel
theorem dL_resume_3 : decode cL_resume 3 = .ok (.invokevirtual 91, 3) := by decide +kernel
theorem dL_resume_6 : decode cL_resume 6 = .ok (.i2l, 1) := by decide +kernel
theorem dL_resume_7 : decode cL_resume 7 = .ok (.lastore, 1) := by decide +kernel
theorem dL_resume_8 : decode cL_resume 8 = .ok (.goto 6, 3) := by decide +kernel
theorem dL_resume_14 : decode cL_resume 14 = .ok (.iconst 0, 1) := by decide +kernel
theorem dL_resume_15 : decode cL_resume 15 = .ok (.ireturn, 1) := by decide +kernel
theorem dL_laid_0 : decode cL_laid 0 = .ok (.aload 4, 2) := by decide +kernel
theorem dL_laid_2 : decode cL_laid 2 = .ok (.iconst 0, 1) := by decide +kernel
theorem dL_laid_3 : decode cL_laid 3 = .ok (.aload_n 0, 1) := by decide +kernel
theorem dL_laid_4 : decode cL_laid 4 = .ok (.iload_n 1, 1) := by decide +kernel
theorem dL_laid_5 : decode cL_laid 5 = .ok (.iload_n 2, 1) := by decide +kernel
theorem dL_laid_6 : decode cL_laid 6 = .ok (.iload_n 3, 1) := by decide +kernel
theorem dL_laid_7 : decode cL_laid 7 = .ok (.invokevirtual 94, 3) := by decide +kernel
theorem dL_laid_10 : decode cL_laid 10 = .ok (.i2l, 1) := by decide +kernel
theorem dL_laid_11 : decode cL_laid 11 = .ok (.lastore, 1) := by decide +kernel
theorem dL_laid_12 : decode cL_laid 12 = .ok (.goto 7, 3) := by decide +kernel
theorem dL_laid_19 : decode cL_laid 19 = .ok (.iconst 0, 1) := by decide +kernel
theorem dL_laid_20 : decode cL_laid 20 = .ok (.ireturn, 1) := by decide +kernel
theorem dL_emptyShare_0 : decode cL_emptyShare 0 = .ok (.aload_n 1, 1) := by decide +kernel
theorem dL_emptyShare_1 : decode cL_emptyShare 1 = .ok (.iconst 0, 1) := by decide +kernel
theorem dL_emptyShare_2 : decode cL_emptyShare 2 = .ok (.aload_n 0, 1) := by decide +kernel
theorem dL_emptyShare_3 : decode cL_emptyShare 3 = .ok (.invokevirtual 98, 3) := by decide +kernel
theorem dL_emptyShare_6 : decode cL_emptyShare 6 = .ok (.f2d, 1) := by decide +kernel
theorem dL_emptyShare_7 : decode cL_emptyShare 7 = .ok (.dastore, 1) := by decide +kernel
theorem dL_emptyShare_8 : decode cL_emptyShare 8 = .ok (.goto 6, 3) := by decide +kernel
theorem dL_emptyShare_14 : decode cL_emptyShare 14 = .ok (.iconst 0, 1) := by decide +kernel
theorem dL_emptyShare_15 : decode cL_emptyShare 15 = .ok (.ireturn, 1) := by decide +kernel
theorem dL_meanStroke_0 : decode cL_meanStroke 0 = .ok (.aload_n 1, 1) := by decide +kernel
theorem dL_meanStroke_1 : decode cL_meanStroke 1 = .ok (.iconst 0, 1) := by decide +kernel
theorem dL_meanStroke_2 : decode cL_meanStroke 2 = .ok (.aload_n 0, 1) := by decide +kernel
theorem dL_meanStroke_3 : decode cL_meanStroke 3 = .ok (.invokevirtual 104, 3) := by decide +kernel
theorem dL_meanStroke_6 : decode cL_meanStroke 6 = .ok (.dastore, 1) := by decide +kernel
theorem dL_meanStroke_7 : decode cL_meanStroke 7 = .ok (.goto 6, 3) := by decide +kernel
theorem dL_meanStroke_13 : decode cL_meanStroke 13 = .ok (.iconst 0, 1) := by decide +kernel
theorem dL_meanStroke_14 : decode cL_meanStroke 14 = .ok (.ireturn, 1) := by decide +kernel
theorem dL_law_0 : decode cL_law 0 = .ok (.new 8, 3) := by decide +kernel
theorem dL_law_3 : decode cL_law 3 = .ok (.dup, 1) := by decide +kernel
theorem dL_law_4 : decode cL_law 4 = .ok (.invokespecial 108, 3) := by decide +kernel
theorem dL_law_7 : decode cL_law 7 = .ok (.astore_n 1, 1) := by decide +kernel
theorem dL_law_8 : decode cL_law 8 = .ok (.new 109, 3) := by decide +kernel
theorem dL_law_11 : decode cL_law 11 = .ok (.dup, 1) := by decide +kernel
theorem dL_law_12 : decode cL_law 12 = .ok (.invokespecial 111, 3) := by decide +kernel
theorem dL_law_15 : decode cL_law 15 = .ok (.astore_n 2, 1) := by decide +kernel
theorem dL_law_16 : decode cL_law 16 = .ok (.iconst 1, 1) := by decide +kernel
theorem dL_law_17 : decode cL_law 17 = .ok (.newarray .long, 2) := by decide +kernel
theorem dL_law_19 : decode cL_law 19 = .ok (.astore_n 3, 1) := by decide +kernel
theorem dL_law_20 : decode cL_law 20 = .ok (.iconst 1, 1) := by decide +kernel
theorem dL_law_21 : decode cL_law 21 = .ok (.newarray .double, 2) := by decide +kernel
theorem dL_law_23 : decode cL_law 23 = .ok (.astore 4, 2) := by decide +kernel
theorem dL_law_25 : decode cL_law 25 = .ok (.iconst 0, 1) := by decide +kernel
theorem dL_law_26 : decode cL_law 26 = .ok (.istore 5, 2) := by decide +kernel
theorem dL_law_28 : decode cL_law 28 = .ok (.iload 5, 2) := by decide +kernel
theorem dL_law_30 : decode cL_law 30 = .ok (.aload_n 0, 1) := by decide +kernel
theorem dL_law_31 : decode cL_law 31 = .ok (.arraylength, 1) := by decide +kernel
theorem dL_law_32 : decode cL_law 32 = .ok (.bipush 8, 2) := by decide +kernel
theorem dL_law_34 : decode cL_law 34 = .ok (.isub, 1) := by decide +kernel
theorem dL_law_35 : decode cL_law 35 = .ok (.if_icmp .gt 1868, 3) := by decide +kernel
theorem dL_law_38 : decode cL_law 38 = .ok (.aload_n 0, 1) := by decide +kernel
theorem dL_law_39 : decode cL_law 39 = .ok (.iload 5, 2) := by decide +kernel
theorem dL_law_41 : decode cL_law 41 = .ok (.iaload, 1) := by decide +kernel
theorem dL_law_42 : decode cL_law 42 = .ok (.bipush 63, 2) := by decide +kernel
theorem dL_law_44 : decode cL_law 44 = .ok (.iand, 1) := by decide +kernel
theorem dL_law_45 : decode cL_law 45 = .ok (.tableswitch 1852 0 34 #[155, 303, 373, 431, 499, 590, 670, 726, 782, 838, 894, 950, 1006, 1050, 1063, 1119, 1189, 1202, 1216, 1272, 1316, 1372, 1416, 1460, 1504, 1517, 1561, 1574, 1587, 1600, 1613, 1627, 1707, 1721, 1787], 155) := by decide +kernel
theorem dL_law_200 : decode cL_law 200 = .ok (.aload_n 1, 1) := by decide +kernel
theorem dL_law_201 : decode cL_law 201 = .ok (.aload_n 0, 1) := by decide +kernel
theorem dL_law_202 : decode cL_law 202 = .ok (.iload 5, 2) := by decide +kernel
theorem dL_law_204 : decode cL_law 204 = .ok (.iconst 1, 1) := by decide +kernel
theorem dL_law_205 : decode cL_law 205 = .ok (.iadd, 1) := by decide +kernel
theorem dL_law_206 : decode cL_law 206 = .ok (.iaload, 1) := by decide +kernel
theorem dL_law_207 : decode cL_law 207 = .ok (.aload_n 0, 1) := by decide +kernel
theorem dL_law_208 : decode cL_law 208 = .ok (.iload 5, 2) := by decide +kernel
theorem dL_law_210 : decode cL_law 210 = .ok (.iconst 2, 1) := by decide +kernel
theorem dL_law_211 : decode cL_law 211 = .ok (.iadd, 1) := by decide +kernel
theorem dL_law_212 : decode cL_law 212 = .ok (.iaload, 1) := by decide +kernel
theorem dL_law_213 : decode cL_law 213 = .ok (.aload_n 0, 1) := by decide +kernel
theorem dL_law_214 : decode cL_law 214 = .ok (.iload 5, 2) := by decide +kernel
theorem dL_law_216 : decode cL_law 216 = .ok (.iconst 3, 1) := by decide +kernel
theorem dL_law_217 : decode cL_law 217 = .ok (.iadd, 1) := by decide +kernel
theorem dL_law_218 : decode cL_law 218 = .ok (.iaload, 1) := by decide +kernel
theorem dL_law_219 : decode cL_law 219 = .ok (.aload_n 0, 1) := by decide +kernel
theorem dL_law_220 : decode cL_law 220 = .ok (.iload 5, 2) := by decide +kernel
theorem dL_law_222 : decode cL_law 222 = .ok (.iconst 4, 1) := by decide +kernel
theorem dL_law_223 : decode cL_law 223 = .ok (.iadd, 1) := by decide +kernel
theorem dL_law_224 : decode cL_law 224 = .ok (.iaload, 1) := by decide +kernel
theorem dL_law_225 : decode cL_law 225 = .ok (.aload_n 0, 1) := by decide +kernel
theorem dL_law_226 : decode cL_law 226 = .ok (.iload 5, 2) := by decide +kernel
theorem dL_law_228 : decode cL_law 228 = .ok (.iconst 5, 1) := by decide +kernel
theorem dL_law_229 : decode cL_law 229 = .ok (.iadd, 1) := by decide +kernel
theorem dL_law_230 : decode cL_law 230 = .ok (.iaload, 1) := by decide +kernel
theorem dL_law_231 : decode cL_law 231 = .ok (.aload_n 0, 1) := by decide +kernel
theorem dL_law_232 : decode cL_law 232 = .ok (.iload 5, 2) := by decide +kernel
theorem dL_law_234 : decode cL_law 234 = .ok (.bipush 6, 2) := by decide +kernel
theorem dL_law_236 : decode cL_law 236 = .ok (.iadd, 1) := by decide +kernel
theorem dL_law_237 : decode cL_law 237 = .ok (.iaload, 1) := by decide +kernel
theorem dL_law_238 : decode cL_law 238 = .ok (.aload_n 0, 1) := by decide +kernel
theorem dL_law_239 : decode cL_law 239 = .ok (.iload 5, 2) := by decide +kernel
theorem dL_law_241 : decode cL_law 241 = .ok (.bipush 7, 2) := by decide +kernel
theorem dL_law_243 : decode cL_law 243 = .ok (.iadd, 1) := by decide +kernel
theorem dL_law_244 : decode cL_law 244 = .ok (.iaload, 1) := by decide +kernel
theorem dL_law_245 : decode cL_law 245 = .ok (.ifCond .eq 7, 3) := by decide +kernel
theorem dL_law_248 : decode cL_law 248 = .ok (.iconst 1, 1) := by decide +kernel
theorem dL_law_249 : decode cL_law 249 = .ok (.goto 4, 3) := by decide +kernel
theorem dL_law_252 : decode cL_law 252 = .ok (.iconst 0, 1) := by decide +kernel
theorem dL_law_253 : decode cL_law 253 = .ok (.aload_n 3, 1) := by decide +kernel
theorem dL_law_254 : decode cL_law 254 = .ok (.invokestatic 112, 3) := by decide +kernel
theorem dL_law_257 : decode cL_law 257 = .ok (.istore 6, 2) := by decide +kernel
theorem dL_law_259 : decode cL_law 259 = .ok (.aload_n 2, 1) := by decide +kernel
theorem dL_law_260 : decode cL_law 260 = .ok (.aload_n 0, 1) := by decide +kernel
theorem dL_law_261 : decode cL_law 261 = .ok (.iload 5, 2) := by decide +kernel
theorem dL_law_263 : decode cL_law 263 = .ok (.iconst 1, 1) := by decide +kernel
theorem dL_law_264 : decode cL_law 264 = .ok (.iadd, 1) := by decide +kernel
theorem dL_law_265 : decode cL_law 265 = .ok (.iaload, 1) := by decide +kernel
theorem dL_law_266 : decode cL_law 266 = .ok (.aload_n 0, 1) := by decide +kernel
theorem dL_law_267 : decode cL_law 267 = .ok (.iload 5, 2) := by decide +kernel
theorem dL_law_269 : decode cL_law 269 = .ok (.iconst 2, 1) := by decide +kernel
theorem dL_law_270 : decode cL_law 270 = .ok (.iadd, 1) := by decide +kernel
theorem dL_law_271 : decode cL_law 271 = .ok (.iaload, 1) := by decide +kernel
theorem dL_law_272 : decode cL_law 272 = .ok (.aload_n 0, 1) := by decide +kernel
theorem dL_law_273 : decode cL_law 273 = .ok (.iload 5, 2) := by decide +kernel
theorem dL_law_275 : decode cL_law 275 = .ok (.iconst 3, 1) := by decide +kernel
theorem dL_law_276 : decode cL_law 276 = .ok (.iadd, 1) := by decide +kernel
theorem dL_law_277 : decode cL_law 277 = .ok (.iaload, 1) := by decide +kernel
theorem dL_law_278 : decode cL_law 278 = .ok (.aload_n 0, 1) := by decide +kernel
theorem dL_law_279 : decode cL_law 279 = .ok (.iload 5, 2) := by decide +kernel
theorem dL_law_281 : decode cL_law 281 = .ok (.iconst 4, 1) := by decide +kernel
theorem dL_law_282 : decode cL_law 282 = .ok (.iadd, 1) := by decide +kernel
theorem dL_law_283 : decode cL_law 283 = .ok (.iaload, 1) := by decide +kernel
theorem dL_law_284 : decode cL_law 284 = .ok (.aload_n 0, 1) := by decide +kernel
theorem dL_law_285 : decode cL_law 285 = .ok (.iload 5, 2) := by decide +kernel
theorem dL_law_287 : decode cL_law 287 = .ok (.iconst 5, 1) := by decide +kernel
theorem dL_law_288 : decode cL_law 288 = .ok (.iadd, 1) := by decide +kernel
theorem dL_law_289 : decode cL_law 289 = .ok (.iaload, 1) := by decide +kernel
theorem dL_law_290 : decode cL_law 290 = .ok (.aload_n 0, 1) := by decide +kernel
theorem dL_law_291 : decode cL_law 291 = .ok (.iload 5, 2) := by decide +kernel
theorem dL_law_293 : decode cL_law 293 = .ok (.bipush 6, 2) := by decide +kernel
theorem dL_law_295 : decode cL_law 295 = .ok (.iadd, 1) := by decide +kernel
theorem dL_law_296 : decode cL_law 296 = .ok (.iaload, 1) := by decide +kernel
theorem dL_law_297 : decode cL_law 297 = .ok (.aload_n 0, 1) := by decide +kernel
theorem dL_law_298 : decode cL_law 298 = .ok (.iload 5, 2) := by decide +kernel
theorem dL_law_300 : decode cL_law 300 = .ok (.bipush 7, 2) := by decide +kernel
theorem dL_law_302 : decode cL_law 302 = .ok (.iadd, 1) := by decide +kernel
theorem dL_law_303 : decode cL_law 303 = .ok (.iaload, 1) := by decide +kernel
theorem dL_law_304 : decode cL_law 304 = .ok (.ifCond .eq 7, 3) := by decide +kernel
theorem dL_law_307 : decode cL_law 307 = .ok (.iconst 1, 1) := by decide +kernel
theorem dL_law_308 : decode cL_law 308 = .ok (.goto 4, 3) := by decide +kernel
theorem dL_law_311 : decode cL_law 311 = .ok (.iconst 0, 1) := by decide +kernel
theorem dL_law_312 : decode cL_law 312 = .ok (.invokevirtual 117, 3) := by decide +kernel
theorem dL_law_315 : decode cL_law 315 = .ok (.istore 7, 2) := by decide +kernel
theorem dL_law_317 : decode cL_law 317 = .ok (.aload_n 2, 1) := by decide +kernel
theorem dL_law_318 : decode cL_law 318 = .ok (.invokevirtual 118, 3) := by decide +kernel
theorem dL_law_321 : decode cL_law 321 = .ok (.iload 6, 2) := by decide +kernel
theorem dL_law_323 : decode cL_law 323 = .ok (.if_icmp .eq 5, 3) := by decide +kernel
theorem dL_law_326 : decode cL_law 326 = .ok (.iconst 0, 1) := by decide +kernel
theorem dL_law_327 : decode cL_law 327 = .ok (.ireturn, 1) := by decide +kernel
theorem dL_law_328 : decode cL_law 328 = .ok (.iload 6, 2) := by decide +kernel
theorem dL_law_330 : decode cL_law 330 = .ok (.ifCond .ne 15, 3) := by decide +kernel
theorem dL_law_333 : decode cL_law 333 = .ok (.aload_n 3, 1) := by decide +kernel
theorem dL_law_334 : decode cL_law 334 = .ok (.iconst 0, 1) := by decide +kernel
theorem dL_law_335 : decode cL_law 335 = .ok (.laload, 1) := by decide +kernel
theorem dL_law_336 : decode cL_law 336 = .ok (.iload 7, 2) := by decide +kernel
theorem dL_law_338 : decode cL_law 338 = .ok (.i2l, 1) := by decide +kernel
theorem dL_law_339 : decode cL_law 339 = .ok (.lcmp, 1) := by decide +kernel
theorem dL_law_340 : decode cL_law 340 = .ok (.ifCond .eq 5, 3) := by decide +kernel
theorem dL_law_343 : decode cL_law 343 = .ok (.iconst 0, 1) := by decide +kernel
theorem dL_law_344 : decode cL_law 344 = .ok (.ireturn, 1) := by decide +kernel
theorem dL_law_345 : decode cL_law 345 = .ok (.goto 1552, 3) := by decide +kernel
theorem dL_law_348 : decode cL_law 348 = .ok (.aload_n 1, 1) := by decide +kernel
theorem dL_law_349 : decode cL_law 349 = .ok (.aload_n 0, 1) := by decide +kernel
theorem dL_law_350 : decode cL_law 350 = .ok (.iload 5, 2) := by decide +kernel
theorem dL_law_352 : decode cL_law 352 = .ok (.iconst 1, 1) := by decide +kernel
theorem dL_law_353 : decode cL_law 353 = .ok (.iadd, 1) := by decide +kernel
theorem dL_law_354 : decode cL_law 354 = .ok (.iaload, 1) := by decide +kernel
theorem dL_law_355 : decode cL_law 355 = .ok (.i2c, 1) := by decide +kernel
theorem dL_law_356 : decode cL_law 356 = .ok (.aload_n 0, 1) := by decide +kernel
theorem dL_law_357 : decode cL_law 357 = .ok (.iload 5, 2) := by decide +kernel
theorem dL_law_359 : decode cL_law 359 = .ok (.iconst 2, 1) := by decide +kernel
theorem dL_law_360 : decode cL_law 360 = .ok (.iadd, 1) := by decide +kernel
theorem dL_law_361 : decode cL_law 361 = .ok (.iaload, 1) := by decide +kernel
theorem dL_law_362 : decode cL_law 362 = .ok (.aload_n 3, 1) := by decide +kernel
theorem dL_law_363 : decode cL_law 363 = .ok (.invokestatic 121, 3) := by decide +kernel
theorem dL_law_366 : decode cL_law 366 = .ok (.istore 6, 2) := by decide +kernel
theorem dL_law_368 : decode cL_law 368 = .ok (.aload_n 2, 1) := by decide +kernel
theorem dL_law_369 : decode cL_law 369 = .ok (.aload_n 0, 1) := by decide +kernel
theorem dL_law_370 : decode cL_law 370 = .ok (.iload 5, 2) := by decide +kernel
theorem dL_law_372 : decode cL_law 372 = .ok (.iconst 1, 1) := by decide +kernel
theorem dL_law_373 : decode cL_law 373 = .ok (.iadd, 1) := by decide +kernel
theorem dL_law_374 : decode cL_law 374 = .ok (.iaload, 1) := by decide +kernel
theorem dL_law_375 : decode cL_law 375 = .ok (.i2c, 1) := by decide +kernel
theorem dL_law_376 : decode cL_law 376 = .ok (.aload_n 0, 1) := by decide +kernel
theorem dL_law_377 : decode cL_law 377 = .ok (.iload 5, 2) := by decide +kernel
theorem dL_law_379 : decode cL_law 379 = .ok (.iconst 2, 1) := by decide +kernel
theorem dL_law_380 : decode cL_law 380 = .ok (.iadd, 1) := by decide +kernel
theorem dL_law_381 : decode cL_law 381 = .ok (.iaload, 1) := by decide +kernel
theorem dL_law_382 : decode cL_law 382 = .ok (.invokevirtual 124, 3) := by decide +kernel
theorem dL_law_385 : decode cL_law 385 = .ok (.istore 7, 2) := by decide +kernel
theorem dL_law_387 : decode cL_law 387 = .ok (.aload_n 2, 1) := by decide +kernel
theorem dL_law_388 : decode cL_law 388 = .ok (.invokevirtual 118, 3) := by decide +kernel
theorem dL_law_391 : decode cL_law 391 = .ok (.iload 6, 2) := by decide +kernel
theorem dL_law_393 : decode cL_law 393 = .ok (.if_icmp .eq 5, 3) := by decide +kernel
theorem dL_law_396 : decode cL_law 396 = .ok (.iconst 0, 1) := by decide +kernel
theorem dL_law_397 : decode cL_law 397 = .ok (.ireturn, 1) := by decide +kernel
theorem dL_law_398 : decode cL_law 398 = .ok (.iload 6, 2) := by decide +kernel
theorem dL_law_400 : decode cL_law 400 = .ok (.ifCond .ne 15, 3) := by decide +kernel
theorem dL_law_403 : decode cL_law 403 = .ok (.aload_n 3, 1) := by decide +kernel
theorem dL_law_404 : decode cL_law 404 = .ok (.iconst 0, 1) := by decide +kernel
theorem dL_law_405 : decode cL_law 405 = .ok (.laload, 1) := by decide +kernel
theorem dL_law_406 : decode cL_law 406 = .ok (.iload 7, 2) := by decide +kernel
theorem dL_law_408 : decode cL_law 408 = .ok (.i2l, 1) := by decide +kernel
theorem dL_law_409 : decode cL_law 409 = .ok (.lcmp, 1) := by decide +kernel
theorem dL_law_410 : decode cL_law 410 = .ok (.ifCond .eq 5, 3) := by decide +kernel
theorem dL_law_413 : decode cL_law 413 = .ok (.iconst 0, 1) := by decide +kernel
theorem dL_law_414 : decode cL_law 414 = .ok (.ireturn, 1) := by decide +kernel
theorem dL_law_415 : decode cL_law 415 = .ok (.goto 1482, 3) := by decide +kernel
theorem dL_law_418 : decode cL_law 418 = .ok (.aload_n 1, 1) := by decide +kernel
theorem dL_law_419 : decode cL_law 419 = .ok (.aload_n 0, 1) := by decide +kernel
theorem dL_law_420 : decode cL_law 420 = .ok (.iload 5, 2) := by decide +kernel
theorem dL_law_422 : decode cL_law 422 = .ok (.iconst 1, 1) := by decide +kernel
theorem dL_law_423 : decode cL_law 423 = .ok (.iadd, 1) := by decide +kernel
theorem dL_law_424 : decode cL_law 424 = .ok (.iaload, 1) := by decide +kernel
theorem dL_law_425 : decode cL_law 425 = .ok (.i2c, 1) := by decide +kernel
theorem dL_law_426 : decode cL_law 426 = .ok (.aload_n 3, 1) := by decide +kernel
theorem dL_law_427 : decode cL_law 427 = .ok (.invokestatic 125, 3) := by decide +kernel
theorem dL_law_430 : decode cL_law 430 = .ok (.istore 6, 2) := by decide +kernel
theorem dL_law_432 : decode cL_law 432 = .ok (.aload_n 2, 1) := by decide +kernel
theorem dL_law_433 : decode cL_law 433 = .ok (.aload_n 0, 1) := by decide +kernel
theorem dL_law_434 : decode cL_law 434 = .ok (.iload 5, 2) := by decide +kernel
theorem dL_law_436 : decode cL_law 436 = .ok (.iconst 1, 1) := by decide +kernel
theorem dL_law_437 : decode cL_law 437 = .ok (.iadd, 1) := by decide +kernel
theorem dL_law_438 : decode cL_law 438 = .ok (.iaload, 1) := by decide +kernel
theorem dL_law_439 : decode cL_law 439 = .ok (.i2c, 1) := by decide +kernel
theorem dL_law_440 : decode cL_law 440 = .ok (.invokevirtual 128, 3) := by decide +kernel
theorem dL_law_443 : decode cL_law 443 = .ok (.istore 7, 2) := by decide +kernel
theorem dL_law_445 : decode cL_law 445 = .ok (.aload_n 2, 1) := by decide +kernel
theorem dL_law_446 : decode cL_law 446 = .ok (.invokevirtual 118, 3) := by decide +kernel
theorem dL_law_449 : decode cL_law 449 = .ok (.iload 6, 2) := by decide +kernel
theorem dL_law_451 : decode cL_law 451 = .ok (.if_icmp .eq 5, 3) := by decide +kernel
theorem dL_law_454 : decode cL_law 454 = .ok (.iconst 0, 1) := by decide +kernel
theorem dL_law_455 : decode cL_law 455 = .ok (.ireturn, 1) := by decide +kernel
theorem dL_law_456 : decode cL_law 456 = .ok (.iload 6, 2) := by decide +kernel
theorem dL_law_458 : decode cL_law 458 = .ok (.ifCond .ne 15, 3) := by decide +kernel
theorem dL_law_461 : decode cL_law 461 = .ok (.aload_n 3, 1) := by decide +kernel
theorem dL_law_462 : decode cL_law 462 = .ok (.iconst 0, 1) := by decide +kernel
theorem dL_law_463 : decode cL_law 463 = .ok (.laload, 1) := by decide +kernel
theorem dL_law_464 : decode cL_law 464 = .ok (.iload 7, 2) := by decide +kernel
theorem dL_law_466 : decode cL_law 466 = .ok (.i2l, 1) := by decide +kernel
theorem dL_law_467 : decode cL_law 467 = .ok (.lcmp, 1) := by decide +kernel
theorem dL_law_468 : decode cL_law 468 = .ok (.ifCond .eq 5, 3) := by decide +kernel
theorem dL_law_471 : decode cL_law 471 = .ok (.iconst 0, 1) := by decide +kernel
theorem dL_law_472 : decode cL_law 472 = .ok (.ireturn, 1) := by decide +kernel
theorem dL_law_473 : decode cL_law 473 = .ok (.goto 1424, 3) := by decide +kernel
theorem dL_law_476 : decode cL_law 476 = .ok (.aload_n 1, 1) := by decide +kernel
theorem dL_law_477 : decode cL_law 477 = .ok (.aload_n 0, 1) := by decide +kernel
theorem dL_law_478 : decode cL_law 478 = .ok (.iload 5, 2) := by decide +kernel
theorem dL_law_480 : decode cL_law 480 = .ok (.iconst 1, 1) := by decide +kernel
theorem dL_law_481 : decode cL_law 481 = .ok (.iadd, 1) := by decide +kernel
theorem dL_law_482 : decode cL_law 482 = .ok (.iaload, 1) := by decide +kernel
theorem dL_law_483 : decode cL_law 483 = .ok (.aload_n 0, 1) := by decide +kernel
theorem dL_law_484 : decode cL_law 484 = .ok (.iload 5, 2) := by decide +kernel
theorem dL_law_486 : decode cL_law 486 = .ok (.iconst 2, 1) := by decide +kernel
theorem dL_law_487 : decode cL_law 487 = .ok (.iadd, 1) := by decide +kernel
theorem dL_law_488 : decode cL_law 488 = .ok (.iaload, 1) := by decide +kernel
theorem dL_law_489 : decode cL_law 489 = .ok (.aload_n 3, 1) := by decide +kernel
theorem dL_law_490 : decode cL_law 490 = .ok (.invokestatic 129, 3) := by decide +kernel
theorem dL_law_493 : decode cL_law 493 = .ok (.istore 6, 2) := by decide +kernel
theorem dL_law_495 : decode cL_law 495 = .ok (.aload_n 2, 1) := by decide +kernel
theorem dL_law_496 : decode cL_law 496 = .ok (.aload_n 0, 1) := by decide +kernel
theorem dL_law_497 : decode cL_law 497 = .ok (.iload 5, 2) := by decide +kernel
theorem dL_law_499 : decode cL_law 499 = .ok (.iconst 1, 1) := by decide +kernel
theorem dL_law_500 : decode cL_law 500 = .ok (.iadd, 1) := by decide +kernel
theorem dL_law_501 : decode cL_law 501 = .ok (.iaload, 1) := by decide +kernel
theorem dL_law_502 : decode cL_law 502 = .ok (.aload_n 0, 1) := by decide +kernel
theorem dL_law_503 : decode cL_law 503 = .ok (.iload 5, 2) := by decide +kernel
theorem dL_law_505 : decode cL_law 505 = .ok (.iconst 2, 1) := by decide +kernel
theorem dL_law_506 : decode cL_law 506 = .ok (.iadd, 1) := by decide +kernel
theorem dL_law_507 : decode cL_law 507 = .ok (.iaload, 1) := by decide +kernel
theorem dL_law_508 : decode cL_law 508 = .ok (.invokevirtual 132, 3) := by decide +kernel
theorem dL_law_511 : decode cL_law 511 = .ok (.istore 7, 2) := by decide +kernel
theorem dL_law_513 : decode cL_law 513 = .ok (.aload_n 2, 1) := by decide +kernel
theorem dL_law_514 : decode cL_law 514 = .ok (.invokevirtual 118, 3) := by decide +kernel
theorem dL_law_517 : decode cL_law 517 = .ok (.iload 6, 2) := by decide +kernel
theorem dL_law_519 : decode cL_law 519 = .ok (.if_icmp .eq 5, 3) := by decide +kernel
theorem dL_law_522 : decode cL_law 522 = .ok (.iconst 0, 1) := by decide +kernel
theorem dL_law_523 : decode cL_law 523 = .ok (.ireturn, 1) := by decide +kernel
theorem dL_law_524 : decode cL_law 524 = .ok (.iload 6, 2) := by decide +kernel
theorem dL_law_526 : decode cL_law 526 = .ok (.ifCond .ne 15, 3) := by decide +kernel
theorem dL_law_529 : decode cL_law 529 = .ok (.aload_n 3, 1) := by decide +kernel
theorem dL_law_530 : decode cL_law 530 = .ok (.iconst 0, 1) := by decide +kernel
theorem dL_law_531 : decode cL_law 531 = .ok (.laload, 1) := by decide +kernel
theorem dL_law_532 : decode cL_law 532 = .ok (.iload 7, 2) := by decide +kernel
theorem dL_law_534 : decode cL_law 534 = .ok (.i2l, 1) := by decide +kernel
theorem dL_law_535 : decode cL_law 535 = .ok (.lcmp, 1) := by decide +kernel
theorem dL_law_536 : decode cL_law 536 = .ok (.ifCond .eq 5, 3) := by decide +kernel
theorem dL_law_539 : decode cL_law 539 = .ok (.iconst 0, 1) := by decide +kernel
theorem dL_law_540 : decode cL_law 540 = .ok (.ireturn, 1) := by decide +kernel
theorem dL_law_541 : decode cL_law 541 = .ok (.goto 1356, 3) := by decide +kernel
theorem dL_law_544 : decode cL_law 544 = .ok (.aload_n 1, 1) := by decide +kernel
theorem dL_law_545 : decode cL_law 545 = .ok (.aload_n 0, 1) := by decide +kernel
theorem dL_law_546 : decode cL_law 546 = .ok (.iload 5, 2) := by decide +kernel
theorem dL_law_548 : decode cL_law 548 = .ok (.iconst 1, 1) := by decide +kernel
theorem dL_law_549 : decode cL_law 549 = .ok (.iadd, 1) := by decide +kernel
theorem dL_law_550 : decode cL_law 550 = .ok (.iaload, 1) := by decide +kernel
theorem dL_law_551 : decode cL_law 551 = .ok (.aload_n 0, 1) := by decide +kernel
theorem dL_law_552 : decode cL_law 552 = .ok (.iload 5, 2) := by decide +kernel
theorem dL_law_554 : decode cL_law 554 = .ok (.iconst 2, 1) := by decide +kernel
theorem dL_law_555 : decode cL_law 555 = .ok (.iadd, 1) := by decide +kernel
theorem dL_law_556 : decode cL_law 556 = .ok (.iaload, 1) := by decide +kernel
theorem dL_law_557 : decode cL_law 557 = .ok (.ifCond .eq 7, 3) := by decide +kernel
theorem dL_law_560 : decode cL_law 560 = .ok (.iconst 1, 1) := by decide +kernel
theorem dL_law_561 : decode cL_law 561 = .ok (.goto 4, 3) := by decide +kernel
theorem dL_law_564 : decode cL_law 564 = .ok (.iconst 0, 1) := by decide +kernel
theorem dL_law_565 : decode cL_law 565 = .ok (.aload_n 3, 1) := by decide +kernel
theorem dL_law_566 : decode cL_law 566 = .ok (.invokestatic 133, 3) := by decide +kernel
theorem dL_law_569 : decode cL_law 569 = .ok (.istore 6, 2) := by decide +kernel
theorem dL_law_571 : decode cL_law 571 = .ok (.aload_n 2, 1) := by decide +kernel
theorem dL_law_572 : decode cL_law 572 = .ok (.aload_n 0, 1) := by decide +kernel
theorem dL_law_573 : decode cL_law 573 = .ok (.iload 5, 2) := by decide +kernel
theorem dL_law_575 : decode cL_law 575 = .ok (.iconst 1, 1) := by decide +kernel
theorem dL_law_576 : decode cL_law 576 = .ok (.iadd, 1) := by decide +kernel
theorem dL_law_577 : decode cL_law 577 = .ok (.iaload, 1) := by decide +kernel
theorem dL_law_578 : decode cL_law 578 = .ok (.aload_n 0, 1) := by decide +kernel
theorem dL_law_579 : decode cL_law 579 = .ok (.iload 5, 2) := by decide +kernel
theorem dL_law_581 : decode cL_law 581 = .ok (.iconst 2, 1) := by decide +kernel
theorem dL_law_582 : decode cL_law 582 = .ok (.iadd, 1) := by decide +kernel
theorem dL_law_583 : decode cL_law 583 = .ok (.iaload, 1) := by decide +kernel
theorem dL_law_584 : decode cL_law 584 = .ok (.ifCond .eq 7, 3) := by decide +kernel
theorem dL_law_587 : decode cL_law 587 = .ok (.iconst 1, 1) := by decide +kernel
theorem dL_law_588 : decode cL_law 588 = .ok (.goto 4, 3) := by decide +kernel
theorem dL_law_591 : decode cL_law 591 = .ok (.iconst 0, 1) := by decide +kernel
theorem dL_law_592 : decode cL_law 592 = .ok (.invokevirtual 136, 3) := by decide +kernel
theorem dL_law_595 : decode cL_law 595 = .ok (.istore 7, 2) := by decide +kernel
theorem dL_law_597 : decode cL_law 597 = .ok (.aload_n 2, 1) := by decide +kernel
theorem dL_law_598 : decode cL_law 598 = .ok (.invokevirtual 118, 3) := by decide +kernel
theorem dL_law_601 : decode cL_law 601 = .ok (.iload 6, 2) := by decide +kernel
theorem dL_law_603 : decode cL_law 603 = .ok (.if_icmp .eq 5, 3) := by decide +kernel
theorem dL_law_606 : decode cL_law 606 = .ok (.iconst 0, 1) := by decide +kernel
theorem dL_law_607 : decode cL_law 607 = .ok (.ireturn, 1) := by decide +kernel
theorem dL_law_608 : decode cL_law 608 = .ok (.iload 6, 2) := by decide +kernel
theorem dL_law_610 : decode cL_law 610 = .ok (.ifCond .ne 22, 3) := by decide +kernel
theorem dL_law_613 : decode cL_law 613 = .ok (.aload_n 3, 1) := by decide +kernel
theorem dL_law_614 : decode cL_law 614 = .ok (.iconst 0, 1) := by decide +kernel
theorem dL_law_615 : decode cL_law 615 = .ok (.laload, 1) := by decide +kernel
theorem dL_law_616 : decode cL_law 616 = .ok (.iload 7, 2) := by decide +kernel
theorem dL_law_618 : decode cL_law 618 = .ok (.ifCond .eq 7, 3) := by decide +kernel
theorem dL_law_621 : decode cL_law 621 = .ok (.lconst 1, 1) := by decide +kernel
theorem dL_law_622 : decode cL_law 622 = .ok (.goto 4, 3) := by decide +kernel
theorem dL_law_625 : decode cL_law 625 = .ok (.lconst 0, 1) := by decide +kernel
theorem dL_law_626 : decode cL_law 626 = .ok (.lcmp, 1) := by decide +kernel
theorem dL_law_627 : decode cL_law 627 = .ok (.ifCond .eq 5, 3) := by decide +kernel
theorem dL_law_630 : decode cL_law 630 = .ok (.iconst 0, 1) := by decide +kernel
theorem dL_law_631 : decode cL_law 631 = .ok (.ireturn, 1) := by decide +kernel
theorem dL_law_632 : decode cL_law 632 = .ok (.goto 1265, 3) := by decide +kernel
theorem dL_law_635 : decode cL_law 635 = .ok (.aload_n 1, 1) := by decide +kernel
theorem dL_law_636 : decode cL_law 636 = .ok (.aload_n 0, 1) := by decide +kernel
theorem dL_law_637 : decode cL_law 637 = .ok (.iload 5, 2) := by decide +kernel
theorem dL_law_639 : decode cL_law 639 = .ok (.iconst 1, 1) := by decide +kernel
theorem dL_law_640 : decode cL_law 640 = .ok (.iadd, 1) := by decide +kernel
theorem dL_law_641 : decode cL_law 641 = .ok (.iaload, 1) := by decide +kernel
theorem dL_law_642 : decode cL_law 642 = .ok (.aload_n 0, 1) := by decide +kernel
theorem dL_law_643 : decode cL_law 643 = .ok (.iload 5, 2) := by decide +kernel
theorem dL_law_645 : decode cL_law 645 = .ok (.iconst 2, 1) := by decide +kernel
theorem dL_law_646 : decode cL_law 646 = .ok (.iadd, 1) := by decide +kernel
theorem dL_law_647 : decode cL_law 647 = .ok (.iaload, 1) := by decide +kernel
theorem dL_law_648 : decode cL_law 648 = .ok (.aload_n 0, 1) := by decide +kernel
theorem dL_law_649 : decode cL_law 649 = .ok (.iload 5, 2) := by decide +kernel
theorem dL_law_651 : decode cL_law 651 = .ok (.iconst 3, 1) := by decide +kernel
theorem dL_law_652 : decode cL_law 652 = .ok (.iadd, 1) := by decide +kernel
theorem dL_law_653 : decode cL_law 653 = .ok (.iaload, 1) := by decide +kernel
theorem dL_law_654 : decode cL_law 654 = .ok (.aload_n 3, 1) := by decide +kernel
theorem dL_law_655 : decode cL_law 655 = .ok (.invokestatic 137, 3) := by decide +kernel
theorem dL_law_658 : decode cL_law 658 = .ok (.istore 6, 2) := by decide +kernel
theorem dL_law_660 : decode cL_law 660 = .ok (.aload_n 2, 1) := by decide +kernel
theorem dL_law_661 : decode cL_law 661 = .ok (.aload_n 0, 1) := by decide +kernel
theorem dL_law_662 : decode cL_law 662 = .ok (.iload 5, 2) := by decide +kernel
theorem dL_law_664 : decode cL_law 664 = .ok (.iconst 1, 1) := by decide +kernel
theorem dL_law_665 : decode cL_law 665 = .ok (.iadd, 1) := by decide +kernel
theorem dL_law_666 : decode cL_law 666 = .ok (.iaload, 1) := by decide +kernel
theorem dL_law_667 : decode cL_law 667 = .ok (.aload_n 0, 1) := by decide +kernel
theorem dL_law_668 : decode cL_law 668 = .ok (.iload 5, 2) := by decide +kernel
theorem dL_law_670 : decode cL_law 670 = .ok (.iconst 2, 1) := by decide +kernel
theorem dL_law_671 : decode cL_law 671 = .ok (.iadd, 1) := by decide +kernel
theorem dL_law_672 : decode cL_law 672 = .ok (.iaload, 1) := by decide +kernel
theorem dL_law_673 : decode cL_law 673 = .ok (.aload_n 0, 1) := by decide +kernel
theorem dL_law_674 : decode cL_law 674 = .ok (.iload 5, 2) := by decide +kernel
theorem dL_law_676 : decode cL_law 676 = .ok (.iconst 3, 1) := by decide +kernel
theorem dL_law_677 : decode cL_law 677 = .ok (.iadd, 1) := by decide +kernel
theorem dL_law_678 : decode cL_law 678 = .ok (.iaload, 1) := by decide +kernel
theorem dL_law_679 : decode cL_law 679 = .ok (.invokevirtual 140, 3) := by decide +kernel
theorem dL_law_682 : decode cL_law 682 = .ok (.istore 7, 2) := by decide +kernel
theorem dL_law_684 : decode cL_law 684 = .ok (.aload_n 2, 1) := by decide +kernel
theorem dL_law_685 : decode cL_law 685 = .ok (.invokevirtual 118, 3) := by decide +kernel
theorem dL_law_688 : decode cL_law 688 = .ok (.iload 6, 2) := by decide +kernel
theorem dL_law_690 : decode cL_law 690 = .ok (.if_icmp .eq 5, 3) := by decide +kernel
theorem dL_law_693 : decode cL_law 693 = .ok (.iconst 0, 1) := by decide +kernel
theorem dL_law_694 : decode cL_law 694 = .ok (.ireturn, 1) := by decide +kernel
theorem dL_law_695 : decode cL_law 695 = .ok (.iload 6, 2) := by decide +kernel
theorem dL_law_697 : decode cL_law 697 = .ok (.ifCond .ne 15, 3) := by decide +kernel
theorem dL_law_700 : decode cL_law 700 = .ok (.aload_n 3, 1) := by decide +kernel
theorem dL_law_701 : decode cL_law 701 = .ok (.iconst 0, 1) := by decide +kernel
theorem dL_law_702 : decode cL_law 702 = .ok (.laload, 1) := by decide +kernel
theorem dL_law_703 : decode cL_law 703 = .ok (.iload 7, 2) := by decide +kernel
theorem dL_law_705 : decode cL_law 705 = .ok (.i2l, 1) := by decide +kernel
theorem dL_law_706 : decode cL_law 706 = .ok (.lcmp, 1) := by decide +kernel
theorem dL_law_707 : decode cL_law 707 = .ok (.ifCond .eq 5, 3) := by decide +kernel
theorem dL_law_710 : decode cL_law 710 = .ok (.iconst 0, 1) := by decide +kernel
theorem dL_law_711 : decode cL_law 711 = .ok (.ireturn, 1) := by decide +kernel
theorem dL_law_712 : decode cL_law 712 = .ok (.goto 1185, 3) := by decide +kernel
theorem dL_law_715 : decode cL_law 715 = .ok (.aload_n 1, 1) := by decide +kernel
theorem dL_law_716 : decode cL_law 716 = .ok (.aload_n 0, 1) := by decide +kernel
theorem dL_law_717 : decode cL_law 717 = .ok (.iload 5, 2) := by decide +kernel
theorem dL_law_719 : decode cL_law 719 = .ok (.iconst 1, 1) := by decide +kernel
theorem dL_law_720 : decode cL_law 720 = .ok (.iadd, 1) := by decide +kernel
theorem dL_law_721 : decode cL_law 721 = .ok (.iaload, 1) := by decide +kernel
theorem dL_law_722 : decode cL_law 722 = .ok (.aload_n 3, 1) := by decide +kernel
theorem dL_law_723 : decode cL_law 723 = .ok (.invokestatic 141, 3) := by decide +kernel
theorem dL_law_726 : decode cL_law 726 = .ok (.istore 6, 2) := by decide +kernel
theorem dL_law_728 : decode cL_law 728 = .ok (.aload_n 2, 1) := by decide +kernel
theorem dL_law_729 : decode cL_law 729 = .ok (.aload_n 0, 1) := by decide +kernel
theorem dL_law_730 : decode cL_law 730 = .ok (.iload 5, 2) := by decide +kernel
theorem dL_law_732 : decode cL_law 732 = .ok (.iconst 1, 1) := by decide +kernel
theorem dL_law_733 : decode cL_law 733 = .ok (.iadd, 1) := by decide +kernel
theorem dL_law_734 : decode cL_law 734 = .ok (.iaload, 1) := by decide +kernel
theorem dL_law_735 : decode cL_law 735 = .ok (.invokevirtual 144, 3) := by decide +kernel
theorem dL_law_738 : decode cL_law 738 = .ok (.istore 7, 2) := by decide +kernel
theorem dL_law_740 : decode cL_law 740 = .ok (.aload_n 2, 1) := by decide +kernel
theorem dL_law_741 : decode cL_law 741 = .ok (.invokevirtual 118, 3) := by decide +kernel
theorem dL_law_744 : decode cL_law 744 = .ok (.iload 6, 2) := by decide +kernel
theorem dL_law_746 : decode cL_law 746 = .ok (.if_icmp .eq 5, 3) := by decide +kernel
theorem dL_law_749 : decode cL_law 749 = .ok (.iconst 0, 1) := by decide +kernel
theorem dL_law_750 : decode cL_law 750 = .ok (.ireturn, 1) := by decide +kernel
theorem dL_law_751 : decode cL_law 751 = .ok (.iload 6, 2) := by decide +kernel
theorem dL_law_753 : decode cL_law 753 = .ok (.ifCond .ne 15, 3) := by decide +kernel
theorem dL_law_756 : decode cL_law 756 = .ok (.aload_n 3, 1) := by decide +kernel
theorem dL_law_757 : decode cL_law 757 = .ok (.iconst 0, 1) := by decide +kernel
theorem dL_law_758 : decode cL_law 758 = .ok (.laload, 1) := by decide +kernel
theorem dL_law_759 : decode cL_law 759 = .ok (.iload 7, 2) := by decide +kernel
theorem dL_law_761 : decode cL_law 761 = .ok (.i2l, 1) := by decide +kernel
theorem dL_law_762 : decode cL_law 762 = .ok (.lcmp, 1) := by decide +kernel
theorem dL_law_763 : decode cL_law 763 = .ok (.ifCond .eq 5, 3) := by decide +kernel
theorem dL_law_766 : decode cL_law 766 = .ok (.iconst 0, 1) := by decide +kernel
theorem dL_law_767 : decode cL_law 767 = .ok (.ireturn, 1) := by decide +kernel
theorem dL_law_768 : decode cL_law 768 = .ok (.goto 1129, 3) := by decide +kernel
theorem dL_law_771 : decode cL_law 771 = .ok (.aload_n 1, 1) := by decide +kernel
theorem dL_law_772 : decode cL_law 772 = .ok (.aload_n 0, 1) := by decide +kernel
theorem dL_law_773 : decode cL_law 773 = .ok (.iload 5, 2) := by decide +kernel
theorem dL_law_775 : decode cL_law 775 = .ok (.iconst 1, 1) := by decide +kernel
theorem dL_law_776 : decode cL_law 776 = .ok (.iadd, 1) := by decide +kernel
theorem dL_law_777 : decode cL_law 777 = .ok (.iaload, 1) := by decide +kernel
theorem dL_law_778 : decode cL_law 778 = .ok (.aload_n 3, 1) := by decide +kernel
theorem dL_law_779 : decode cL_law 779 = .ok (.invokestatic 145, 3) := by decide +kernel
theorem dL_law_782 : decode cL_law 782 = .ok (.istore 6, 2) := by decide +kernel
theorem dL_law_784 : decode cL_law 784 = .ok (.aload_n 2, 1) := by decide +kernel
theorem dL_law_785 : decode cL_law 785 = .ok (.aload_n 0, 1) := by decide +kernel
theorem dL_law_786 : decode cL_law 786 = .ok (.iload 5, 2) := by decide +kernel
theorem dL_law_788 : decode cL_law 788 = .ok (.iconst 1, 1) := by decide +kernel
theorem dL_law_789 : decode cL_law 789 = .ok (.iadd, 1) := by decide +kernel
theorem dL_law_790 : decode cL_law 790 = .ok (.iaload, 1) := by decide +kernel
theorem dL_law_791 : decode cL_law 791 = .ok (.invokevirtual 147, 3) := by decide +kernel
theorem dL_law_794 : decode cL_law 794 = .ok (.istore 7, 2) := by decide +kernel
theorem dL_law_796 : decode cL_law 796 = .ok (.aload_n 2, 1) := by decide +kernel
theorem dL_law_797 : decode cL_law 797 = .ok (.invokevirtual 118, 3) := by decide +kernel
theorem dL_law_800 : decode cL_law 800 = .ok (.iload 6, 2) := by decide +kernel
theorem dL_law_802 : decode cL_law 802 = .ok (.if_icmp .eq 5, 3) := by decide +kernel
theorem dL_law_805 : decode cL_law 805 = .ok (.iconst 0, 1) := by decide +kernel
theorem dL_law_806 : decode cL_law 806 = .ok (.ireturn, 1) := by decide +kernel
theorem dL_law_807 : decode cL_law 807 = .ok (.iload 6, 2) := by decide +kernel
theorem dL_law_809 : decode cL_law 809 = .ok (.ifCond .ne 15, 3) := by decide +kernel
theorem dL_law_812 : decode cL_law 812 = .ok (.aload_n 3, 1) := by decide +kernel
theorem dL_law_813 : decode cL_law 813 = .ok (.iconst 0, 1) := by decide +kernel
theorem dL_law_814 : decode cL_law 814 = .ok (.laload, 1) := by decide +kernel
theorem dL_law_815 : decode cL_law 815 = .ok (.iload 7, 2) := by decide +kernel
theorem dL_law_817 : decode cL_law 817 = .ok (.i2l, 1) := by decide +kernel
theorem dL_law_818 : decode cL_law 818 = .ok (.lcmp, 1) := by decide +kernel
theorem dL_law_819 : decode cL_law 819 = .ok (.ifCond .eq 5, 3) := by decide +kernel
theorem dL_law_822 : decode cL_law 822 = .ok (.iconst 0, 1) := by decide +kernel
theorem dL_law_823 : decode cL_law 823 = .ok (.ireturn, 1) := by decide +kernel
theorem dL_law_824 : decode cL_law 824 = .ok (.goto 1073, 3) := by decide +kernel
theorem dL_law_827 : decode cL_law 827 = .ok (.aload_n 1, 1) := by decide +kernel
theorem dL_law_828 : decode cL_law 828 = .ok (.aload_n 0, 1) := by decide +kernel
theorem dL_law_829 : decode cL_law 829 = .ok (.iload 5, 2) := by decide +kernel
theorem dL_law_831 : decode cL_law 831 = .ok (.iconst 1, 1) := by decide +kernel
theorem dL_law_832 : decode cL_law 832 = .ok (.iadd, 1) := by decide +kernel
theorem dL_law_833 : decode cL_law 833 = .ok (.iaload, 1) := by decide +kernel
theorem dL_law_834 : decode cL_law 834 = .ok (.aload_n 3, 1) := by decide +kernel
theorem dL_law_835 : decode cL_law 835 = .ok (.invokestatic 148, 3) := by decide +kernel
theorem dL_law_838 : decode cL_law 838 = .ok (.istore 6, 2) := by decide +kernel
theorem dL_law_840 : decode cL_law 840 = .ok (.aload_n 2, 1) := by decide +kernel
theorem dL_law_841 : decode cL_law 841 = .ok (.aload_n 0, 1) := by decide +kernel
theorem dL_law_842 : decode cL_law 842 = .ok (.iload 5, 2) := by decide +kernel
theorem dL_law_844 : decode cL_law 844 = .ok (.iconst 1, 1) := by decide +kernel
theorem dL_law_845 : decode cL_law 845 = .ok (.iadd, 1) := by decide +kernel
theorem dL_law_846 : decode cL_law 846 = .ok (.iaload, 1) := by decide +kernel
theorem dL_law_847 : decode cL_law 847 = .ok (.invokevirtual 150, 3) := by decide +kernel
theorem dL_law_850 : decode cL_law 850 = .ok (.istore 7, 2) := by decide +kernel
theorem dL_law_852 : decode cL_law 852 = .ok (.aload_n 2, 1) := by decide +kernel
theorem dL_law_853 : decode cL_law 853 = .ok (.invokevirtual 118, 3) := by decide +kernel
theorem dL_law_856 : decode cL_law 856 = .ok (.iload 6, 2) := by decide +kernel
theorem dL_law_858 : decode cL_law 858 = .ok (.if_icmp .eq 5, 3) := by decide +kernel
theorem dL_law_861 : decode cL_law 861 = .ok (.iconst 0, 1) := by decide +kernel
theorem dL_law_862 : decode cL_law 862 = .ok (.ireturn, 1) := by decide +kernel
theorem dL_law_863 : decode cL_law 863 = .ok (.iload 6, 2) := by decide +kernel
theorem dL_law_865 : decode cL_law 865 = .ok (.ifCond .ne 15, 3) := by decide +kernel
theorem dL_law_868 : decode cL_law 868 = .ok (.aload_n 3, 1) := by decide +kernel
theorem dL_law_869 : decode cL_law 869 = .ok (.iconst 0, 1) := by decide +kernel
theorem dL_law_870 : decode cL_law 870 = .ok (.laload, 1) := by decide +kernel
theorem dL_law_871 : decode cL_law 871 = .ok (.iload 7, 2) := by decide +kernel
theorem dL_law_873 : decode cL_law 873 = .ok (.i2l, 1) := by decide +kernel
theorem dL_law_874 : decode cL_law 874 = .ok (.lcmp, 1) := by decide +kernel
theorem dL_law_875 : decode cL_law 875 = .ok (.ifCond .eq 5, 3) := by decide +kernel
theorem dL_law_878 : decode cL_law 878 = .ok (.iconst 0, 1) := by decide +kernel
theorem dL_law_879 : decode cL_law 879 = .ok (.ireturn, 1) := by decide +kernel
theorem dL_law_880 : decode cL_law 880 = .ok (.goto 1017, 3) := by decide +kernel
theorem dL_law_883 : decode cL_law 883 = .ok (.aload_n 1, 1) := by decide +kernel
theorem dL_law_884 : decode cL_law 884 = .ok (.aload_n 0, 1) := by decide +kernel
theorem dL_law_885 : decode cL_law 885 = .ok (.iload 5, 2) := by decide +kernel
theorem dL_law_887 : decode cL_law 887 = .ok (.iconst 1, 1) := by decide +kernel
theorem dL_law_888 : decode cL_law 888 = .ok (.iadd, 1) := by decide +kernel
theorem dL_law_889 : decode cL_law 889 = .ok (.iaload, 1) := by decide +kernel
theorem dL_law_890 : decode cL_law 890 = .ok (.aload_n 3, 1) := by decide +kernel
theorem dL_law_891 : decode cL_law 891 = .ok (.invokestatic 151, 3) := by decide +kernel
theorem dL_law_894 : decode cL_law 894 = .ok (.istore 6, 2) := by decide +kernel
theorem dL_law_896 : decode cL_law 896 = .ok (.aload_n 2, 1) := by decide +kernel
theorem dL_law_897 : decode cL_law 897 = .ok (.aload_n 0, 1) := by decide +kernel
theorem dL_law_898 : decode cL_law 898 = .ok (.iload 5, 2) := by decide +kernel
theorem dL_law_900 : decode cL_law 900 = .ok (.iconst 1, 1) := by decide +kernel
theorem dL_law_901 : decode cL_law 901 = .ok (.iadd, 1) := by decide +kernel
theorem dL_law_902 : decode cL_law 902 = .ok (.iaload, 1) := by decide +kernel
theorem dL_law_903 : decode cL_law 903 = .ok (.invokevirtual 153, 3) := by decide +kernel
theorem dL_law_906 : decode cL_law 906 = .ok (.istore 7, 2) := by decide +kernel
theorem dL_law_908 : decode cL_law 908 = .ok (.aload_n 2, 1) := by decide +kernel
theorem dL_law_909 : decode cL_law 909 = .ok (.invokevirtual 118, 3) := by decide +kernel
theorem dL_law_912 : decode cL_law 912 = .ok (.iload 6, 2) := by decide +kernel
theorem dL_law_914 : decode cL_law 914 = .ok (.if_icmp .eq 5, 3) := by decide +kernel
theorem dL_law_917 : decode cL_law 917 = .ok (.iconst 0, 1) := by decide +kernel
theorem dL_law_918 : decode cL_law 918 = .ok (.ireturn, 1) := by decide +kernel
theorem dL_law_919 : decode cL_law 919 = .ok (.iload 6, 2) := by decide +kernel
theorem dL_law_921 : decode cL_law 921 = .ok (.ifCond .ne 15, 3) := by decide +kernel
theorem dL_law_924 : decode cL_law 924 = .ok (.aload_n 3, 1) := by decide +kernel
theorem dL_law_925 : decode cL_law 925 = .ok (.iconst 0, 1) := by decide +kernel
theorem dL_law_926 : decode cL_law 926 = .ok (.laload, 1) := by decide +kernel
theorem dL_law_927 : decode cL_law 927 = .ok (.iload 7, 2) := by decide +kernel
theorem dL_law_929 : decode cL_law 929 = .ok (.i2l, 1) := by decide +kernel
theorem dL_law_930 : decode cL_law 930 = .ok (.lcmp, 1) := by decide +kernel
theorem dL_law_931 : decode cL_law 931 = .ok (.ifCond .eq 5, 3) := by decide +kernel
theorem dL_law_934 : decode cL_law 934 = .ok (.iconst 0, 1) := by decide +kernel
theorem dL_law_935 : decode cL_law 935 = .ok (.ireturn, 1) := by decide +kernel
theorem dL_law_936 : decode cL_law 936 = .ok (.goto 961, 3) := by decide +kernel
theorem dL_law_939 : decode cL_law 939 = .ok (.aload_n 1, 1) := by decide +kernel
theorem dL_law_940 : decode cL_law 940 = .ok (.aload_n 0, 1) := by decide +kernel
theorem dL_law_941 : decode cL_law 941 = .ok (.iload 5, 2) := by decide +kernel
theorem dL_law_943 : decode cL_law 943 = .ok (.iconst 1, 1) := by decide +kernel
theorem dL_law_944 : decode cL_law 944 = .ok (.iadd, 1) := by decide +kernel
theorem dL_law_945 : decode cL_law 945 = .ok (.iaload, 1) := by decide +kernel
theorem dL_law_946 : decode cL_law 946 = .ok (.aload_n 3, 1) := by decide +kernel
theorem dL_law_947 : decode cL_law 947 = .ok (.invokestatic 154, 3) := by decide +kernel
theorem dL_law_950 : decode cL_law 950 = .ok (.istore 6, 2) := by decide +kernel
theorem dL_law_952 : decode cL_law 952 = .ok (.aload_n 2, 1) := by decide +kernel
theorem dL_law_953 : decode cL_law 953 = .ok (.aload_n 0, 1) := by decide +kernel
theorem dL_law_954 : decode cL_law 954 = .ok (.iload 5, 2) := by decide +kernel
theorem dL_law_956 : decode cL_law 956 = .ok (.iconst 1, 1) := by decide +kernel
theorem dL_law_957 : decode cL_law 957 = .ok (.iadd, 1) := by decide +kernel
theorem dL_law_958 : decode cL_law 958 = .ok (.iaload, 1) := by decide +kernel
theorem dL_law_959 : decode cL_law 959 = .ok (.invokevirtual 156, 3) := by decide +kernel
theorem dL_law_962 : decode cL_law 962 = .ok (.istore 7, 2) := by decide +kernel
theorem dL_law_964 : decode cL_law 964 = .ok (.aload_n 2, 1) := by decide +kernel
theorem dL_law_965 : decode cL_law 965 = .ok (.invokevirtual 118, 3) := by decide +kernel
theorem dL_law_968 : decode cL_law 968 = .ok (.iload 6, 2) := by decide +kernel
theorem dL_law_970 : decode cL_law 970 = .ok (.if_icmp .eq 5, 3) := by decide +kernel
theorem dL_law_973 : decode cL_law 973 = .ok (.iconst 0, 1) := by decide +kernel
theorem dL_law_974 : decode cL_law 974 = .ok (.ireturn, 1) := by decide +kernel
theorem dL_law_975 : decode cL_law 975 = .ok (.iload 6, 2) := by decide +kernel
theorem dL_law_977 : decode cL_law 977 = .ok (.ifCond .ne 15, 3) := by decide +kernel
theorem dL_law_980 : decode cL_law 980 = .ok (.aload_n 3, 1) := by decide +kernel
theorem dL_law_981 : decode cL_law 981 = .ok (.iconst 0, 1) := by decide +kernel
theorem dL_law_982 : decode cL_law 982 = .ok (.laload, 1) := by decide +kernel
theorem dL_law_983 : decode cL_law 983 = .ok (.iload 7, 2) := by decide +kernel
theorem dL_law_985 : decode cL_law 985 = .ok (.i2l, 1) := by decide +kernel
theorem dL_law_986 : decode cL_law 986 = .ok (.lcmp, 1) := by decide +kernel
theorem dL_law_987 : decode cL_law 987 = .ok (.ifCond .eq 5, 3) := by decide +kernel
theorem dL_law_990 : decode cL_law 990 = .ok (.iconst 0, 1) := by decide +kernel
theorem dL_law_991 : decode cL_law 991 = .ok (.ireturn, 1) := by decide +kernel
theorem dL_law_992 : decode cL_law 992 = .ok (.goto 905, 3) := by decide +kernel
theorem dL_law_995 : decode cL_law 995 = .ok (.aload_n 1, 1) := by decide +kernel
theorem dL_law_996 : decode cL_law 996 = .ok (.aload_n 0, 1) := by decide +kernel
theorem dL_law_997 : decode cL_law 997 = .ok (.iload 5, 2) := by decide +kernel
theorem dL_law_999 : decode cL_law 999 = .ok (.iconst 1, 1) := by decide +kernel
theorem dL_law_1000 : decode cL_law 1000 = .ok (.iadd, 1) := by decide +kernel
theorem dL_law_1001 : decode cL_law 1001 = .ok (.iaload, 1) := by decide +kernel
theorem dL_law_1002 : decode cL_law 1002 = .ok (.aload_n 3, 1) := by decide +kernel
theorem dL_law_1003 : decode cL_law 1003 = .ok (.invokestatic 157, 3) := by decide +kernel
theorem dL_law_1006 : decode cL_law 1006 = .ok (.istore 6, 2) := by decide +kernel
theorem dL_law_1008 : decode cL_law 1008 = .ok (.aload_n 2, 1) := by decide +kernel
theorem dL_law_1009 : decode cL_law 1009 = .ok (.aload_n 0, 1) := by decide +kernel
theorem dL_law_1010 : decode cL_law 1010 = .ok (.iload 5, 2) := by decide +kernel
theorem dL_law_1012 : decode cL_law 1012 = .ok (.iconst 1, 1) := by decide +kernel
theorem dL_law_1013 : decode cL_law 1013 = .ok (.iadd, 1) := by decide +kernel
theorem dL_law_1014 : decode cL_law 1014 = .ok (.iaload, 1) := by decide +kernel
theorem dL_law_1015 : decode cL_law 1015 = .ok (.invokevirtual 159, 3) := by decide +kernel
theorem dL_law_1018 : decode cL_law 1018 = .ok (.istore 7, 2) := by decide +kernel
theorem dL_law_1020 : decode cL_law 1020 = .ok (.aload_n 2, 1) := by decide +kernel
theorem dL_law_1021 : decode cL_law 1021 = .ok (.invokevirtual 118, 3) := by decide +kernel
theorem dL_law_1024 : decode cL_law 1024 = .ok (.iload 6, 2) := by decide +kernel
theorem dL_law_1026 : decode cL_law 1026 = .ok (.if_icmp .eq 5, 3) := by decide +kernel
theorem dL_law_1029 : decode cL_law 1029 = .ok (.iconst 0, 1) := by decide +kernel
theorem dL_law_1030 : decode cL_law 1030 = .ok (.ireturn, 1) := by decide +kernel
theorem dL_law_1031 : decode cL_law 1031 = .ok (.iload 6, 2) := by decide +kernel
theorem dL_law_1033 : decode cL_law 1033 = .ok (.ifCond .ne 15, 3) := by decide +kernel
theorem dL_law_1036 : decode cL_law 1036 = .ok (.aload_n 3, 1) := by decide +kernel
theorem dL_law_1037 : decode cL_law 1037 = .ok (.iconst 0, 1) := by decide +kernel
theorem dL_law_1038 : decode cL_law 1038 = .ok (.laload, 1) := by decide +kernel
theorem dL_law_1039 : decode cL_law 1039 = .ok (.iload 7, 2) := by decide +kernel
theorem dL_law_1041 : decode cL_law 1041 = .ok (.i2l, 1) := by decide +kernel
theorem dL_law_1042 : decode cL_law 1042 = .ok (.lcmp, 1) := by decide +kernel
theorem dL_law_1043 : decode cL_law 1043 = .ok (.ifCond .eq 5, 3) := by decide +kernel
theorem dL_law_1046 : decode cL_law 1046 = .ok (.iconst 0, 1) := by decide +kernel
theorem dL_law_1047 : decode cL_law 1047 = .ok (.ireturn, 1) := by decide +kernel
theorem dL_law_1048 : decode cL_law 1048 = .ok (.goto 849, 3) := by decide +kernel
theorem dL_law_1051 : decode cL_law 1051 = .ok (.aload_n 1, 1) := by decide +kernel
theorem dL_law_1052 : decode cL_law 1052 = .ok (.aload_n 3, 1) := by decide +kernel
theorem dL_law_1053 : decode cL_law 1053 = .ok (.invokestatic 160, 3) := by decide +kernel
theorem dL_law_1056 : decode cL_law 1056 = .ok (.istore 6, 2) := by decide +kernel
theorem dL_law_1058 : decode cL_law 1058 = .ok (.aload_n 2, 1) := by decide +kernel
theorem dL_law_1059 : decode cL_law 1059 = .ok (.invokevirtual 163, 3) := by decide +kernel
theorem dL_law_1062 : decode cL_law 1062 = .ok (.istore 7, 2) := by decide +kernel
theorem dL_law_1064 : decode cL_law 1064 = .ok (.aload_n 2, 1) := by decide +kernel
theorem dL_law_1065 : decode cL_law 1065 = .ok (.invokevirtual 118, 3) := by decide +kernel
theorem dL_law_1068 : decode cL_law 1068 = .ok (.iload 6, 2) := by decide +kernel
theorem dL_law_1070 : decode cL_law 1070 = .ok (.if_icmp .eq 5, 3) := by decide +kernel
theorem dL_law_1073 : decode cL_law 1073 = .ok (.iconst 0, 1) := by decide +kernel
theorem dL_law_1074 : decode cL_law 1074 = .ok (.ireturn, 1) := by decide +kernel
theorem dL_law_1075 : decode cL_law 1075 = .ok (.iload 6, 2) := by decide +kernel
theorem dL_law_1077 : decode cL_law 1077 = .ok (.ifCond .ne 15, 3) := by decide +kernel
theorem dL_law_1080 : decode cL_law 1080 = .ok (.aload_n 3, 1) := by decide +kernel
theorem dL_law_1081 : decode cL_law 1081 = .ok (.iconst 0, 1) := by decide +kernel
theorem dL_law_1082 : decode cL_law 1082 = .ok (.laload, 1) := by decide +kernel
theorem dL_law_1083 : decode cL_law 1083 = .ok (.iload 7, 2) := by decide +kernel
theorem dL_law_1085 : decode cL_law 1085 = .ok (.i2l, 1) := by decide +kernel
theorem dL_law_1086 : decode cL_law 1086 = .ok (.lcmp, 1) := by decide +kernel
theorem dL_law_1087 : decode cL_law 1087 = .ok (.ifCond .eq 5, 3) := by decide +kernel
theorem dL_law_1090 : decode cL_law 1090 = .ok (.iconst 0, 1) := by decide +kernel
theorem dL_law_1091 : decode cL_law 1091 = .ok (.ireturn, 1) := by decide +kernel
theorem dL_law_1092 : decode cL_law 1092 = .ok (.goto 805, 3) := by decide +kernel
theorem dL_law_1095 : decode cL_law 1095 = .ok (.aload_n 1, 1) := by decide +kernel
theorem dL_law_1096 : decode cL_law 1096 = .ok (.invokevirtual 164, 3) := by decide +kernel
theorem dL_law_1099 : decode cL_law 1099 = .ok (.aload_n 2, 1) := by decide +kernel
theorem dL_law_1100 : decode cL_law 1100 = .ok (.invokevirtual 167, 3) := by decide +kernel
theorem dL_law_1103 : decode cL_law 1103 = .ok (.if_icmp .eq 794, 3) := by decide +kernel
theorem dL_law_1106 : decode cL_law 1106 = .ok (.iconst 0, 1) := by decide +kernel
theorem dL_law_1107 : decode cL_law 1107 = .ok (.ireturn, 1) := by decide +kernel
theorem dL_law_1108 : decode cL_law 1108 = .ok (.aload_n 1, 1) := by decide +kernel
theorem dL_law_1109 : decode cL_law 1109 = .ok (.aload_n 0, 1) := by decide +kernel
theorem dL_law_1110 : decode cL_law 1110 = .ok (.iload 5, 2) := by decide +kernel
theorem dL_law_1112 : decode cL_law 1112 = .ok (.iconst 1, 1) := by decide +kernel
theorem dL_law_1113 : decode cL_law 1113 = .ok (.iadd, 1) := by decide +kernel
theorem dL_law_1114 : decode cL_law 1114 = .ok (.iaload, 1) := by decide +kernel
theorem dL_law_1115 : decode cL_law 1115 = .ok (.aload_n 3, 1) := by decide +kernel
theorem dL_law_1116 : decode cL_law 1116 = .ok (.invokestatic 168, 3) := by decide +kernel
theorem dL_law_1119 : decode cL_law 1119 = .ok (.istore 6, 2) := by decide +kernel
theorem dL_law_1121 : decode cL_law 1121 = .ok (.aload_n 2, 1) := by decide +kernel
theorem dL_law_1122 : decode cL_law 1122 = .ok (.aload_n 0, 1) := by decide +kernel
theorem dL_law_1123 : decode cL_law 1123 = .ok (.iload 5, 2) := by decide +kernel
theorem dL_law_1125 : decode cL_law 1125 = .ok (.iconst 1, 1) := by decide +kernel
theorem dL_law_1126 : decode cL_law 1126 = .ok (.iadd, 1) := by decide +kernel
theorem dL_law_1127 : decode cL_law 1127 = .ok (.iaload, 1) := by decide +kernel
theorem dL_law_1128 : decode cL_law 1128 = .ok (.invokevirtual 170, 3) := by decide +kernel
theorem dL_law_1131 : decode cL_law 1131 = .ok (.istore 7, 2) := by decide +kernel
theorem dL_law_1133 : decode cL_law 1133 = .ok (.aload_n 2, 1) := by decide +kernel
theorem dL_law_1134 : decode cL_law 1134 = .ok (.invokevirtual 118, 3) := by decide +kernel
theorem dL_law_1137 : decode cL_law 1137 = .ok (.iload 6, 2) := by decide +kernel
theorem dL_law_1139 : decode cL_law 1139 = .ok (.if_icmp .eq 5, 3) := by decide +kernel
theorem dL_law_1142 : decode cL_law 1142 = .ok (.iconst 0, 1) := by decide +kernel
theorem dL_law_1143 : decode cL_law 1143 = .ok (.ireturn, 1) := by decide +kernel
theorem dL_law_1144 : decode cL_law 1144 = .ok (.iload 6, 2) := by decide +kernel
theorem dL_law_1146 : decode cL_law 1146 = .ok (.ifCond .ne 15, 3) := by decide +kernel
theorem dL_law_1149 : decode cL_law 1149 = .ok (.aload_n 3, 1) := by decide +kernel
theorem dL_law_1150 : decode cL_law 1150 = .ok (.iconst 0, 1) := by decide +kernel
theorem dL_law_1151 : decode cL_law 1151 = .ok (.laload, 1) := by decide +kernel
theorem dL_law_1152 : decode cL_law 1152 = .ok (.iload 7, 2) := by decide +kernel
theorem dL_law_1154 : decode cL_law 1154 = .ok (.i2l, 1) := by decide +kernel
theorem dL_law_1155 : decode cL_law 1155 = .ok (.lcmp, 1) := by decide +kernel
theorem dL_law_1156 : decode cL_law 1156 = .ok (.ifCond .eq 5, 3) := by decide +kernel
theorem dL_law_1159 : decode cL_law 1159 = .ok (.iconst 0, 1) := by decide +kernel
theorem dL_law_1160 : decode cL_law 1160 = .ok (.ireturn, 1) := by decide +kernel
theorem dL_law_1161 : decode cL_law 1161 = .ok (.goto 736, 3) := by decide +kernel
theorem dL_law_1164 : decode cL_law 1164 = .ok (.aload_n 1, 1) := by decide +kernel
theorem dL_law_1165 : decode cL_law 1165 = .ok (.aload_n 0, 1) := by decide +kernel
theorem dL_law_1166 : decode cL_law 1166 = .ok (.iload 5, 2) := by decide +kernel
theorem dL_law_1168 : decode cL_law 1168 = .ok (.iconst 1, 1) := by decide +kernel
theorem dL_law_1169 : decode cL_law 1169 = .ok (.iadd, 1) := by decide +kernel
theorem dL_law_1170 : decode cL_law 1170 = .ok (.iaload, 1) := by decide +kernel
theorem dL_law_1171 : decode cL_law 1171 = .ok (.aload_n 0, 1) := by decide +kernel
theorem dL_law_1172 : decode cL_law 1172 = .ok (.iload 5, 2) := by decide +kernel
theorem dL_law_1174 : decode cL_law 1174 = .ok (.iconst 2, 1) := by decide +kernel
theorem dL_law_1175 : decode cL_law 1175 = .ok (.iadd, 1) := by decide +kernel
theorem dL_law_1176 : decode cL_law 1176 = .ok (.iaload, 1) := by decide +kernel
theorem dL_law_1177 : decode cL_law 1177 = .ok (.i2c, 1) := by decide +kernel
theorem dL_law_1178 : decode cL_law 1178 = .ok (.aload_n 3, 1) := by decide +kernel
theorem dL_law_1179 : decode cL_law 1179 = .ok (.invokestatic 171, 3) := by decide +kernel
theorem dL_law_1182 : decode cL_law 1182 = .ok (.istore 6, 2) := by decide +kernel
theorem dL_law_1184 : decode cL_law 1184 = .ok (.aload_n 2, 1) := by decide +kernel
theorem dL_law_1185 : decode cL_law 1185 = .ok (.aload_n 0, 1) := by decide +kernel
theorem dL_law_1186 : decode cL_law 1186 = .ok (.iload 5, 2) := by decide +kernel
theorem dL_law_1188 : decode cL_law 1188 = .ok (.iconst 1, 1) := by decide +kernel
theorem dL_law_1189 : decode cL_law 1189 = .ok (.iadd, 1) := by decide +kernel
theorem dL_law_1190 : decode cL_law 1190 = .ok (.iaload, 1) := by decide +kernel
theorem dL_law_1191 : decode cL_law 1191 = .ok (.aload_n 0, 1) := by decide +kernel
theorem dL_law_1192 : decode cL_law 1192 = .ok (.iload 5, 2) := by decide +kernel
theorem dL_law_1194 : decode cL_law 1194 = .ok (.iconst 2, 1) := by decide +kernel
theorem dL_law_1195 : decode cL_law 1195 = .ok (.iadd, 1) := by decide +kernel
theorem dL_law_1196 : decode cL_law 1196 = .ok (.iaload, 1) := by decide +kernel
theorem dL_law_1197 : decode cL_law 1197 = .ok (.i2c, 1) := by decide +kernel
theorem dL_law_1198 : decode cL_law 1198 = .ok (.invokevirtual 174, 3) := by decide +kernel
theorem dL_law_1201 : decode cL_law 1201 = .ok (.istore 7, 2) := by decide +kernel
theorem dL_law_1203 : decode cL_law 1203 = .ok (.aload_n 2, 1) := by decide +kernel
theorem dL_law_1204 : decode cL_law 1204 = .ok (.invokevirtual 118, 3) := by decide +kernel
theorem dL_law_1207 : decode cL_law 1207 = .ok (.iload 6, 2) := by decide +kernel
theorem dL_law_1209 : decode cL_law 1209 = .ok (.if_icmp .eq 5, 3) := by decide +kernel
theorem dL_law_1212 : decode cL_law 1212 = .ok (.iconst 0, 1) := by decide +kernel
theorem dL_law_1213 : decode cL_law 1213 = .ok (.ireturn, 1) := by decide +kernel
theorem dL_law_1214 : decode cL_law 1214 = .ok (.iload 6, 2) := by decide +kernel
theorem dL_law_1216 : decode cL_law 1216 = .ok (.ifCond .ne 15, 3) := by decide +kernel
theorem dL_law_1219 : decode cL_law 1219 = .ok (.aload_n 3, 1) := by decide +kernel
theorem dL_law_1220 : decode cL_law 1220 = .ok (.iconst 0, 1) := by decide +kernel
theorem dL_law_1221 : decode cL_law 1221 = .ok (.laload, 1) := by decide +kernel
theorem dL_law_1222 : decode cL_law 1222 = .ok (.iload 7, 2) := by decide +kernel
theorem dL_law_1224 : decode cL_law 1224 = .ok (.i2l, 1) := by decide +kernel
theorem dL_law_1225 : decode cL_law 1225 = .ok (.lcmp, 1) := by decide +kernel
theorem dL_law_1226 : decode cL_law 1226 = .ok (.ifCond .eq 5, 3) := by decide +kernel
theorem dL_law_1229 : decode cL_law 1229 = .ok (.iconst 0, 1) := by decide +kernel
theorem dL_law_1230 : decode cL_law 1230 = .ok (.ireturn, 1) := by decide +kernel
theorem dL_law_1231 : decode cL_law 1231 = .ok (.goto 666, 3) := by decide +kernel
theorem dL_law_1234 : decode cL_law 1234 = .ok (.aload_n 1, 1) := by decide +kernel
theorem dL_law_1235 : decode cL_law 1235 = .ok (.invokevirtual 175, 3) := by decide +kernel
theorem dL_law_1238 : decode cL_law 1238 = .ok (.aload_n 2, 1) := by decide +kernel
theorem dL_law_1239 : decode cL_law 1239 = .ok (.invokevirtual 178, 3) := by decide +kernel
theorem dL_law_1242 : decode cL_law 1242 = .ok (.if_icmp .eq 655, 3) := by decide +kernel
theorem dL_law_1245 : decode cL_law 1245 = .ok (.iconst 0, 1) := by decide +kernel
theorem dL_law_1246 : decode cL_law 1246 = .ok (.ireturn, 1) := by decide +kernel
theorem dL_law_1247 : decode cL_law 1247 = .ok (.aload_n 1, 1) := by decide +kernel
theorem dL_law_1248 : decode cL_law 1248 = .ok (.invokevirtual 179, 3) := by decide +kernel
theorem dL_law_1251 : decode cL_law 1251 = .ok (.aload_n 2, 1) := by decide +kernel
theorem dL_law_1252 : decode cL_law 1252 = .ok (.invokevirtual 183, 3) := by decide +kernel
theorem dL_law_1255 : decode cL_law 1255 = .ok (.lcmp, 1) := by decide +kernel
theorem dL_law_1256 : decode cL_law 1256 = .ok (.ifCond .eq 641, 3) := by decide +kernel
theorem dL_law_1259 : decode cL_law 1259 = .ok (.iconst 0, 1) := by decide +kernel
theorem dL_law_1260 : decode cL_law 1260 = .ok (.ireturn, 1) := by decide +kernel
theorem dL_law_1261 : decode cL_law 1261 = .ok (.aload_n 1, 1) := by decide +kernel
theorem dL_law_1262 : decode cL_law 1262 = .ok (.aload_n 0, 1) := by decide +kernel
theorem dL_law_1263 : decode cL_law 1263 = .ok (.iload 5, 2) := by decide +kernel
theorem dL_law_1265 : decode cL_law 1265 = .ok (.iconst 1, 1) := by decide +kernel
theorem dL_law_1266 : decode cL_law 1266 = .ok (.iadd, 1) := by decide +kernel
theorem dL_law_1267 : decode cL_law 1267 = .ok (.iaload, 1) := by decide +kernel
theorem dL_law_1268 : decode cL_law 1268 = .ok (.aload_n 3, 1) := by decide +kernel
theorem dL_law_1269 : decode cL_law 1269 = .ok (.invokestatic 184, 3) := by decide +kernel
theorem dL_law_1272 : decode cL_law 1272 = .ok (.istore 6, 2) := by decide +kernel
theorem dL_law_1274 : decode cL_law 1274 = .ok (.aload_n 2, 1) := by decide +kernel
theorem dL_law_1275 : decode cL_law 1275 = .ok (.aload_n 0, 1) := by decide +kernel
theorem dL_law_1276 : decode cL_law 1276 = .ok (.iload 5, 2) := by decide +kernel
theorem dL_law_1278 : decode cL_law 1278 = .ok (.iconst 1, 1) := by decide +kernel
theorem dL_law_1279 : decode cL_law 1279 = .ok (.iadd, 1) := by decide +kernel
theorem dL_law_1280 : decode cL_law 1280 = .ok (.iaload, 1) := by decide +kernel
theorem dL_law_1281 : decode cL_law 1281 = .ok (.invokevirtual 186, 3) := by decide +kernel
theorem dL_law_1284 : decode cL_law 1284 = .ok (.istore 7, 2) := by decide +kernel
theorem dL_law_1286 : decode cL_law 1286 = .ok (.aload_n 2, 1) := by decide +kernel
theorem dL_law_1287 : decode cL_law 1287 = .ok (.invokevirtual 118, 3) := by decide +kernel
theorem dL_law_1290 : decode cL_law 1290 = .ok (.iload 6, 2) := by decide +kernel
theorem dL_law_1292 : decode cL_law 1292 = .ok (.if_icmp .eq 5, 3) := by decide +kernel
theorem dL_law_1295 : decode cL_law 1295 = .ok (.iconst 0, 1) := by decide +kernel
theorem dL_law_1296 : decode cL_law 1296 = .ok (.ireturn, 1) := by decide +kernel
theorem dL_law_1297 : decode cL_law 1297 = .ok (.iload 6, 2) := by decide +kernel
theorem dL_law_1299 : decode cL_law 1299 = .ok (.ifCond .ne 15, 3) := by decide +kernel
theorem dL_law_1302 : decode cL_law 1302 = .ok (.aload_n 3, 1) := by decide +kernel
theorem dL_law_1303 : decode cL_law 1303 = .ok (.iconst 0, 1) := by decide +kernel
theorem dL_law_1304 : decode cL_law 1304 = .ok (.laload, 1) := by decide +kernel
theorem dL_law_1305 : decode cL_law 1305 = .ok (.iload 7, 2) := by decide +kernel
theorem dL_law_1307 : decode cL_law 1307 = .ok (.i2l, 1) := by decide +kernel
theorem dL_law_1308 : decode cL_law 1308 = .ok (.lcmp, 1) := by decide +kernel
theorem dL_law_1309 : decode cL_law 1309 = .ok (.ifCond .eq 5, 3) := by decide +kernel
theorem dL_law_1312 : decode cL_law 1312 = .ok (.iconst 0, 1) := by decide +kernel
theorem dL_law_1313 : decode cL_law 1313 = .ok (.ireturn, 1) := by decide +kernel
theorem dL_law_1314 : decode cL_law 1314 = .ok (.goto 583, 3) := by decide +kernel
theorem dL_law_1317 : decode cL_law 1317 = .ok (.aload_n 1, 1) := by decide +kernel
theorem dL_law_1318 : decode cL_law 1318 = .ok (.aload_n 3, 1) := by decide +kernel
theorem dL_law_1319 : decode cL_law 1319 = .ok (.invokestatic 187, 3) := by decide +kernel
theorem dL_law_1322 : decode cL_law 1322 = .ok (.istore 6, 2) := by decide +kernel
theorem dL_law_1324 : decode cL_law 1324 = .ok (.aload_n 2, 1) := by decide +kernel
theorem dL_law_1325 : decode cL_law 1325 = .ok (.invokevirtual 189, 3) := by decide +kernel
theorem dL_law_1328 : decode cL_law 1328 = .ok (.istore 7, 2) := by decide +kernel
theorem dL_law_1330 : decode cL_law 1330 = .ok (.aload_n 2, 1) := by decide +kernel
theorem dL_law_1331 : decode cL_law 1331 = .ok (.invokevirtual 118, 3) := by decide +kernel
theorem dL_law_1334 : decode cL_law 1334 = .ok (.iload 6, 2) := by decide +kernel
theorem dL_law_1336 : decode cL_law 1336 = .ok (.if_icmp .eq 5, 3) := by decide +kernel
theorem dL_law_1339 : decode cL_law 1339 = .ok (.iconst 0, 1) := by decide +kernel
theorem dL_law_1340 : decode cL_law 1340 = .ok (.ireturn, 1) := by decide +kernel
theorem dL_law_1341 : decode cL_law 1341 = .ok (.iload 6, 2) := by decide +kernel
theorem dL_law_1343 : decode cL_law 1343 = .ok (.ifCond .ne 15, 3) := by decide +kernel
theorem dL_law_1346 : decode cL_law 1346 = .ok (.aload_n 3, 1) := by decide +kernel
theorem dL_law_1347 : decode cL_law 1347 = .ok (.iconst 0, 1) := by decide +kernel
theorem dL_law_1348 : decode cL_law 1348 = .ok (.laload, 1) := by decide +kernel
theorem dL_law_1349 : decode cL_law 1349 = .ok (.iload 7, 2) := by decide +kernel
theorem dL_law_1351 : decode cL_law 1351 = .ok (.i2l, 1) := by decide +kernel
theorem dL_law_1352 : decode cL_law 1352 = .ok (.lcmp, 1) := by decide +kernel
theorem dL_law_1353 : decode cL_law 1353 = .ok (.ifCond .eq 5, 3) := by decide +kernel
theorem dL_law_1356 : decode cL_law 1356 = .ok (.iconst 0, 1) := by decide +kernel
theorem dL_law_1357 : decode cL_law 1357 = .ok (.ireturn, 1) := by decide +kernel
theorem dL_law_1358 : decode cL_law 1358 = .ok (.goto 539, 3) := by decide +kernel
theorem dL_law_1361 : decode cL_law 1361 = .ok (.aload_n 1, 1) := by decide +kernel
theorem dL_law_1362 : decode cL_law 1362 = .ok (.aload_n 0, 1) := by decide +kernel
theorem dL_law_1363 : decode cL_law 1363 = .ok (.iload 5, 2) := by decide +kernel
theorem dL_law_1365 : decode cL_law 1365 = .ok (.iconst 1, 1) := by decide +kernel
theorem dL_law_1366 : decode cL_law 1366 = .ok (.iadd, 1) := by decide +kernel
theorem dL_law_1367 : decode cL_law 1367 = .ok (.iaload, 1) := by decide +kernel
theorem dL_law_1368 : decode cL_law 1368 = .ok (.aload_n 3, 1) := by decide +kernel
theorem dL_law_1369 : decode cL_law 1369 = .ok (.invokestatic 190, 3) := by decide +kernel
theorem dL_law_1372 : decode cL_law 1372 = .ok (.istore 6, 2) := by decide +kernel
theorem dL_law_1374 : decode cL_law 1374 = .ok (.aload_n 2, 1) := by decide +kernel
theorem dL_law_1375 : decode cL_law 1375 = .ok (.aload_n 0, 1) := by decide +kernel
theorem dL_law_1376 : decode cL_law 1376 = .ok (.iload 5, 2) := by decide +kernel
theorem dL_law_1378 : decode cL_law 1378 = .ok (.iconst 1, 1) := by decide +kernel
theorem dL_law_1379 : decode cL_law 1379 = .ok (.iadd, 1) := by decide +kernel
theorem dL_law_1380 : decode cL_law 1380 = .ok (.iaload, 1) := by decide +kernel
theorem dL_law_1381 : decode cL_law 1381 = .ok (.invokevirtual 192, 3) := by decide +kernel
theorem dL_law_1384 : decode cL_law 1384 = .ok (.istore 7, 2) := by decide +kernel
theorem dL_law_1386 : decode cL_law 1386 = .ok (.aload_n 2, 1) := by decide +kernel
theorem dL_law_1387 : decode cL_law 1387 = .ok (.invokevirtual 118, 3) := by decide +kernel
theorem dL_law_1390 : decode cL_law 1390 = .ok (.iload 6, 2) := by decide +kernel
theorem dL_law_1392 : decode cL_law 1392 = .ok (.if_icmp .eq 5, 3) := by decide +kernel
theorem dL_law_1395 : decode cL_law 1395 = .ok (.iconst 0, 1) := by decide +kernel
theorem dL_law_1396 : decode cL_law 1396 = .ok (.ireturn, 1) := by decide +kernel
theorem dL_law_1397 : decode cL_law 1397 = .ok (.iload 6, 2) := by decide +kernel
theorem dL_law_1399 : decode cL_law 1399 = .ok (.ifCond .ne 15, 3) := by decide +kernel
theorem dL_law_1402 : decode cL_law 1402 = .ok (.aload_n 3, 1) := by decide +kernel
theorem dL_law_1403 : decode cL_law 1403 = .ok (.iconst 0, 1) := by decide +kernel
theorem dL_law_1404 : decode cL_law 1404 = .ok (.laload, 1) := by decide +kernel
theorem dL_law_1405 : decode cL_law 1405 = .ok (.iload 7, 2) := by decide +kernel
theorem dL_law_1407 : decode cL_law 1407 = .ok (.i2l, 1) := by decide +kernel
theorem dL_law_1408 : decode cL_law 1408 = .ok (.lcmp, 1) := by decide +kernel
theorem dL_law_1409 : decode cL_law 1409 = .ok (.ifCond .eq 5, 3) := by decide +kernel
theorem dL_law_1412 : decode cL_law 1412 = .ok (.iconst 0, 1) := by decide +kernel
theorem dL_law_1413 : decode cL_law 1413 = .ok (.ireturn, 1) := by decide +kernel
theorem dL_law_1414 : decode cL_law 1414 = .ok (.goto 483, 3) := by decide +kernel
theorem dL_law_1417 : decode cL_law 1417 = .ok (.aload_n 1, 1) := by decide +kernel
theorem dL_law_1418 : decode cL_law 1418 = .ok (.aload_n 3, 1) := by decide +kernel
theorem dL_law_1419 : decode cL_law 1419 = .ok (.invokestatic 193, 3) := by decide +kernel
theorem dL_law_1422 : decode cL_law 1422 = .ok (.istore 6, 2) := by decide +kernel
theorem dL_law_1424 : decode cL_law 1424 = .ok (.aload_n 2, 1) := by decide +kernel
theorem dL_law_1425 : decode cL_law 1425 = .ok (.invokevirtual 195, 3) := by decide +kernel
theorem dL_law_1428 : decode cL_law 1428 = .ok (.istore 7, 2) := by decide +kernel
theorem dL_law_1430 : decode cL_law 1430 = .ok (.aload_n 2, 1) := by decide +kernel
theorem dL_law_1431 : decode cL_law 1431 = .ok (.invokevirtual 118, 3) := by decide +kernel
theorem dL_law_1434 : decode cL_law 1434 = .ok (.iload 6, 2) := by decide +kernel
theorem dL_law_1436 : decode cL_law 1436 = .ok (.if_icmp .eq 5, 3) := by decide +kernel
theorem dL_law_1439 : decode cL_law 1439 = .ok (.iconst 0, 1) := by decide +kernel
theorem dL_law_1440 : decode cL_law 1440 = .ok (.ireturn, 1) := by decide +kernel
theorem dL_law_1441 : decode cL_law 1441 = .ok (.iload 6, 2) := by decide +kernel
theorem dL_law_1443 : decode cL_law 1443 = .ok (.ifCond .ne 15, 3) := by decide +kernel
theorem dL_law_1446 : decode cL_law 1446 = .ok (.aload_n 3, 1) := by decide +kernel
theorem dL_law_1447 : decode cL_law 1447 = .ok (.iconst 0, 1) := by decide +kernel
theorem dL_law_1448 : decode cL_law 1448 = .ok (.laload, 1) := by decide +kernel
theorem dL_law_1449 : decode cL_law 1449 = .ok (.iload 7, 2) := by decide +kernel
theorem dL_law_1451 : decode cL_law 1451 = .ok (.i2l, 1) := by decide +kernel
theorem dL_law_1452 : decode cL_law 1452 = .ok (.lcmp, 1) := by decide +kernel
theorem dL_law_1453 : decode cL_law 1453 = .ok (.ifCond .eq 5, 3) := by decide +kernel
theorem dL_law_1456 : decode cL_law 1456 = .ok (.iconst 0, 1) := by decide +kernel
theorem dL_law_1457 : decode cL_law 1457 = .ok (.ireturn, 1) := by decide +kernel
theorem dL_law_1458 : decode cL_law 1458 = .ok (.goto 439, 3) := by decide +kernel
theorem dL_law_1461 : decode cL_law 1461 = .ok (.aload_n 1, 1) := by decide +kernel
theorem dL_law_1462 : decode cL_law 1462 = .ok (.aload_n 3, 1) := by decide +kernel
theorem dL_law_1463 : decode cL_law 1463 = .ok (.invokestatic 196, 3) := by decide +kernel
theorem dL_law_1466 : decode cL_law 1466 = .ok (.istore 6, 2) := by decide +kernel
theorem dL_law_1468 : decode cL_law 1468 = .ok (.aload_n 2, 1) := by decide +kernel
theorem dL_law_1469 : decode cL_law 1469 = .ok (.invokevirtual 198, 3) := by decide +kernel
theorem dL_law_1472 : decode cL_law 1472 = .ok (.istore 7, 2) := by decide +kernel
theorem dL_law_1474 : decode cL_law 1474 = .ok (.aload_n 2, 1) := by decide +kernel
theorem dL_law_1475 : decode cL_law 1475 = .ok (.invokevirtual 118, 3) := by decide +kernel
theorem dL_law_1478 : decode cL_law 1478 = .ok (.iload 6, 2) := by decide +kernel
theorem dL_law_1480 : decode cL_law 1480 = .ok (.if_icmp .eq 5, 3) := by decide +kernel
theorem dL_law_1483 : decode cL_law 1483 = .ok (.iconst 0, 1) := by decide +kernel
theorem dL_law_1484 : decode cL_law 1484 = .ok (.ireturn, 1) := by decide +kernel
theorem dL_law_1485 : decode cL_law 1485 = .ok (.iload 6, 2) := by decide +kernel
theorem dL_law_1487 : decode cL_law 1487 = .ok (.ifCond .ne 15, 3) := by decide +kernel
theorem dL_law_1490 : decode cL_law 1490 = .ok (.aload_n 3, 1) := by decide +kernel
theorem dL_law_1491 : decode cL_law 1491 = .ok (.iconst 0, 1) := by decide +kernel
theorem dL_law_1492 : decode cL_law 1492 = .ok (.laload, 1) := by decide +kernel
theorem dL_law_1493 : decode cL_law 1493 = .ok (.iload 7, 2) := by decide +kernel
theorem dL_law_1495 : decode cL_law 1495 = .ok (.i2l, 1) := by decide +kernel
theorem dL_law_1496 : decode cL_law 1496 = .ok (.lcmp, 1) := by decide +kernel
theorem dL_law_1497 : decode cL_law 1497 = .ok (.ifCond .eq 5, 3) := by decide +kernel
theorem dL_law_1500 : decode cL_law 1500 = .ok (.iconst 0, 1) := by decide +kernel
theorem dL_law_1501 : decode cL_law 1501 = .ok (.ireturn, 1) := by decide +kernel
theorem dL_law_1502 : decode cL_law 1502 = .ok (.goto 395, 3) := by decide +kernel
theorem dL_law_1505 : decode cL_law 1505 = .ok (.aload_n 1, 1) := by decide +kernel
theorem dL_law_1506 : decode cL_law 1506 = .ok (.aload_n 3, 1) := by decide +kernel
theorem dL_law_1507 : decode cL_law 1507 = .ok (.invokestatic 199, 3) := by decide +kernel
theorem dL_law_1510 : decode cL_law 1510 = .ok (.istore 6, 2) := by decide +kernel
theorem dL_law_1512 : decode cL_law 1512 = .ok (.aload_n 2, 1) := by decide +kernel
theorem dL_law_1513 : decode cL_law 1513 = .ok (.invokevirtual 201, 3) := by decide +kernel
theorem dL_law_1516 : decode cL_law 1516 = .ok (.istore 7, 2) := by decide +kernel
theorem dL_law_1518 : decode cL_law 1518 = .ok (.aload_n 2, 1) := by decide +kernel
theorem dL_law_1519 : decode cL_law 1519 = .ok (.invokevirtual 118, 3) := by decide +kernel
theorem dL_law_1522 : decode cL_law 1522 = .ok (.iload 6, 2) := by decide +kernel
theorem dL_law_1524 : decode cL_law 1524 = .ok (.if_icmp .eq 5, 3) := by decide +kernel
theorem dL_law_1527 : decode cL_law 1527 = .ok (.iconst 0, 1) := by decide +kernel
theorem dL_law_1528 : decode cL_law 1528 = .ok (.ireturn, 1) := by decide +kernel
theorem dL_law_1529 : decode cL_law 1529 = .ok (.iload 6, 2) := by decide +kernel
theorem dL_law_1531 : decode cL_law 1531 = .ok (.ifCond .ne 15, 3) := by decide +kernel
theorem dL_law_1534 : decode cL_law 1534 = .ok (.aload_n 3, 1) := by decide +kernel
theorem dL_law_1535 : decode cL_law 1535 = .ok (.iconst 0, 1) := by decide +kernel
theorem dL_law_1536 : decode cL_law 1536 = .ok (.laload, 1) := by decide +kernel
theorem dL_law_1537 : decode cL_law 1537 = .ok (.iload 7, 2) := by decide +kernel
theorem dL_law_1539 : decode cL_law 1539 = .ok (.i2l, 1) := by decide +kernel
theorem dL_law_1540 : decode cL_law 1540 = .ok (.lcmp, 1) := by decide +kernel
theorem dL_law_1541 : decode cL_law 1541 = .ok (.ifCond .eq 5, 3) := by decide +kernel
theorem dL_law_1544 : decode cL_law 1544 = .ok (.iconst 0, 1) := by decide +kernel
theorem dL_law_1545 : decode cL_law 1545 = .ok (.ireturn, 1) := by decide +kernel
theorem dL_law_1546 : decode cL_law 1546 = .ok (.goto 351, 3) := by decide +kernel
theorem dL_law_1549 : decode cL_law 1549 = .ok (.aload_n 1, 1) := by decide +kernel
theorem dL_law_1550 : decode cL_law 1550 = .ok (.invokevirtual 202, 3) := by decide +kernel
theorem dL_law_1553 : decode cL_law 1553 = .ok (.aload_n 2, 1) := by decide +kernel
theorem dL_law_1554 : decode cL_law 1554 = .ok (.invokevirtual 205, 3) := by decide +kernel
theorem dL_law_1557 : decode cL_law 1557 = .ok (.if_icmp .eq 340, 3) := by decide +kernel
theorem dL_law_1560 : decode cL_law 1560 = .ok (.iconst 0, 1) := by decide +kernel
theorem dL_law_1561 : decode cL_law 1561 = .ok (.ireturn, 1) := by decide +kernel
theorem dL_law_1562 : decode cL_law 1562 = .ok (.aload_n 1, 1) := by decide +kernel
theorem dL_law_1563 : decode cL_law 1563 = .ok (.aload_n 3, 1) := by decide +kernel
theorem dL_law_1564 : decode cL_law 1564 = .ok (.invokestatic 206, 3) := by decide +kernel
theorem dL_law_1567 : decode cL_law 1567 = .ok (.istore 6, 2) := by decide +kernel
theorem dL_law_1569 : decode cL_law 1569 = .ok (.aload_n 2, 1) := by decide +kernel
theorem dL_law_1570 : decode cL_law 1570 = .ok (.invokevirtual 208, 3) := by decide +kernel
theorem dL_law_1573 : decode cL_law 1573 = .ok (.istore 7, 2) := by decide +kernel
theorem dL_law_1575 : decode cL_law 1575 = .ok (.aload_n 2, 1) := by decide +kernel
theorem dL_law_1576 : decode cL_law 1576 = .ok (.invokevirtual 118, 3) := by decide +kernel
theorem dL_law_1579 : decode cL_law 1579 = .ok (.iload 6, 2) := by decide +kernel
theorem dL_law_1581 : decode cL_law 1581 = .ok (.if_icmp .eq 5, 3) := by decide +kernel
theorem dL_law_1584 : decode cL_law 1584 = .ok (.iconst 0, 1) := by decide +kernel
theorem dL_law_1585 : decode cL_law 1585 = .ok (.ireturn, 1) := by decide +kernel
theorem dL_law_1586 : decode cL_law 1586 = .ok (.iload 6, 2) := by decide +kernel
theorem dL_law_1588 : decode cL_law 1588 = .ok (.ifCond .ne 15, 3) := by decide +kernel
theorem dL_law_1591 : decode cL_law 1591 = .ok (.aload_n 3, 1) := by decide +kernel
theorem dL_law_1592 : decode cL_law 1592 = .ok (.iconst 0, 1) := by decide +kernel
theorem dL_law_1593 : decode cL_law 1593 = .ok (.laload, 1) := by decide +kernel
theorem dL_law_1594 : decode cL_law 1594 = .ok (.iload 7, 2) := by decide +kernel
theorem dL_law_1596 : decode cL_law 1596 = .ok (.i2l, 1) := by decide +kernel
theorem dL_law_1597 : decode cL_law 1597 = .ok (.lcmp, 1) := by decide +kernel
theorem dL_law_1598 : decode cL_law 1598 = .ok (.ifCond .eq 5, 3) := by decide +kernel
theorem dL_law_1601 : decode cL_law 1601 = .ok (.iconst 0, 1) := by decide +kernel
theorem dL_law_1602 : decode cL_law 1602 = .ok (.ireturn, 1) := by decide +kernel
theorem dL_law_1603 : decode cL_law 1603 = .ok (.goto 294, 3) := by decide +kernel
theorem dL_law_1606 : decode cL_law 1606 = .ok (.aload_n 1, 1) := by decide +kernel
theorem dL_law_1607 : decode cL_law 1607 = .ok (.invokevirtual 209, 3) := by decide +kernel
theorem dL_law_1610 : decode cL_law 1610 = .ok (.aload_n 2, 1) := by decide +kernel
theorem dL_law_1611 : decode cL_law 1611 = .ok (.invokevirtual 212, 3) := by decide +kernel
theorem dL_law_1614 : decode cL_law 1614 = .ok (.if_icmp .eq 283, 3) := by decide +kernel
theorem dL_law_1617 : decode cL_law 1617 = .ok (.iconst 0, 1) := by decide +kernel
theorem dL_law_1618 : decode cL_law 1618 = .ok (.ireturn, 1) := by decide +kernel
theorem dL_law_1619 : decode cL_law 1619 = .ok (.aload_n 1, 1) := by decide +kernel
theorem dL_law_1620 : decode cL_law 1620 = .ok (.invokevirtual 213, 3) := by decide +kernel
theorem dL_law_1623 : decode cL_law 1623 = .ok (.aload_n 2, 1) := by decide +kernel
theorem dL_law_1624 : decode cL_law 1624 = .ok (.invokevirtual 216, 3) := by decide +kernel
theorem dL_law_1627 : decode cL_law 1627 = .ok (.if_icmp .eq 270, 3) := by decide +kernel
theorem dL_law_1630 : decode cL_law 1630 = .ok (.iconst 0, 1) := by decide +kernel
theorem dL_law_1631 : decode cL_law 1631 = .ok (.ireturn, 1) := by decide +kernel
theorem dL_law_1632 : decode cL_law 1632 = .ok (.aload_n 1, 1) := by decide +kernel
theorem dL_law_1633 : decode cL_law 1633 = .ok (.invokevirtual 217, 3) := by decide +kernel
theorem dL_law_1636 : decode cL_law 1636 = .ok (.aload_n 2, 1) := by decide +kernel
theorem dL_law_1637 : decode cL_law 1637 = .ok (.invokevirtual 220, 3) := by decide +kernel
theorem dL_law_1640 : decode cL_law 1640 = .ok (.if_icmp .eq 257, 3) := by decide +kernel
theorem dL_law_1643 : decode cL_law 1643 = .ok (.iconst 0, 1) := by decide +kernel
theorem dL_law_1644 : decode cL_law 1644 = .ok (.ireturn, 1) := by decide +kernel
theorem dL_law_1645 : decode cL_law 1645 = .ok (.aload_n 1, 1) := by decide +kernel
theorem dL_law_1646 : decode cL_law 1646 = .ok (.invokevirtual 221, 3) := by decide +kernel
theorem dL_law_1649 : decode cL_law 1649 = .ok (.aload_n 2, 1) := by decide +kernel
theorem dL_law_1650 : decode cL_law 1650 = .ok (.invokevirtual 224, 3) := by decide +kernel
theorem dL_law_1653 : decode cL_law 1653 = .ok (.if_icmp .eq 244, 3) := by decide +kernel
theorem dL_law_1656 : decode cL_law 1656 = .ok (.iconst 0, 1) := by decide +kernel
theorem dL_law_1657 : decode cL_law 1657 = .ok (.ireturn, 1) := by decide +kernel
theorem dL_law_1658 : decode cL_law 1658 = .ok (.aload_n 1, 1) := by decide +kernel
theorem dL_law_1659 : decode cL_law 1659 = .ok (.invokevirtual 225, 3) := by decide +kernel
theorem dL_law_1662 : decode cL_law 1662 = .ok (.aload_n 2, 1) := by decide +kernel
theorem dL_law_1663 : decode cL_law 1663 = .ok (.invokevirtual 228, 3) := by decide +kernel
theorem dL_law_1666 : decode cL_law 1666 = .ok (.lcmp, 1) := by decide +kernel
theorem dL_law_1667 : decode cL_law 1667 = .ok (.ifCond .eq 230, 3) := by decide +kernel
theorem dL_law_1670 : decode cL_law 1670 = .ok (.iconst 0, 1) := by decide +kernel
theorem dL_law_1671 : decode cL_law 1671 = .ok (.ireturn, 1) := by decide +kernel
theorem dL_law_1672 : decode cL_law 1672 = .ok (.aload_n 1, 1) := by decide +kernel
theorem dL_law_1673 : decode cL_law 1673 = .ok (.aload_n 0, 1) := by decide +kernel
theorem dL_law_1674 : decode cL_law 1674 = .ok (.iload 5, 2) := by decide +kernel
theorem dL_law_1676 : decode cL_law 1676 = .ok (.iconst 1, 1) := by decide +kernel
theorem dL_law_1677 : decode cL_law 1677 = .ok (.iadd, 1) := by decide +kernel
theorem dL_law_1678 : decode cL_law 1678 = .ok (.iaload, 1) := by decide +kernel
theorem dL_law_1679 : decode cL_law 1679 = .ok (.aload_n 0, 1) := by decide +kernel
theorem dL_law_1680 : decode cL_law 1680 = .ok (.iload 5, 2) := by decide +kernel
theorem dL_law_1682 : decode cL_law 1682 = .ok (.iconst 2, 1) := by decide +kernel
theorem dL_law_1683 : decode cL_law 1683 = .ok (.iadd, 1) := by decide +kernel
theorem dL_law_1684 : decode cL_law 1684 = .ok (.iaload, 1) := by decide +kernel
theorem dL_law_1685 : decode cL_law 1685 = .ok (.aload_n 0, 1) := by decide +kernel
theorem dL_law_1686 : decode cL_law 1686 = .ok (.iload 5, 2) := by decide +kernel
theorem dL_law_1688 : decode cL_law 1688 = .ok (.iconst 3, 1) := by decide +kernel
theorem dL_law_1689 : decode cL_law 1689 = .ok (.iadd, 1) := by decide +kernel
theorem dL_law_1690 : decode cL_law 1690 = .ok (.iaload, 1) := by decide +kernel
theorem dL_law_1691 : decode cL_law 1691 = .ok (.aload_n 3, 1) := by decide +kernel
theorem dL_law_1692 : decode cL_law 1692 = .ok (.invokestatic 229, 3) := by decide +kernel
theorem dL_law_1695 : decode cL_law 1695 = .ok (.istore 6, 2) := by decide +kernel
theorem dL_law_1697 : decode cL_law 1697 = .ok (.aload_n 2, 1) := by decide +kernel
theorem dL_law_1698 : decode cL_law 1698 = .ok (.aload_n 0, 1) := by decide +kernel
theorem dL_law_1699 : decode cL_law 1699 = .ok (.iload 5, 2) := by decide +kernel
theorem dL_law_1701 : decode cL_law 1701 = .ok (.iconst 1, 1) := by decide +kernel
theorem dL_law_1702 : decode cL_law 1702 = .ok (.iadd, 1) := by decide +kernel
theorem dL_law_1703 : decode cL_law 1703 = .ok (.iaload, 1) := by decide +kernel
theorem dL_law_1704 : decode cL_law 1704 = .ok (.aload_n 0, 1) := by decide +kernel
theorem dL_law_1705 : decode cL_law 1705 = .ok (.iload 5, 2) := by decide +kernel
theorem dL_law_1707 : decode cL_law 1707 = .ok (.iconst 2, 1) := by decide +kernel
theorem dL_law_1708 : decode cL_law 1708 = .ok (.iadd, 1) := by decide +kernel
theorem dL_law_1709 : decode cL_law 1709 = .ok (.iaload, 1) := by decide +kernel
theorem dL_law_1710 : decode cL_law 1710 = .ok (.aload_n 0, 1) := by decide +kernel
theorem dL_law_1711 : decode cL_law 1711 = .ok (.iload 5, 2) := by decide +kernel
theorem dL_law_1713 : decode cL_law 1713 = .ok (.iconst 3, 1) := by decide +kernel
theorem dL_law_1714 : decode cL_law 1714 = .ok (.iadd, 1) := by decide +kernel
theorem dL_law_1715 : decode cL_law 1715 = .ok (.iaload, 1) := by decide +kernel
theorem dL_law_1716 : decode cL_law 1716 = .ok (.invokevirtual 231, 3) := by decide +kernel
theorem dL_law_1719 : decode cL_law 1719 = .ok (.istore 7, 2) := by decide +kernel
theorem dL_law_1721 : decode cL_law 1721 = .ok (.aload_n 2, 1) := by decide +kernel
theorem dL_law_1722 : decode cL_law 1722 = .ok (.invokevirtual 118, 3) := by decide +kernel
theorem dL_law_1725 : decode cL_law 1725 = .ok (.iload 6, 2) := by decide +kernel
theorem dL_law_1727 : decode cL_law 1727 = .ok (.if_icmp .eq 5, 3) := by decide +kernel
theorem dL_law_1730 : decode cL_law 1730 = .ok (.iconst 0, 1) := by decide +kernel
theorem dL_law_1731 : decode cL_law 1731 = .ok (.ireturn, 1) := by decide +kernel
theorem dL_law_1732 : decode cL_law 1732 = .ok (.iload 6, 2) := by decide +kernel
theorem dL_law_1734 : decode cL_law 1734 = .ok (.ifCond .ne 15, 3) := by decide +kernel
theorem dL_law_1737 : decode cL_law 1737 = .ok (.aload_n 3, 1) := by decide +kernel
theorem dL_law_1738 : decode cL_law 1738 = .ok (.iconst 0, 1) := by decide +kernel
theorem dL_law_1739 : decode cL_law 1739 = .ok (.laload, 1) := by decide +kernel
theorem dL_law_1740 : decode cL_law 1740 = .ok (.iload 7, 2) := by decide +kernel
theorem dL_law_1742 : decode cL_law 1742 = .ok (.i2l, 1) := by decide +kernel
theorem dL_law_1743 : decode cL_law 1743 = .ok (.lcmp, 1) := by decide +kernel
theorem dL_law_1744 : decode cL_law 1744 = .ok (.ifCond .eq 5, 3) := by decide +kernel
theorem dL_law_1747 : decode cL_law 1747 = .ok (.iconst 0, 1) := by decide +kernel
theorem dL_law_1748 : decode cL_law 1748 = .ok (.ireturn, 1) := by decide +kernel
theorem dL_law_1749 : decode cL_law 1749 = .ok (.goto 148, 3) := by decide +kernel
theorem dL_law_1752 : decode cL_law 1752 = .ok (.aload_n 1, 1) := by decide +kernel
theorem dL_law_1753 : decode cL_law 1753 = .ok (.invokevirtual 232, 3) := by decide +kernel
theorem dL_law_1756 : decode cL_law 1756 = .ok (.aload_n 2, 1) := by decide +kernel
theorem dL_law_1757 : decode cL_law 1757 = .ok (.invokevirtual 235, 3) := by decide +kernel
theorem dL_law_1760 : decode cL_law 1760 = .ok (.lcmp, 1) := by decide +kernel
theorem dL_law_1761 : decode cL_law 1761 = .ok (.ifCond .eq 136, 3) := by decide +kernel
theorem dL_law_1764 : decode cL_law 1764 = .ok (.iconst 0, 1) := by decide +kernel
theorem dL_law_1765 : decode cL_law 1765 = .ok (.ireturn, 1) := by decide +kernel
theorem dL_law_1766 : decode cL_law 1766 = .ok (.aload_n 1, 1) := by decide +kernel
theorem dL_law_1767 : decode cL_law 1767 = .ok (.aload 4, 2) := by decide +kernel
theorem dL_law_1769 : decode cL_law 1769 = .ok (.invokestatic 236, 3) := by decide +kernel
theorem dL_law_1772 : decode cL_law 1772 = .ok (.istore 6, 2) := by decide +kernel
theorem dL_law_1774 : decode cL_law 1774 = .ok (.aload_n 2, 1) := by decide +kernel
theorem dL_law_1775 : decode cL_law 1775 = .ok (.invokevirtual 239, 3) := by decide +kernel
theorem dL_law_1778 : decode cL_law 1778 = .ok (.fstore 7, 2) := by decide +kernel
theorem dL_law_1780 : decode cL_law 1780 = .ok (.aload_n 2, 1) := by decide +kernel
theorem dL_law_1781 : decode cL_law 1781 = .ok (.invokevirtual 118, 3) := by decide +kernel
theorem dL_law_1784 : decode cL_law 1784 = .ok (.iload 6, 2) := by decide +kernel
theorem dL_law_1786 : decode cL_law 1786 = .ok (.if_icmp .eq 5, 3) := by decide +kernel
theorem dL_law_1789 : decode cL_law 1789 = .ok (.iconst 0, 1) := by decide +kernel
theorem dL_law_1790 : decode cL_law 1790 = .ok (.ireturn, 1) := by decide +kernel
theorem dL_law_1791 : decode cL_law 1791 = .ok (.iload 6, 2) := by decide +kernel
theorem dL_law_1793 : decode cL_law 1793 = .ok (.ifCond .ne 36, 3) := by decide +kernel
theorem dL_law_1796 : decode cL_law 1796 = .ok (.aload 4, 2) := by decide +kernel
theorem dL_law_1798 : decode cL_law 1798 = .ok (.iconst 0, 1) := by decide +kernel
theorem dL_law_1799 : decode cL_law 1799 = .ok (.daload, 1) := by decide +kernel
theorem dL_law_1800 : decode cL_law 1800 = .ok (.fload 7, 2) := by decide +kernel
theorem dL_law_1802 : decode cL_law 1802 = .ok (.f2d, 1) := by decide +kernel
theorem dL_law_1803 : decode cL_law 1803 = .ok (.dcmp .l, 1) := by decide +kernel
theorem dL_law_1804 : decode cL_law 1804 = .ok (.ifCond .eq 25, 3) := by decide +kernel
theorem dL_law_1807 : decode cL_law 1807 = .ok (.aload 4, 2) := by decide +kernel
theorem dL_law_1809 : decode cL_law 1809 = .ok (.iconst 0, 1) := by decide +kernel
theorem dL_law_1810 : decode cL_law 1810 = .ok (.daload, 1) := by decide +kernel
theorem dL_law_1811 : decode cL_law 1811 = .ok (.aload 4, 2) := by decide +kernel
theorem dL_law_1813 : decode cL_law 1813 = .ok (.iconst 0, 1) := by decide +kernel
theorem dL_law_1814 : decode cL_law 1814 = .ok (.daload, 1) := by decide +kernel
theorem dL_law_1815 : decode cL_law 1815 = .ok (.dcmp .l, 1) := by decide +kernel
theorem dL_law_1816 : decode cL_law 1816 = .ok (.ifCond .eq 11, 3) := by decide +kernel
theorem dL_law_1819 : decode cL_law 1819 = .ok (.fload 7, 2) := by decide +kernel
theorem dL_law_1821 : decode cL_law 1821 = .ok (.fload 7, 2) := by decide +kernel
theorem dL_law_1823 : decode cL_law 1823 = .ok (.fcmp .l, 1) := by decide +kernel
theorem dL_law_1824 : decode cL_law 1824 = .ok (.ifCond .ne 5, 3) := by decide +kernel
theorem dL_law_1827 : decode cL_law 1827 = .ok (.iconst 0, 1) := by decide +kernel
theorem dL_law_1828 : decode cL_law 1828 = .ok (.ireturn, 1) := by decide +kernel
theorem dL_law_1829 : decode cL_law 1829 = .ok (.goto 68, 3) := by decide +kernel
theorem dL_law_1832 : decode cL_law 1832 = .ok (.aload_n 1, 1) := by decide +kernel
theorem dL_law_1833 : decode cL_law 1833 = .ok (.aload 4, 2) := by decide +kernel
theorem dL_law_1835 : decode cL_law 1835 = .ok (.invokestatic 240, 3) := by decide +kernel
theorem dL_law_1838 : decode cL_law 1838 = .ok (.istore 6, 2) := by decide +kernel
theorem dL_law_1840 : decode cL_law 1840 = .ok (.aload_n 2, 1) := by decide +kernel
theorem dL_law_1841 : decode cL_law 1841 = .ok (.invokevirtual 242, 3) := by decide +kernel
theorem dL_law_1844 : decode cL_law 1844 = .ok (.dstore 7, 2) := by decide +kernel
theorem dL_law_1846 : decode cL_law 1846 = .ok (.aload_n 2, 1) := by decide +kernel
theorem dL_law_1847 : decode cL_law 1847 = .ok (.invokevirtual 118, 3) := by decide +kernel
theorem dL_law_1850 : decode cL_law 1850 = .ok (.iload 6, 2) := by decide +kernel
theorem dL_law_1852 : decode cL_law 1852 = .ok (.if_icmp .eq 5, 3) := by decide +kernel
theorem dL_law_1855 : decode cL_law 1855 = .ok (.iconst 0, 1) := by decide +kernel
theorem dL_law_1856 : decode cL_law 1856 = .ok (.ireturn, 1) := by decide +kernel
theorem dL_law_1857 : decode cL_law 1857 = .ok (.iload 6, 2) := by decide +kernel
theorem dL_law_1859 : decode cL_law 1859 = .ok (.ifCond .ne 35, 3) := by decide +kernel
theorem dL_law_1862 : decode cL_law 1862 = .ok (.aload 4, 2) := by decide +kernel
theorem dL_law_1864 : decode cL_law 1864 = .ok (.iconst 0, 1) := by decide +kernel
theorem dL_law_1865 : decode cL_law 1865 = .ok (.daload, 1) := by decide +kernel
theorem dL_law_1866 : decode cL_law 1866 = .ok (.dload 7, 2) := by decide +kernel
theorem dL_law_1868 : decode cL_law 1868 = .ok (.dcmp .l, 1) := by decide +kernel
theorem dL_law_1869 : decode cL_law 1869 = .ok (.ifCond .eq 25, 3) := by decide +kernel
theorem dL_law_1872 : decode cL_law 1872 = .ok (.aload 4, 2) := by decide +kernel
theorem dL_law_1874 : decode cL_law 1874 = .ok (.iconst 0, 1) := by decide +kernel
theorem dL_law_1875 : decode cL_law 1875 = .ok (.daload, 1) := by decide +kernel
theorem dL_law_1876 : decode cL_law 1876 = .ok (.aload 4, 2) := by decide +kernel
theorem dL_law_1878 : decode cL_law 1878 = .ok (.iconst 0, 1) := by decide +kernel
theorem dL_law_1879 : decode cL_law 1879 = .ok (.daload, 1) := by decide +kernel
theorem dL_law_1880 : decode cL_law 1880 = .ok (.dcmp .l, 1) := by decide +kernel
theorem dL_law_1881 : decode cL_law 1881 = .ok (.ifCond .eq 11, 3) := by decide +kernel
theorem dL_law_1884 : decode cL_law 1884 = .ok (.dload 7, 2) := by decide +kernel
theorem dL_law_1886 : decode cL_law 1886 = .ok (.dload 7, 2) := by decide +kernel
theorem dL_law_1888 : decode cL_law 1888 = .ok (.dcmp .l, 1) := by decide +kernel
theorem dL_law_1889 : decode cL_law 1889 = .ok (.ifCond .ne 5, 3) := by decide +kernel
theorem dL_law_1892 : decode cL_law 1892 = .ok (.iconst 0, 1) := by decide +kernel
theorem dL_law_1893 : decode cL_law 1893 = .ok (.ireturn, 1) := by decide +kernel
theorem dL_law_1894 : decode cL_law 1894 = .ok (.goto 3, 3) := by decide +kernel
theorem dL_law_1897 : decode cL_law 1897 = .ok (.iinc 5 8, 3) := by decide +kernel
theorem dL_law_1900 : decode cL_law 1900 = .ok (.goto (-1872), 3) := by decide +kernel
theorem dL_law_1903 : decode cL_law 1903 = .ok (.iconst 1, 1) := by decide +kernel
theorem dL_law_1904 : decode cL_law 1904 = .ok (.ireturn, 1) := by decide +kernel
