theorem dX7_changeNumber_61 : decode cX7_changeNumber 61 = .ok (.goto 40, 3) := by decide +kernel
theorem dX7_changeNumber_64 : decode cX7_changeNumber 64 = .ok (.aload_n 0, 1) := by decide +kernel
theorem dX7_changeNumber_65 : decode cX7_changeNumber 65 = .ok (.iload_n 2, 1) := by decide +kernel
theorem dX7_changeNumber_66 : decode cX7_changeNumber 66 = .ok (.putfield 15, 3) := by decide +kernel
theorem dX7_changeNumber_69 : decode cX7_changeNumber 69 = .ok (.goto 32, 3) := by decide +kernel
theorem dX7_changeNumber_72 : decode cX7_changeNumber 72 = .ok (.aload_n 0, 1) := by decide +kernel
theorem dX7_changeNumber_73 : decode cX7_changeNumber 73 = .ok (.iload_n 2, 1) := by decide +kernel
theorem dX7_changeNumber_74 : decode cX7_changeNumber 74 = .ok (.putfield 18, 3) := by decide +kernel
theorem dX7_changeNumber_77 : decode cX7_changeNumber 77 = .ok (.goto 24, 3) := by decide +kernel
theorem dX7_changeNumber_80 : decode cX7_changeNumber 80 = .ok (.aload_n 0, 1) := by decide +kernel
theorem dX7_changeNumber_81 : decode cX7_changeNumber 81 = .ok (.iload_n 2, 1) := by decide +kernel
theorem dX7_changeNumber_82 : decode cX7_changeNumber 82 = .ok (.putfield 21, 3) := by decide +kernel
theorem dX7_changeNumber_85 : decode cX7_changeNumber 85 = .ok (.goto 16, 3) := by decide +kernel
theorem dX7_changeNumber_88 : decode cX7_changeNumber 88 = .ok (.aload_n 0, 1) := by decide +kernel
theorem dX7_changeNumber_89 : decode cX7_changeNumber 89 = .ok (.iload_n 2, 1) := by decide +kernel
theorem dX7_changeNumber_90 : decode cX7_changeNumber 90 = .ok (.putfield 24, 3) := by decide +kernel
theorem dX7_changeNumber_93 : decode cX7_changeNumber 93 = .ok (.goto 8, 3) := by decide +kernel
theorem dX7_changeNumber_96 : decode cX7_changeNumber 96 = .ok (.aload_n 0, 1) := by decide +kernel
theorem dX7_changeNumber_97 : decode cX7_changeNumber 97 = .ok (.iload_n 2, 1) := by decide +kernel
theorem dX7_changeNumber_98 : decode cX7_changeNumber 98 = .ok (.putfield 27, 3) := by decide +kernel
theorem dX7_changeNumber_101 : decode cX7_changeNumber 101 = .ok (.iload_n 3, 1) := by decide +kernel
theorem dX7_changeNumber_102 : decode cX7_changeNumber 102 = .ok (.ireturn, 1) := by decide +kernel
theorem dX7_numberOf_0 : decode cX7_numberOf 0 = .ok (.iload_n 1, 1) := by decide +kernel
theorem dX7_numberOf_1 : decode cX7_numberOf 1 = .ok (.lookupswitch 76 #[(100, 61), (103, 71), (107, 56), (115, 66), (119, 51)], 51) := by decide +kernel
theorem dX7_numberOf_52 : decode cX7_numberOf 52 = .ok (.aload_n 0, 1) := by decide +kernel
theorem dX7_numberOf_53 : decode cX7_numberOf 53 = .ok (.getfield 9, 3) := by decide +kernel
theorem dX7_numberOf_56 : decode cX7_numberOf 56 = .ok (.ireturn, 1) := by decide +kernel
theorem dX7_numberOf_57 : decode cX7_numberOf 57 = .ok (.aload_n 0, 1) := by decide +kernel
theorem dX7_numberOf_58 : decode cX7_numberOf 58 = .ok (.getfield 15, 3) := by decide +kernel
theorem dX7_numberOf_61 : decode cX7_numberOf 61 = .ok (.ireturn, 1) := by decide +kernel
theorem dX7_numberOf_62 : decode cX7_numberOf 62 = .ok (.aload_n 0, 1) := by decide +kernel
theorem dX7_numberOf_63 : decode cX7_numberOf 63 = .ok (.getfield 18, 3) := by decide +kernel
theorem dX7_numberOf_66 : decode cX7_numberOf 66 = .ok (.ireturn, 1) := by decide +kernel
theorem dX7_numberOf_67 : decode cX7_numberOf 67 = .ok (.aload_n 0, 1) := by decide +kernel
theorem dX7_numberOf_68 : decode cX7_numberOf 68 = .ok (.getfield 21, 3) := by decide +kernel
theorem dX7_numberOf_71 : decode cX7_numberOf 71 = .ok (.ireturn, 1) := by decide +kernel
theorem dX7_numberOf_72 : decode cX7_numberOf 72 = .ok (.aload_n 0, 1) := by decide +kernel
theorem dX7_numberOf_73 : decode cX7_numberOf 73 = .ok (.getfield 24, 3) := by decide +kernel
theorem dX7_numberOf_76 : decode cX7_numberOf 76 = .ok (.ireturn, 1) := by decide +kernel
theorem dX7_numberOf_77 : decode cX7_numberOf 77 = .ok (.aload_n 0, 1) := by decide +kernel
theorem dX7_numberOf_78 : decode cX7_numberOf 78 = .ok (.getfield 27, 3) := by decide +kernel
theorem dX7_numberOf_81 : decode cX7_numberOf 81 = .ok (.ireturn, 1) := by decide +kernel
theorem dX7_changePattern_0 : decode cX7_changePattern 0 = .ok (.aload_n 0, 1) := by decide +kernel
theorem dX7_changePattern_1 : decode cX7_changePattern 1 = .ok (.getfield 30, 3) := by decide +kernel
theorem dX7_changePattern_4 : decode cX7_changePattern 4 = .ok (.istore_n 2, 1) := by decide +kernel
theorem dX7_changePattern_5 : decode cX7_changePattern 5 = .ok (.aload_n 0, 1) := by decide +kernel
theorem dX7_changePattern_6 : decode cX7_changePattern 6 = .ok (.iload_n 1, 1) := by decide +kernel
theorem dX7_changePattern_7 : decode cX7_changePattern 7 = .ok (.putfield 30, 3) := by decide +kernel
theorem dX7_changePattern_10 : decode cX7_changePattern 10 = .ok (.iload_n 2, 1) := by decide +kernel
theorem dX7_changePattern_11 : decode cX7_changePattern 11 = .ok (.ireturn, 1) := by decide +kernel
theorem dX7_changeThickness_0 : decode cX7_changeThickness 0 = .ok (.aload_n 0, 1) := by decide +kernel
theorem dX7_changeThickness_1 : decode cX7_changeThickness 1 = .ok (.iload_n 1, 1) := by decide +kernel
theorem dX7_changeThickness_2 : decode cX7_changeThickness 2 = .ok (.invokevirtual 55, 3) := by decide +kernel
theorem dX7_changeThickness_5 : decode cX7_changeThickness 5 = .ok (.istore_n 3, 1) := by decide +kernel
theorem dX7_changeThickness_6 : decode cX7_changeThickness 6 = .ok (.iload_n 1, 1) := by decide +kernel
theorem dX7_changeThickness_7 : decode cX7_changeThickness 7 = .ok (.invokestatic 59, 3) := by decide +kernel
theorem dX7_changeThickness_10 : decode cX7_changeThickness 10 = .ok (.ifCond .eq 10, 3) := by decide +kernel
theorem dX7_changeThickness_13 : decode cX7_changeThickness 13 = .ok (.aload_n 0, 1) := by decide +kernel
theorem dX7_changeThickness_14 : decode cX7_changeThickness 14 = .ok (.getfield 34, 3) := by decide +kernel
theorem dX7_changeThickness_17 : decode cX7_changeThickness 17 = .ok (.iload_n 1, 1) := by decide +kernel
theorem dX7_changeThickness_18 : decode cX7_changeThickness 18 = .ok (.iload_n 2, 1) := by decide +kernel
theorem dX7_changeThickness_19 : decode cX7_changeThickness 19 = .ok (.iastore, 1) := by decide +kernel
theorem dX7_changeThickness_20 : decode cX7_changeThickness 20 = .ok (.iload_n 3, 1) := by decide +kernel
theorem dX7_changeThickness_21 : decode cX7_changeThickness 21 = .ok (.ireturn, 1) := by decide +kernel
theorem dX7_changePause_0 : decode cX7_changePause 0 = .ok (.aload_n 0, 1) := by decide +kernel
theorem dX7_changePause_1 : decode cX7_changePause 1 = .ok (.iload_n 1, 1) := by decide +kernel
theorem dX7_changePause_2 : decode cX7_changePause 2 = .ok (.invokevirtual 63, 3) := by decide +kernel
theorem dX7_changePause_5 : decode cX7_changePause 5 = .ok (.istore_n 3, 1) := by decide +kernel
theorem dX7_changePause_6 : decode cX7_changePause 6 = .ok (.iload_n 1, 1) := by decide +kernel
theorem dX7_changePause_7 : decode cX7_changePause 7 = .ok (.invokestatic 59, 3) := by decide +kernel
theorem dX7_changePause_10 : decode cX7_changePause 10 = .ok (.ifCond .eq 10, 3) := by decide +kernel
theorem dX7_changePause_13 : decode cX7_changePause 13 = .ok (.aload_n 0, 1) := by decide +kernel
theorem dX7_changePause_14 : decode cX7_changePause 14 = .ok (.getfield 38, 3) := by decide +kernel
theorem dX7_changePause_17 : decode cX7_changePause 17 = .ok (.iload_n 1, 1) := by decide +kernel
theorem dX7_changePause_18 : decode cX7_changePause 18 = .ok (.iload_n 2, 1) := by decide +kernel
theorem dX7_changePause_19 : decode cX7_changePause 19 = .ok (.bastore, 1) := by decide +kernel
theorem dX7_changePause_20 : decode cX7_changePause 20 = .ok (.iload_n 3, 1) := by decide +kernel
theorem dX7_changePause_21 : decode cX7_changePause 21 = .ok (.ireturn, 1) := by decide +kernel
theorem dX7_thicknessOf_0 : decode cX7_thicknessOf 0 = .ok (.iload_n 1, 1) := by decide +kernel
theorem dX7_thicknessOf_1 : decode cX7_thicknessOf 1 = .ok (.invokestatic 59, 3) := by decide +kernel
theorem dX7_thicknessOf_4 : decode cX7_thicknessOf 4 = .ok (.ifCond .eq 12, 3) := by decide +kernel
theorem dX7_thicknessOf_7 : decode cX7_thicknessOf 7 = .ok (.aload_n 0, 1) := by decide +kernel
theorem dX7_thicknessOf_8 : decode cX7_thicknessOf 8 = .ok (.getfield 34, 3) := by decide +kernel
theorem dX7_thicknessOf_11 : decode cX7_thicknessOf 11 = .ok (.iload_n 1, 1) := by decide +kernel
theorem dX7_thicknessOf_12 : decode cX7_thicknessOf 12 = .ok (.iaload, 1) := by decide +kernel
theorem dX7_thicknessOf_13 : decode cX7_thicknessOf 13 = .ok (.goto 4, 3) := by decide +kernel
theorem dX7_thicknessOf_16 : decode cX7_thicknessOf 16 = .ok (.iconst 1, 1) := by decide +kernel
theorem dX7_thicknessOf_17 : decode cX7_thicknessOf 17 = .ok (.ireturn, 1) := by decide +kernel
theorem dX7_hasPause_0 : decode cX7_hasPause 0 = .ok (.iload_n 1, 1) := by decide +kernel
theorem dX7_hasPause_1 : decode cX7_hasPause 1 = .ok (.invokestatic 59, 3) := by decide +kernel
theorem dX7_hasPause_4 : decode cX7_hasPause 4 = .ok (.ifCond .eq 16, 3) := by decide +kernel
theorem dX7_hasPause_7 : decode cX7_hasPause 7 = .ok (.aload_n 0, 1) := by decide +kernel
theorem dX7_hasPause_8 : decode cX7_hasPause 8 = .ok (.getfield 38, 3) := by decide +kernel
theorem dX7_hasPause_11 : decode cX7_hasPause 11 = .ok (.iload_n 1, 1) := by decide +kernel
theorem dX7_hasPause_12 : decode cX7_hasPause 12 = .ok (.baload, 1) := by decide +kernel
theorem dX7_hasPause_13 : decode cX7_hasPause 13 = .ok (.ifCond .eq 7, 3) := by decide +kernel
theorem dX7_hasPause_16 : decode cX7_hasPause 16 = .ok (.iconst 1, 1) := by decide +kernel
theorem dX7_hasPause_17 : decode cX7_hasPause 17 = .ok (.goto 4, 3) := by decide +kernel
theorem dX7_hasPause_20 : decode cX7_hasPause 20 = .ok (.iconst 0, 1) := by decide +kernel
theorem dX7_hasPause_21 : decode cX7_hasPause 21 = .ok (.ireturn, 1) := by decide +kernel
theorem dX7_wallCount_0 : decode cX7_wallCount 0 = .ok (.aload_n 0, 1) := by decide +kernel
theorem dX7_wallCount_1 : decode cX7_wallCount 1 = .ok (.getfield 9, 3) := by decide +kernel
theorem dX7_wallCount_4 : decode cX7_wallCount 4 = .ok (.ireturn, 1) := by decide +kernel
theorem dX7_skinCount_0 : decode cX7_skinCount 0 = .ok (.aload_n 0, 1) := by decide +kernel
theorem dX7_skinCount_1 : decode cX7_skinCount 1 = .ok (.getfield 15, 3) := by decide +kernel
theorem dX7_skinCount_4 : decode cX7_skinCount 4 = .ok (.ireturn, 1) := by decide +kernel
theorem dX7_hasSupports_0 : decode cX7_hasSupports 0 = .ok (.aload_n 0, 1) := by decide +kernel
theorem dX7_hasSupports_1 : decode cX7_hasSupports 1 = .ok (.getfield 21, 3) := by decide +kernel
theorem dX7_hasSupports_4 : decode cX7_hasSupports 4 = .ok (.ifCond .eq 7, 3) := by decide +kernel
theorem dX7_hasSupports_7 : decode cX7_hasSupports 7 = .ok (.iconst 1, 1) := by decide +kernel
theorem dX7_hasSupports_8 : decode cX7_hasSupports 8 = .ok (.goto 4, 3) := by decide +kernel
theorem dX7_hasSupports_11 : decode cX7_hasSupports 11 = .ok (.iconst 0, 1) := by decide +kernel
theorem dX7_hasSupports_12 : decode cX7_hasSupports 12 = .ok (.ireturn, 1) := by decide +kernel
theorem dX7_gapSize_0 : decode cX7_gapSize 0 = .ok (.aload_n 0, 1) := by decide +kernel
theorem dX7_gapSize_1 : decode cX7_gapSize 1 = .ok (.getfield 24, 3) := by decide +kernel
theorem dX7_gapSize_4 : decode cX7_gapSize 4 = .ok (.ireturn, 1) := by decide +kernel
theorem dX7_reachLength_0 : decode cX7_reachLength 0 = .ok (.aload_n 0, 1) := by decide +kernel
theorem dX7_reachLength_1 : decode cX7_reachLength 1 = .ok (.getfield 27, 3) := by decide +kernel
theorem dX7_reachLength_4 : decode cX7_reachLength 4 = .ok (.ireturn, 1) := by decide +kernel
theorem dX7_fills_0 : decode cX7_fills 0 = .ok (.aload_n 0, 1) := by decide +kernel
theorem dX7_fills_1 : decode cX7_fills 1 = .ok (.getfield 30, 3) := by decide +kernel
theorem dX7_fills_4 : decode cX7_fills 4 = .ok (.lookupswitch 67 #[(103, 45), (108, 28)], 28) := by decide +kernel
theorem dX7_fills_32 : decode cX7_fills 32 = .ok (.aload_n 0, 1) := by decide +kernel
theorem dX7_fills_33 : decode cX7_fills 33 = .ok (.iload_n 3, 1) := by decide +kernel
theorem dX7_fills_34 : decode cX7_fills 34 = .ok (.invokestatic 66, 3) := by decide +kernel
theorem dX7_fills_37 : decode cX7_fills 37 = .ok (.ifCond .eq 7, 3) := by decide +kernel
theorem dX7_fills_40 : decode cX7_fills 40 = .ok (.iload_n 2, 1) := by decide +kernel
theorem dX7_fills_41 : decode cX7_fills 41 = .ok (.goto 4, 3) := by decide +kernel
theorem dX7_fills_44 : decode cX7_fills 44 = .ok (.iload_n 1, 1) := by decide +kernel
theorem dX7_fills_45 : decode cX7_fills 45 = .ok (.invokevirtual 69, 3) := by decide +kernel
theorem dX7_fills_48 : decode cX7_fills 48 = .ok (.ireturn, 1) := by decide +kernel
theorem dX7_fills_49 : decode cX7_fills 49 = .ok (.aload_n 0, 1) := by decide +kernel
theorem dX7_fills_50 : decode cX7_fills 50 = .ok (.iload_n 1, 1) := by decide +kernel
theorem dX7_fills_51 : decode cX7_fills 51 = .ok (.invokevirtual 69, 3) := by decide +kernel
theorem dX7_fills_54 : decode cX7_fills 54 = .ok (.ifCond .ne 11, 3) := by decide +kernel
theorem dX7_fills_57 : decode cX7_fills 57 = .ok (.aload_n 0, 1) := by decide +kernel
theorem dX7_fills_58 : decode cX7_fills 58 = .ok (.iload_n 2, 1) := by decide +kernel
theorem dX7_fills_59 : decode cX7_fills 59 = .ok (.invokevirtual 69, 3) := by decide +kernel
theorem dX7_fills_62 : decode cX7_fills 62 = .ok (.ifCond .eq 7, 3) := by decide +kernel
theorem dX7_fills_65 : decode cX7_fills 65 = .ok (.iconst 1, 1) := by decide +kernel
theorem dX7_fills_66 : decode cX7_fills 66 = .ok (.goto 4, 3) := by decide +kernel
theorem dX7_fills_69 : decode cX7_fills 69 = .ok (.iconst 0, 1) := by decide +kernel
theorem dX7_fills_70 : decode cX7_fills 70 = .ok (.ireturn, 1) := by decide +kernel
theorem dX7_fills_71 : decode cX7_fills 71 = .ok (.aload_n 0, 1) := by decide +kernel
theorem dX7_fills_72 : decode cX7_fills 72 = .ok (.iload_n 1, 1) := by decide +kernel
theorem dX7_fills_73 : decode cX7_fills 73 = .ok (.aload_n 0, 1) := by decide +kernel
theorem dX7_fills_74 : decode cX7_fills 74 = .ok (.iload_n 2, 1) := by decide +kernel
theorem dX7_fills_75 : decode cX7_fills 75 = .ok (.iload_n 3, 1) := by decide +kernel
theorem dX7_fills_76 : decode cX7_fills 76 = .ok (.iadd, 1) := by decide +kernel
theorem dX7_fills_77 : decode cX7_fills 77 = .ok (.invokevirtual 72, 3) := by decide +kernel
theorem dX7_fills_80 : decode cX7_fills 80 = .ok (.iadd, 1) := by decide +kernel
theorem dX7_fills_81 : decode cX7_fills 81 = .ok (.invokevirtual 69, 3) := by decide +kernel
theorem dX7_fills_84 : decode cX7_fills 84 = .ok (.ireturn, 1) := by decide +kernel
theorem dX7_isLine_0 : decode cX7_isLine 0 = .ok (.aload_n 0, 1) := by decide +kernel
theorem dX7_isLine_1 : decode cX7_isLine 1 = .ok (.getfield 18, 3) := by decide +kernel
theorem dX7_isLine_4 : decode cX7_isLine 4 = .ok (.ifCond .le 16, 3) := by decide +kernel
theorem dX7_isLine_7 : decode cX7_isLine 7 = .ok (.iload_n 1, 1) := by decide +kernel
theorem dX7_isLine_8 : decode cX7_isLine 8 = .ok (.aload_n 0, 1) := by decide +kernel
theorem dX7_isLine_9 : decode cX7_isLine 9 = .ok (.getfield 18, 3) := by decide +kernel
theorem dX7_isLine_12 : decode cX7_isLine 12 = .ok (.irem, 1) := by decide +kernel
theorem dX7_isLine_13 : decode cX7_isLine 13 = .ok (.ifCond .ne 7, 3) := by decide +kernel
theorem dX7_isLine_16 : decode cX7_isLine 16 = .ok (.iconst 1, 1) := by decide +kernel
theorem dX7_isLine_17 : decode cX7_isLine 17 = .ok (.goto 4, 3) := by decide +kernel
theorem dX7_isLine_20 : decode cX7_isLine 20 = .ok (.iconst 0, 1) := by decide +kernel
theorem dX7_isLine_21 : decode cX7_isLine 21 = .ok (.ireturn, 1) := by decide +kernel
theorem dX7_waveAt_0 : decode cX7_waveAt 0 = .ok (.iconst 2, 1) := by decide +kernel
theorem dX7_waveAt_1 : decode cX7_waveAt 1 = .ok (.aload_n 0, 1) := by decide +kernel
theorem dX7_waveAt_2 : decode cX7_waveAt 2 = .ok (.getfield 18, 3) := by decide +kernel
theorem dX7_waveAt_5 : decode cX7_waveAt 5 = .ok (.imul, 1) := by decide +kernel
theorem dX7_waveAt_6 : decode cX7_waveAt 6 = .ok (.istore_n 2, 1) := by decide +kernel
theorem dX7_waveAt_7 : decode cX7_waveAt 7 = .ok (.iload_n 2, 1) := by decide +kernel
theorem dX7_waveAt_8 : decode cX7_waveAt 8 = .ok (.ifCond .le 17, 3) := by decide +kernel
theorem dX7_waveAt_11 : decode cX7_waveAt 11 = .ok (.aload_n 0, 1) := by decide +kernel
theorem dX7_waveAt_12 : decode cX7_waveAt 12 = .ok (.getfield 18, 3) := by decide +kernel
theorem dX7_waveAt_15 : decode cX7_waveAt 15 = .ok (.iload_n 1, 1) := by decide +kernel
theorem dX7_waveAt_16 : decode cX7_waveAt 16 = .ok (.iload_n 2, 1) := by decide +kernel
theorem dX7_waveAt_17 : decode cX7_waveAt 17 = .ok (.irem, 1) := by decide +kernel
theorem dX7_waveAt_18 : decode cX7_waveAt 18 = .ok (.isub, 1) := by decide +kernel
theorem dX7_waveAt_19 : decode cX7_waveAt 19 = .ok (.invokestatic 75, 3) := by decide +kernel
theorem dX7_waveAt_22 : decode cX7_waveAt 22 = .ok (.goto 4, 3) := by decide +kernel
theorem dX7_waveAt_25 : decode cX7_waveAt 25 = .ok (.iconst 0, 1) := by decide +kernel
theorem dX7_waveAt_26 : decode cX7_waveAt 26 = .ok (.ireturn, 1) := by decide +kernel
theorem dX8_init_0 : decode cX8_init 0 = .ok (.aload_n 0, 1) := by decide +kernel
theorem dX8_init_1 : decode cX8_init 1 = .ok (.invokespecial 3, 3) := by decide +kernel
theorem dX8_init_4 : decode cX8_init 4 = .ok (.aload_n 0, 1) := by decide +kernel
theorem dX8_init_5 : decode cX8_init 5 = .ok (.aload_n 1, 1) := by decide +kernel
theorem dX8_init_6 : decode cX8_init 6 = .ok (.putfield 9, 3) := by decide +kernel
theorem dX8_init_9 : decode cX8_init 9 = .ok (.aload_n 0, 1) := by decide +kernel
theorem dX8_init_10 : decode cX8_init 10 = .ok (.sipush 144, 3) := by decide +kernel
theorem dX8_init_13 : decode cX8_init 13 = .ok (.newarray .char, 2) := by decide +kernel
theorem dX8_init_15 : decode cX8_init 15 = .ok (.putfield 15, 3) := by decide +kernel
theorem dX8_init_18 : decode cX8_init 18 = .ok (.aload_n 0, 1) := by decide +kernel
theorem dX8_init_19 : decode cX8_init 19 = .ok (.sipush 144, 3) := by decide +kernel
theorem dX8_init_22 : decode cX8_init 22 = .ok (.newarray .int, 2) := by decide +kernel
theorem dX8_init_24 : decode cX8_init 24 = .ok (.putfield 19, 3) := by decide +kernel
theorem dX8_init_27 : decode cX8_init 27 = .ok (.aload_n 0, 1) := by decide +kernel
theorem dX8_init_28 : decode cX8_init 28 = .ok (.sipush 144, 3) := by decide +kernel
theorem dX8_init_31 : decode cX8_init 31 = .ok (.newarray .int, 2) := by decide +kernel
theorem dX8_init_33 : decode cX8_init 33 = .ok (.putfield 23, 3) := by decide +kernel
theorem dX8_init_36 : decode cX8_init 36 = .ok (.aload_n 0, 1) := by decide +kernel
theorem dX8_init_37 : decode cX8_init 37 = .ok (.sipush 144, 3) := by decide +kernel
theorem dX8_init_40 : decode cX8_init 40 = .ok (.newarray .int, 2) := by decide +kernel
theorem dX8_init_42 : decode cX8_init 42 = .ok (.putfield 26, 3) := by decide +kernel
theorem dX8_init_45 : decode cX8_init 45 = .ok (.aload_n 0, 1) := by decide +kernel
theorem dX8_init_46 : decode cX8_init 46 = .ok (.sipush 144, 3) := by decide +kernel
theorem dX8_init_49 : decode cX8_init 49 = .ok (.newarray .int, 2) := by decide +kernel
theorem dX8_init_51 : decode cX8_init 51 = .ok (.putfield 29, 3) := by decide +kernel
theorem dX8_init_54 : decode cX8_init 54 = .ok (.return_, 1) := by decide +kernel
theorem dX8_collect_0 : decode cX8_collect 0 = .ok (.aload_n 0, 1) := by decide +kernel
theorem dX8_collect_1 : decode cX8_collect 1 = .ok (.iconst 0, 1) := by decide +kernel
theorem dX8_collect_2 : decode cX8_collect 2 = .ok (.putfield 32, 3) := by decide +kernel
theorem dX8_collect_5 : decode cX8_collect 5 = .ok (.iconst 0, 1) := by decide +kernel
theorem dX8_collect_6 : decode cX8_collect 6 = .ok (.istore_n 2, 1) := by decide +kernel
theorem dX8_collect_7 : decode cX8_collect 7 = .ok (.iload_n 2, 1) := by decide +kernel
theorem dX8_collect_8 : decode cX8_collect 8 = .ok (.getstatic 36, 3) := by decide +kernel
theorem dX8_collect_11 : decode cX8_collect 11 = .ok (.arraylength, 1) := by decide +kernel
theorem dX8_collect_12 : decode cX8_collect 12 = .ok (.if_icmp .ge 34, 3) := by decide +kernel
theorem dX8_collect_15 : decode cX8_collect 15 = .ok (.iconst 0, 1) := by decide +kernel
theorem dX8_collect_16 : decode cX8_collect 16 = .ok (.istore_n 3, 1) := by decide +kernel
theorem dX8_collect_17 : decode cX8_collect 17 = .ok (.iload_n 3, 1) := by decide +kernel
theorem dX8_collect_18 : decode cX8_collect 18 = .ok (.bipush 12, 2) := by decide +kernel
theorem dX8_collect_20 : decode cX8_collect 20 = .ok (.if_icmp .ge 20, 3) := by decide +kernel
theorem dX8_collect_23 : decode cX8_collect 23 = .ok (.aload_n 0, 1) := by decide +kernel
theorem dX8_collect_24 : decode cX8_collect 24 = .ok (.getstatic 36, 3) := by decide +kernel
theorem dX8_collect_27 : decode cX8_collect 27 = .ok (.iload_n 2, 1) := by decide +kernel
theorem dX8_collect_28 : decode cX8_collect 28 = .ok (.caload, 1) := by decide +kernel
theorem dX8_collect_29 : decode cX8_collect 29 = .ok (.iload_n 3, 1) := by decide +kernel
theorem dX8_collect_30 : decode cX8_collect 30 = .ok (.iload_n 1, 1) := by decide +kernel
theorem dX8_collect_31 : decode cX8_collect 31 = .ok (.invokevirtual 39, 3) := by decide +kernel
theorem dX8_collect_34 : decode cX8_collect 34 = .ok (.iinc 3 1, 3) := by decide +kernel
theorem dX8_collect_37 : decode cX8_collect 37 = .ok (.goto (-20), 3) := by decide +kernel
theorem dX8_collect_40 : decode cX8_collect 40 = .ok (.iinc 2 1, 3) := by decide +kernel
theorem dX8_collect_43 : decode cX8_collect 43 = .ok (.goto (-36), 3) := by decide +kernel
theorem dX8_collect_46 : decode cX8_collect 46 = .ok (.return_, 1) := by decide +kernel
theorem dX8_collectRow_0 : decode cX8_collectRow 0 = .ok (.iconst (-1), 1) := by decide +kernel
theorem dX8_collectRow_1 : decode cX8_collectRow 1 = .ok (.istore 4, 2) := by decide +kernel
theorem dX8_collectRow_3 : decode cX8_collectRow 3 = .ok (.iconst 0, 1) := by decide +kernel
theorem dX8_collectRow_4 : decode cX8_collectRow 4 = .ok (.istore 5, 2) := by decide +kernel
theorem dX8_collectRow_6 : decode cX8_collectRow 6 = .ok (.iload 5, 2) := by decide +kernel
theorem dX8_collectRow_8 : decode cX8_collectRow 8 = .ok (.bipush 12, 2) := by decide +kernel
theorem dX8_collectRow_10 : decode cX8_collectRow 10 = .ok (.if_icmp .gt 71, 3) := by decide +kernel
theorem dX8_collectRow_13 : decode cX8_collectRow 13 = .ok (.aload_n 0, 1) := by decide +kernel
theorem dX8_collectRow_14 : decode cX8_collectRow 14 = .ok (.iload 5, 2) := by decide +kernel
theorem dX8_collectRow_16 : decode cX8_collectRow 16 = .ok (.iload_n 2, 1) := by decide +kernel
theorem dX8_collectRow_17 : decode cX8_collectRow 17 = .ok (.iload_n 3, 1) := by decide +kernel
theorem dX8_collectRow_18 : decode cX8_collectRow 18 = .ok (.invokevirtual 43, 3) := by decide +kernel
theorem dX8_collectRow_21 : decode cX8_collectRow 21 = .ok (.iload_n 1, 1) := by decide +kernel
theorem dX8_collectRow_22 : decode cX8_collectRow 22 = .ok (.if_icmp .ne 7, 3) := by decide +kernel
theorem dX8_collectRow_25 : decode cX8_collectRow 25 = .ok (.iconst 1, 1) := by decide +kernel
theorem dX8_collectRow_26 : decode cX8_collectRow 26 = .ok (.goto 4, 3) := by decide +kernel
theorem dX8_collectRow_29 : decode cX8_collectRow 29 = .ok (.iconst 0, 1) := by decide +kernel
theorem dX8_collectRow_30 : decode cX8_collectRow 30 = .ok (.istore 6, 2) := by decide +kernel
theorem dX8_collectRow_32 : decode cX8_collectRow 32 = .ok (.iload 6, 2) := by decide +kernel
theorem dX8_collectRow_34 : decode cX8_collectRow 34 = .ok (.ifCond .eq 15, 3) := by decide +kernel
theorem dX8_collectRow_37 : decode cX8_collectRow 37 = .ok (.iload 4, 2) := by decide +kernel
theorem dX8_collectRow_39 : decode cX8_collectRow 39 = .ok (.ifCond .ge 10, 3) := by decide +kernel
theorem dX8_collectRow_42 : decode cX8_collectRow 42 = .ok (.iload 5, 2) := by decide +kernel
theorem dX8_collectRow_44 : decode cX8_collectRow 44 = .ok (.istore 4, 2) := by decide +kernel
theorem dX8_collectRow_46 : decode cX8_collectRow 46 = .ok (.goto 29, 3) := by decide +kernel
theorem dX8_collectRow_49 : decode cX8_collectRow 49 = .ok (.iload 6, 2) := by decide +kernel
theorem dX8_collectRow_51 : decode cX8_collectRow 51 = .ok (.ifCond .ne 24, 3) := by decide +kernel
theorem dX8_collectRow_54 : decode cX8_collectRow 54 = .ok (.iload 4, 2) := by decide +kernel
theorem dX8_collectRow_56 : decode cX8_collectRow 56 = .ok (.ifCond .lt 19, 3) := by decide +kernel
theorem dX8_collectRow_59 : decode cX8_collectRow 59 = .ok (.aload_n 0, 1) := by decide +kernel
theorem dX8_collectRow_60 : decode cX8_collectRow 60 = .ok (.iload_n 1, 1) := by decide +kernel
theorem dX8_collectRow_61 : decode cX8_collectRow 61 = .ok (.iload 4, 2) := by decide +kernel
theorem dX8_collectRow_63 : decode cX8_collectRow 63 = .ok (.iload 5, 2) := by decide +kernel
theorem dX8_collectRow_65 : decode cX8_collectRow 65 = .ok (.iconst 1, 1) := by decide +kernel
theorem dX8_collectRow_66 : decode cX8_collectRow 66 = .ok (.isub, 1) := by decide +kernel
theorem dX8_collectRow_67 : decode cX8_collectRow 67 = .ok (.iload_n 2, 1) := by decide +kernel
theorem dX8_collectRow_68 : decode cX8_collectRow 68 = .ok (.iload_n 3, 1) := by decide +kernel
theorem dX8_collectRow_69 : decode cX8_collectRow 69 = .ok (.invokevirtual 47, 3) := by decide +kernel
theorem dX8_collectRow_72 : decode cX8_collectRow 72 = .ok (.iconst (-1), 1) := by decide +kernel
theorem dX8_collectRow_73 : decode cX8_collectRow 73 = .ok (.istore 4, 2) := by decide +kernel
theorem dX8_collectRow_75 : decode cX8_collectRow 75 = .ok (.iinc 5 1, 3) := by decide +kernel
theorem dX8_collectRow_78 : decode cX8_collectRow 78 = .ok (.goto (-72), 3) := by decide +kernel
theorem dX8_collectRow_81 : decode cX8_collectRow 81 = .ok (.return_, 1) := by decide +kernel
theorem dX8_kindOn_0 : decode cX8_kindOn 0 = .ok (.iload_n 3, 1) := by decide +kernel
theorem dX8_kindOn_1 : decode cX8_kindOn 1 = .ok (.invokestatic 51, 3) := by decide +kernel
theorem dX8_kindOn_4 : decode cX8_kindOn 4 = .ok (.ifCond .eq 16, 3) := by decide +kernel
theorem dX8_kindOn_7 : decode cX8_kindOn 7 = .ok (.aload_n 0, 1) := by decide +kernel
theorem dX8_kindOn_8 : decode cX8_kindOn 8 = .ok (.getfield 9, 3) := by decide +kernel
theorem dX8_kindOn_11 : decode cX8_kindOn 11 = .ok (.iload_n 1, 1) := by decide +kernel
theorem dX8_kindOn_12 : decode cX8_kindOn 12 = .ok (.iload_n 2, 1) := by decide +kernel
theorem dX8_kindOn_13 : decode cX8_kindOn 13 = .ok (.iload_n 3, 1) := by decide +kernel
theorem dX8_kindOn_14 : decode cX8_kindOn 14 = .ok (.invokevirtual 55, 3) := by decide +kernel
theorem dX8_kindOn_17 : decode cX8_kindOn 17 = .ok (.goto 13, 3) := by decide +kernel
theorem dX8_kindOn_20 : decode cX8_kindOn 20 = .ok (.aload_n 0, 1) := by decide +kernel
theorem dX8_kindOn_21 : decode cX8_kindOn 21 = .ok (.getfield 9, 3) := by decide +kernel
theorem dX8_kindOn_24 : decode cX8_kindOn 24 = .ok (.iload_n 2, 1) := by decide +kernel
theorem dX8_kindOn_25 : decode cX8_kindOn 25 = .ok (.iload_n 1, 1) := by decide +kernel
theorem dX8_kindOn_26 : decode cX8_kindOn 26 = .ok (.iload_n 3, 1) := by decide +kernel
theorem dX8_kindOn_27 : decode cX8_kindOn 27 = .ok (.invokevirtual 55, 3) := by decide +kernel
theorem dX8_kindOn_30 : decode cX8_kindOn 30 = .ok (.ireturn, 1) := by decide +kernel
theorem dX8_add_0 : decode cX8_add 0 = .ok (.aload_n 0, 1) := by decide +kernel
theorem dX8_add_1 : decode cX8_add 1 = .ok (.getfield 32, 3) := by decide +kernel
theorem dX8_add_4 : decode cX8_add 4 = .ok (.sipush 144, 3) := by decide +kernel
theorem dX8_add_7 : decode cX8_add 7 = .ok (.if_icmp .lt 4, 3) := by decide +kernel
theorem dX8_add_10 : decode cX8_add 10 = .ok (.return_, 1) := by decide +kernel
theorem dX8_add_11 : decode cX8_add 11 = .ok (.iload 5, 2) := by decide +kernel
theorem dX8_add_13 : decode cX8_add 13 = .ok (.invokestatic 51, 3) := by decide +kernel
theorem dX8_add_16 : decode cX8_add 16 = .ok (.istore 6, 2) := by decide +kernel
theorem dX8_add_18 : decode cX8_add 18 = .ok (.aload_n 0, 1) := by decide +kernel
theorem dX8_add_19 : decode cX8_add 19 = .ok (.getfield 15, 3) := by decide +kernel
theorem dX8_add_22 : decode cX8_add 22 = .ok (.aload_n 0, 1) := by decide +kernel
theorem dX8_add_23 : decode cX8_add 23 = .ok (.getfield 32, 3) := by decide +kernel
theorem dX8_add_26 : decode cX8_add 26 = .ok (.iload_n 1, 1) := by decide +kernel
theorem dX8_add_27 : decode cX8_add 27 = .ok (.castore, 1) := by decide +kernel
theorem dX8_add_28 : decode cX8_add 28 = .ok (.aload_n 0, 1) := by decide +kernel
theorem dX8_add_29 : decode cX8_add 29 = .ok (.getfield 19, 3) := by decide +kernel
theorem dX8_add_32 : decode cX8_add 32 = .ok (.aload_n 0, 1) := by decide +kernel
theorem dX8_add_33 : decode cX8_add 33 = .ok (.getfield 32, 3) := by decide +kernel
theorem dX8_add_36 : decode cX8_add 36 = .ok (.iload 6, 2) := by decide +kernel
theorem dX8_add_38 : decode cX8_add 38 = .ok (.ifCond .eq 7, 3) := by decide +kernel
theorem dX8_add_41 : decode cX8_add 41 = .ok (.iload_n 2, 1) := by decide +kernel
theorem dX8_add_42 : decode cX8_add 42 = .ok (.goto 5, 3) := by decide +kernel
theorem dX8_add_45 : decode cX8_add 45 = .ok (.iload 4, 2) := by decide +kernel
theorem dX8_add_47 : decode cX8_add 47 = .ok (.iastore, 1) := by decide +kernel
theorem dX8_add_48 : decode cX8_add 48 = .ok (.aload_n 0, 1) := by decide +kernel
theorem dX8_add_49 : decode cX8_add 49 = .ok (.getfield 23, 3) := by decide +kernel
theorem dX8_add_52 : decode cX8_add 52 = .ok (.aload_n 0, 1) := by decide +kernel
theorem dX8_add_53 : decode cX8_add 53 = .ok (.getfield 32, 3) := by decide +kernel
theorem dX8_add_56 : decode cX8_add 56 = .ok (.iload 6, 2) := by decide +kernel
theorem dX8_add_58 : decode cX8_add 58 = .ok (.ifCond .eq 8, 3) := by decide +kernel
theorem dX8_add_61 : decode cX8_add 61 = .ok (.iload 4, 2) := by decide +kernel
theorem dX8_add_63 : decode cX8_add 63 = .ok (.goto 4, 3) := by decide +kernel
theorem dX8_add_66 : decode cX8_add 66 = .ok (.iload_n 2, 1) := by decide +kernel
theorem dX8_add_67 : decode cX8_add 67 = .ok (.iastore, 1) := by decide +kernel
theorem dX8_add_68 : decode cX8_add 68 = .ok (.aload_n 0, 1) := by decide +kernel
theorem dX8_add_69 : decode cX8_add 69 = .ok (.getfield 26, 3) := by decide +kernel
theorem dX8_add_72 : decode cX8_add 72 = .ok (.aload_n 0, 1) := by decide +kernel
theorem dX8_add_73 : decode cX8_add 73 = .ok (.getfield 32, 3) := by decide +kernel
theorem dX8_add_76 : decode cX8_add 76 = .ok (.iload 6, 2) := by decide +kernel
theorem dX8_add_78 : decode cX8_add 78 = .ok (.ifCond .eq 7, 3) := by decide +kernel
theorem dX8_add_81 : decode cX8_add 81 = .ok (.iload_n 3, 1) := by decide +kernel
theorem dX8_add_82 : decode cX8_add 82 = .ok (.goto 5, 3) := by decide +kernel
theorem dX8_add_85 : decode cX8_add 85 = .ok (.iload 4, 2) := by decide +kernel
theorem dX8_add_87 : decode cX8_add 87 = .ok (.iastore, 1) := by decide +kernel
theorem dX8_add_88 : decode cX8_add 88 = .ok (.aload_n 0, 1) := by decide +kernel
theorem dX8_add_89 : decode cX8_add 89 = .ok (.getfield 29, 3) := by decide +kernel
theorem dX8_add_92 : decode cX8_add 92 = .ok (.aload_n 0, 1) := by decide +kernel
theorem dX8_add_93 : decode cX8_add 93 = .ok (.getfield 32, 3) := by decide +kernel
theorem dX8_add_96 : decode cX8_add 96 = .ok (.iload 6, 2) := by decide +kernel
theorem dX8_add_98 : decode cX8_add 98 = .ok (.ifCond .eq 8, 3) := by decide +kernel
theorem dX8_add_101 : decode cX8_add 101 = .ok (.iload 4, 2) := by decide +kernel
theorem dX8_add_103 : decode cX8_add 103 = .ok (.goto 4, 3) := by decide +kernel
theorem dX8_add_106 : decode cX8_add 106 = .ok (.iload_n 3, 1) := by decide +kernel
theorem dX8_add_107 : decode cX8_add 107 = .ok (.iastore, 1) := by decide +kernel
theorem dX8_add_108 : decode cX8_add 108 = .ok (.aload_n 0, 1) := by decide +kernel
theorem dX8_add_109 : decode cX8_add 109 = .ok (.dup, 1) := by decide +kernel
theorem dX8_add_110 : decode cX8_add 110 = .ok (.getfield 32, 3) := by decide +kernel
theorem dX8_add_113 : decode cX8_add 113 = .ok (.iconst 1, 1) := by decide +kernel
theorem dX8_add_114 : decode cX8_add 114 = .ok (.iadd, 1) := by decide +kernel
theorem dX8_add_115 : decode cX8_add 115 = .ok (.putfield 32, 3) := by decide +kernel
theorem dX8_add_118 : decode cX8_add 118 = .ok (.return_, 1) := by decide +kernel
theorem dX8_size_0 : decode cX8_size 0 = .ok (.aload_n 0, 1) := by decide +kernel
theorem dX8_size_1 : decode cX8_size 1 = .ok (.getfield 32, 3) := by decide +kernel
theorem dX8_size_4 : decode cX8_size 4 = .ok (.ireturn, 1) := by decide +kernel
theorem dX8_kindOf_0 : decode cX8_kindOf 0 = .ok (.aload_n 0, 1) := by decide +kernel
theorem dX8_kindOf_1 : decode cX8_kindOf 1 = .ok (.iload_n 1, 1) := by decide +kernel
theorem dX8_kindOf_2 : decode cX8_kindOf 2 = .ok (.invokevirtual 71, 3) := by decide +kernel
theorem dX8_kindOf_5 : decode cX8_kindOf 5 = .ok (.ifCond .eq 12, 3) := by decide +kernel
theorem dX8_kindOf_8 : decode cX8_kindOf 8 = .ok (.aload_n 0, 1) := by decide +kernel
theorem dX8_kindOf_9 : decode cX8_kindOf 9 = .ok (.getfield 15, 3) := by decide +kernel
theorem dX8_kindOf_12 : decode cX8_kindOf 12 = .ok (.iload_n 1, 1) := by decide +kernel
theorem dX8_kindOf_13 : decode cX8_kindOf 13 = .ok (.caload, 1) := by decide +kernel
theorem dX8_kindOf_14 : decode cX8_kindOf 14 = .ok (.goto 5, 3) := by decide +kernel
theorem dX8_kindOf_17 : decode cX8_kindOf 17 = .ok (.bipush 46, 2) := by decide +kernel
theorem dX8_kindOf_19 : decode cX8_kindOf 19 = .ok (.ireturn, 1) := by decide +kernel
theorem dX8_endX_0 : decode cX8_endX 0 = .ok (.aload_n 0, 1) := by decide +kernel
theorem dX8_endX_1 : decode cX8_endX 1 = .ok (.iload_n 1, 1) := by decide +kernel
theorem dX8_endX_2 : decode cX8_endX 2 = .ok (.invokevirtual 71, 3) := by decide +kernel
theorem dX8_endX_5 : decode cX8_endX 5 = .ok (.ifCond .ne 5, 3) := by decide +kernel
theorem dX8_endX_8 : decode cX8_endX 8 = .ok (.iconst 0, 1) := by decide +kernel
theorem dX8_endX_9 : decode cX8_endX 9 = .ok (.ireturn, 1) := by decide +kernel
theorem dX8_endX_10 : decode cX8_endX 10 = .ok (.iload_n 2, 1) := by decide +kernel
theorem dX8_endX_11 : decode cX8_endX 11 = .ok (.ifCond .eq 12, 3) := by decide +kernel
theorem dX8_endX_14 : decode cX8_endX 14 = .ok (.aload_n 0, 1) := by decide +kernel
theorem dX8_endX_15 : decode cX8_endX 15 = .ok (.getfield 19, 3) := by decide +kernel
theorem dX8_endX_18 : decode cX8_endX 18 = .ok (.iload_n 1, 1) := by decide +kernel
theorem dX8_endX_19 : decode cX8_endX 19 = .ok (.iaload, 1) := by decide +kernel
theorem dX8_endX_20 : decode cX8_endX 20 = .ok (.goto 9, 3) := by decide +kernel
theorem dX8_endX_23 : decode cX8_endX 23 = .ok (.aload_n 0, 1) := by decide +kernel
theorem dX8_endX_24 : decode cX8_endX 24 = .ok (.getfield 26, 3) := by decide +kernel
theorem dX8_endX_27 : decode cX8_endX 27 = .ok (.iload_n 1, 1) := by decide +kernel
theorem dX8_endX_28 : decode cX8_endX 28 = .ok (.iaload, 1) := by decide +kernel
theorem dX8_endX_29 : decode cX8_endX 29 = .ok (.ireturn, 1) := by decide +kernel
theorem dX8_endY_0 : decode cX8_endY 0 = .ok (.aload_n 0, 1) := by decide +kernel
theorem dX8_endY_1 : decode cX8_endY 1 = .ok (.iload_n 1, 1) := by decide +kernel
theorem dX8_endY_2 : decode cX8_endY 2 = .ok (.invokevirtual 71, 3) := by decide +kernel
theorem dX8_endY_5 : decode cX8_endY 5 = .ok (.ifCond .ne 5, 3) := by decide +kernel
theorem dX8_endY_8 : decode cX8_endY 8 = .ok (.iconst 0, 1) := by decide +kernel
theorem dX8_endY_9 : decode cX8_endY 9 = .ok (.ireturn, 1) := by decide +kernel
theorem dX8_endY_10 : decode cX8_endY 10 = .ok (.iload_n 2, 1) := by decide +kernel
theorem dX8_endY_11 : decode cX8_endY 11 = .ok (.ifCond .eq 12, 3) := by decide +kernel
theorem dX8_endY_14 : decode cX8_endY 14 = .ok (.aload_n 0, 1) := by decide +kernel
theorem dX8_endY_15 : decode cX8_endY 15 = .ok (.getfield 23, 3) := by decide +kernel
theorem dX8_endY_18 : decode cX8_endY 18 = .ok (.iload_n 1, 1) := by decide +kernel
theorem dX8_endY_19 : decode cX8_endY 19 = .ok (.iaload, 1) := by decide +kernel
theorem dX8_endY_20 : decode cX8_endY 20 = .ok (.goto 9, 3) := by decide +kernel
theorem dX8_endY_23 : decode cX8_endY 23 = .ok (.aload_n 0, 1) := by decide +kernel
theorem dX8_endY_24 : decode cX8_endY 24 = .ok (.getfield 29, 3) := by decide +kernel
theorem dX8_endY_27 : decode cX8_endY 27 = .ok (.iload_n 1, 1) := by decide +kernel
theorem dX8_endY_28 : decode cX8_endY 28 = .ok (.iaload, 1) := by decide +kernel
theorem dX8_endY_29 : decode cX8_endY 29 = .ok (.ireturn, 1) := by decide +kernel
theorem dX8_has_0 : decode cX8_has 0 = .ok (.iload_n 1, 1) := by decide +kernel
theorem dX8_has_1 : decode cX8_has 1 = .ok (.ifCond .lt 22, 3) := by decide +kernel
theorem dX8_has_4 : decode cX8_has 4 = .ok (.iload_n 1, 1) := by decide +kernel
theorem dX8_has_5 : decode cX8_has 5 = .ok (.aload_n 0, 1) := by decide +kernel
theorem dX8_has_6 : decode cX8_has 6 = .ok (.getfield 32, 3) := by decide +kernel
theorem dX8_has_9 : decode cX8_has 9 = .ok (.if_icmp .ge 14, 3) := by decide +kernel
theorem dX8_has_12 : decode cX8_has 12 = .ok (.iload_n 1, 1) := by decide +kernel
theorem dX8_has_13 : decode cX8_has 13 = .ok (.sipush 144, 3) := by decide +kernel
theorem dX8_has_16 : decode cX8_has 16 = .ok (.if_icmp .ge 7, 3) := by decide +kernel
theorem dX8_has_19 : decode cX8_has 19 = .ok (.iconst 1, 1) := by decide +kernel
theorem dX8_has_20 : decode cX8_has 20 = .ok (.goto 4, 3) := by decide +kernel
theorem dX8_has_23 : decode cX8_has 23 = .ok (.iconst 0, 1) := by decide +kernel
theorem dX8_has_24 : decode cX8_has 24 = .ok (.ireturn, 1) := by decide +kernel
theorem dX9_init_0 : decode cX9_init 0 = .ok (.aload_n 0, 1) := by decide +kernel
theorem dX9_init_1 : decode cX9_init 1 = .ok (.invokespecial 3, 3) := by decide +kernel
theorem dX9_init_4 : decode cX9_init 4 = .ok (.aload_n 0, 1) := by decide +kernel
theorem dX9_init_5 : decode cX9_init 5 = .ok (.new 9, 3) := by decide +kernel
theorem dX9_init_8 : decode cX9_init 8 = .ok (.dup, 1) := by decide +kernel
theorem dX9_init_9 : decode cX9_init 9 = .ok (.invokespecial 11, 3) := by decide +kernel
theorem dX9_init_12 : decode cX9_init 12 = .ok (.putfield 12, 3) := by decide +kernel
theorem dX9_init_15 : decode cX9_init 15 = .ok (.aload_n 0, 1) := by decide +kernel
theorem dX9_init_16 : decode cX9_init 16 = .ok (.new 16, 3) := by decide +kernel
theorem dX9_init_19 : decode cX9_init 19 = .ok (.dup, 1) := by decide +kernel
theorem dX9_init_20 : decode cX9_init 20 = .ok (.invokespecial 18, 3) := by decide +kernel
theorem dX9_init_23 : decode cX9_init 23 = .ok (.putfield 19, 3) := by decide +kernel
theorem dX9_init_26 : decode cX9_init 26 = .ok (.aload_n 0, 1) := by decide +kernel
theorem dX9_init_27 : decode cX9_init 27 = .ok (.new 23, 3) := by decide +kernel
theorem dX9_init_30 : decode cX9_init 30 = .ok (.dup, 1) := by decide +kernel
theorem dX9_init_31 : decode cX9_init 31 = .ok (.aload_n 0, 1) := by decide +kernel
theorem dX9_init_32 : decode cX9_init 32 = .ok (.getfield 12, 3) := by decide +kernel
theorem dX9_init_35 : decode cX9_init 35 = .ok (.aload_n 0, 1) := by decide +kernel
theorem dX9_init_36 : decode cX9_init 36 = .ok (.getfield 19, 3) := by decide +kernel
theorem dX9_init_39 : decode cX9_init 39 = .ok (.invokespecial 25, 3) := by decide +kernel
theorem dX9_init_42 : decode cX9_init 42 = .ok (.putfield 28, 3) := by decide +kernel
theorem dX9_init_45 : decode cX9_init 45 = .ok (.aload_n 0, 1) := by decide +kernel
theorem dX9_init_46 : decode cX9_init 46 = .ok (.new 32, 3) := by decide +kernel
theorem dX9_init_49 : decode cX9_init 49 = .ok (.dup, 1) := by decide +kernel
theorem dX9_init_50 : decode cX9_init 50 = .ok (.aload_n 0, 1) := by decide +kernel
theorem dX9_init_51 : decode cX9_init 51 = .ok (.getfield 12, 3) := by decide +kernel
theorem dX9_init_54 : decode cX9_init 54 = .ok (.invokespecial 34, 3) := by decide +kernel
theorem dX9_init_57 : decode cX9_init 57 = .ok (.putfield 37, 3) := by decide +kernel
theorem dX9_init_60 : decode cX9_init 60 = .ok (.aload_n 0, 1) := by decide +kernel
theorem dX9_init_61 : decode cX9_init 61 = .ok (.new 41, 3) := by decide +kernel
theorem dX9_init_64 : decode cX9_init 64 = .ok (.dup, 1) := by decide +kernel
theorem dX9_init_65 : decode cX9_init 65 = .ok (.aload_n 0, 1) := by decide +kernel
theorem dX9_init_66 : decode cX9_init 66 = .ok (.getfield 28, 3) := by decide +kernel
theorem dX9_init_69 : decode cX9_init 69 = .ok (.invokespecial 43, 3) := by decide +kernel
theorem dX9_init_72 : decode cX9_init 72 = .ok (.putfield 46, 3) := by decide +kernel
theorem dX9_init_75 : decode cX9_init 75 = .ok (.aload_n 0, 1) := by decide +kernel
theorem dX9_init_76 : decode cX9_init 76 = .ok (.new 50, 3) := by decide +kernel
theorem dX9_init_79 : decode cX9_init 79 = .ok (.dup, 1) := by decide +kernel
theorem dX9_init_80 : decode cX9_init 80 = .ok (.invokespecial 52, 3) := by decide +kernel
theorem dX9_init_83 : decode cX9_init 83 = .ok (.putfield 53, 3) := by decide +kernel
theorem dX9_init_86 : decode cX9_init 86 = .ok (.aload_n 0, 1) := by decide +kernel
theorem dX9_init_87 : decode cX9_init 87 = .ok (.new 57, 3) := by decide +kernel
theorem dX9_init_90 : decode cX9_init 90 = .ok (.dup, 1) := by decide +kernel
theorem dX9_init_91 : decode cX9_init 91 = .ok (.aload_n 0, 1) := by decide +kernel
theorem dX9_init_92 : decode cX9_init 92 = .ok (.getfield 19, 3) := by decide +kernel
theorem dX9_init_95 : decode cX9_init 95 = .ok (.aload_n 0, 1) := by decide +kernel
theorem dX9_init_96 : decode cX9_init 96 = .ok (.getfield 46, 3) := by decide +kernel
theorem dX9_init_99 : decode cX9_init 99 = .ok (.aload_n 0, 1) := by decide +kernel
theorem dX9_init_100 : decode cX9_init 100 = .ok (.getfield 53, 3) := by decide +kernel
theorem dX9_init_103 : decode cX9_init 103 = .ok (.invokespecial 59, 3) := by decide +kernel
theorem dX9_init_106 : decode cX9_init 106 = .ok (.putfield 62, 3) := by decide +kernel
theorem dX9_init_109 : decode cX9_init 109 = .ok (.aload_n 0, 1) := by decide +kernel
theorem dX9_init_110 : decode cX9_init 110 = .ok (.new 66, 3) := by decide +kernel
theorem dX9_init_113 : decode cX9_init 113 = .ok (.dup, 1) := by decide +kernel
theorem dX9_init_114 : decode cX9_init 114 = .ok (.invokespecial 68, 3) := by decide +kernel
theorem dX9_init_117 : decode cX9_init 117 = .ok (.putfield 69, 3) := by decide +kernel
theorem dX9_init_120 : decode cX9_init 120 = .ok (.aload_n 0, 1) := by decide +kernel
theorem dX9_init_121 : decode cX9_init 121 = .ok (.new 73, 3) := by decide +kernel
theorem dX9_init_124 : decode cX9_init 124 = .ok (.dup, 1) := by decide +kernel
theorem dX9_init_125 : decode cX9_init 125 = .ok (.aload_n 0, 1) := by decide +kernel
theorem dX9_init_126 : decode cX9_init 126 = .ok (.getfield 53, 3) := by decide +kernel
theorem dX9_init_129 : decode cX9_init 129 = .ok (.aload_n 0, 1) := by decide +kernel
theorem dX9_init_130 : decode cX9_init 130 = .ok (.getfield 69, 3) := by decide +kernel
theorem dX9_init_133 : decode cX9_init 133 = .ok (.invokespecial 75, 3) := by decide +kernel
theorem dX9_init_136 : decode cX9_init 136 = .ok (.putfield 78, 3) := by decide +kernel
theorem dX9_init_139 : decode cX9_init 139 = .ok (.return_, 1) := by decide +kernel
theorem dX9_box_0 : decode cX9_box 0 = .ok (.iload_n 1, 1) := by decide +kernel
theorem dX9_box_1 : decode cX9_box 1 = .ok (.iload 4, 2) := by decide +kernel
theorem dX9_box_3 : decode cX9_box 3 = .ok (.invokestatic 82, 3) := by decide +kernel
theorem dX9_box_6 : decode cX9_box 6 = .ok (.ifCond .eq 21, 3) := by decide +kernel
theorem dX9_box_9 : decode cX9_box 9 = .ok (.iload_n 2, 1) := by decide +kernel
theorem dX9_box_10 : decode cX9_box 10 = .ok (.iload 5, 2) := by decide +kernel
theorem dX9_box_12 : decode cX9_box 12 = .ok (.invokestatic 82, 3) := by decide +kernel
theorem dX9_box_15 : decode cX9_box 15 = .ok (.ifCond .eq 12, 3) := by decide +kernel
theorem dX9_box_18 : decode cX9_box 18 = .ok (.iload_n 3, 1) := by decide +kernel
theorem dX9_box_19 : decode cX9_box 19 = .ok (.iload 6, 2) := by decide +kernel
theorem dX9_box_21 : decode cX9_box 21 = .ok (.invokestatic 82, 3) := by decide +kernel
theorem dX9_box_24 : decode cX9_box 24 = .ok (.ifCond .ne 13, 3) := by decide +kernel
theorem dX9_box_27 : decode cX9_box 27 = .ok (.new 86, 3) := by decide +kernel
theorem dX9_box_30 : decode cX9_box 30 = .ok (.dup, 1) := by decide +kernel
theorem dX9_box_31 : decode cX9_box 31 = .ok (.ldc 88, 2) := by decide +kernel
theorem dX9_box_33 : decode cX9_box 33 = .ok (.invokespecial 90, 3) := by decide +kernel
theorem dX9_box_36 : decode cX9_box 36 = .ok (.athrow, 1) := by decide +kernel
theorem dX9_box_37 : decode cX9_box 37 = .ok (.aload_n 0, 1) := by decide +kernel
theorem dX9_box_38 : decode cX9_box 38 = .ok (.getfield 28, 3) := by decide +kernel
theorem dX9_box_41 : decode cX9_box 41 = .ok (.invokevirtual 93, 3) := by decide +kernel
theorem dX9_box_44 : decode cX9_box 44 = .ok (.iconst 0, 1) := by decide +kernel
theorem dX9_box_45 : decode cX9_box 45 = .ok (.istore 8, 2) := by decide +kernel
theorem dX9_box_47 : decode cX9_box 47 = .ok (.iload_n 3, 1) := by decide +kernel
theorem dX9_box_48 : decode cX9_box 48 = .ok (.istore 9, 2) := by decide +kernel
theorem dX9_box_50 : decode cX9_box 50 = .ok (.iload 9, 2) := by decide +kernel
theorem dX9_box_52 : decode cX9_box 52 = .ok (.iload_n 3, 1) := by decide +kernel
theorem dX9_box_53 : decode cX9_box 53 = .ok (.iload 6, 2) := by decide +kernel
theorem dX9_box_55 : decode cX9_box 55 = .ok (.iadd, 1) := by decide +kernel
theorem dX9_box_56 : decode cX9_box 56 = .ok (.if_icmp .ge 31, 3) := by decide +kernel
theorem dX9_box_59 : decode cX9_box 59 = .ok (.iload 8, 2) := by decide +kernel
theorem dX9_box_61 : decode cX9_box 61 = .ok (.aload_n 0, 1) := by decide +kernel
theorem dX9_box_62 : decode cX9_box 62 = .ok (.getfield 12, 3) := by decide +kernel
theorem dX9_box_65 : decode cX9_box 65 = .ok (.iload_n 1, 1) := by decide +kernel
theorem dX9_box_66 : decode cX9_box 66 = .ok (.iload_n 2, 1) := by decide +kernel
theorem dX9_box_67 : decode cX9_box 67 = .ok (.iload 9, 2) := by decide +kernel
theorem dX9_box_69 : decode cX9_box 69 = .ok (.iload 4, 2) := by decide +kernel
theorem dX9_box_71 : decode cX9_box 71 = .ok (.iload 5, 2) := by decide +kernel
theorem dX9_box_73 : decode cX9_box 73 = .ok (.iload 7, 2) := by decide +kernel
theorem dX9_box_75 : decode cX9_box 75 = .ok (.invokevirtual 96, 3) := by decide +kernel
theorem dX9_box_78 : decode cX9_box 78 = .ok (.iadd, 1) := by decide +kernel
theorem dX9_box_79 : decode cX9_box 79 = .ok (.istore 8, 2) := by decide +kernel
theorem dX9_box_81 : decode cX9_box 81 = .ok (.iinc 9 1, 3) := by decide +kernel
theorem dX9_box_84 : decode cX9_box 84 = .ok (.goto (-34), 3) := by decide +kernel
theorem dX9_box_87 : decode cX9_box 87 = .ok (.iload 8, 2) := by decide +kernel
theorem dX9_box_89 : decode cX9_box 89 = .ok (.ireturn, 1) := by decide +kernel
theorem dX9_set_0 : decode cX9_set 0 = .ok (.iload_n 1, 1) := by decide +kernel
theorem dX9_set_1 : decode cX9_set 1 = .ok (.iload_n 2, 1) := by decide +kernel
theorem dX9_set_2 : decode cX9_set 2 = .ok (.invokestatic 100, 3) := by decide +kernel
theorem dX9_set_5 : decode cX9_set 5 = .ok (.ifCond .ne 13, 3) := by decide +kernel
theorem dX9_set_8 : decode cX9_set 8 = .ok (.new 86, 3) := by decide +kernel
theorem dX9_set_11 : decode cX9_set 11 = .ok (.dup, 1) := by decide +kernel
theorem dX9_set_12 : decode cX9_set 12 = .ok (.ldc 104, 2) := by decide +kernel
theorem dX9_set_14 : decode cX9_set 14 = .ok (.invokespecial 90, 3) := by decide +kernel
theorem dX9_set_17 : decode cX9_set 17 = .ok (.athrow, 1) := by decide +kernel
theorem dX9_set_18 : decode cX9_set 18 = .ok (.aload_n 0, 1) := by decide +kernel
theorem dX9_set_19 : decode cX9_set 19 = .ok (.getfield 28, 3) := by decide +kernel
theorem dX9_set_22 : decode cX9_set 22 = .ok (.invokevirtual 93, 3) := by decide +kernel
theorem dX9_set_25 : decode cX9_set 25 = .ok (.aload_n 0, 1) := by decide +kernel
theorem dX9_set_26 : decode cX9_set 26 = .ok (.getfield 19, 3) := by decide +kernel
theorem dX9_set_29 : decode cX9_set 29 = .ok (.iload_n 1, 1) := by decide +kernel
theorem dX9_set_30 : decode cX9_set 30 = .ok (.iload_n 2, 1) := by decide +kernel
theorem dX9_set_31 : decode cX9_set 31 = .ok (.invokevirtual 106, 3) := by decide +kernel
theorem dX9_set_34 : decode cX9_set 34 = .ok (.ireturn, 1) := by decide +kernel
theorem dX9_setPattern_0 : decode cX9_setPattern 0 = .ok (.iload_n 1, 1) := by decide +kernel
theorem dX9_setPattern_1 : decode cX9_setPattern 1 = .ok (.bipush 108, 2) := by decide +kernel
theorem dX9_setPattern_3 : decode cX9_setPattern 3 = .ok (.if_icmp .eq 25, 3) := by decide +kernel
theorem dX9_setPattern_6 : decode cX9_setPattern 6 = .ok (.iload_n 1, 1) := by decide +kernel
theorem dX9_setPattern_7 : decode cX9_setPattern 7 = .ok (.bipush 103, 2) := by decide +kernel
theorem dX9_setPattern_9 : decode cX9_setPattern 9 = .ok (.if_icmp .eq 19, 3) := by decide +kernel
theorem dX9_setPattern_12 : decode cX9_setPattern 12 = .ok (.iload_n 1, 1) := by decide +kernel
theorem dX9_setPattern_13 : decode cX9_setPattern 13 = .ok (.bipush 119, 2) := by decide +kernel
theorem dX9_setPattern_15 : decode cX9_setPattern 15 = .ok (.if_icmp .eq 13, 3) := by decide +kernel
theorem dX9_setPattern_18 : decode cX9_setPattern 18 = .ok (.new 86, 3) := by decide +kernel
theorem dX9_setPattern_21 : decode cX9_setPattern 21 = .ok (.dup, 1) := by decide +kernel
theorem dX9_setPattern_22 : decode cX9_setPattern 22 = .ok (.ldc 110, 2) := by decide +kernel
theorem dX9_setPattern_24 : decode cX9_setPattern 24 = .ok (.invokespecial 90, 3) := by decide +kernel
theorem dX9_setPattern_27 : decode cX9_setPattern 27 = .ok (.athrow, 1) := by decide +kernel
theorem dX9_setPattern_28 : decode cX9_setPattern 28 = .ok (.aload_n 0, 1) := by decide +kernel
theorem dX9_setPattern_29 : decode cX9_setPattern 29 = .ok (.getfield 28, 3) := by decide +kernel
theorem dX9_setPattern_32 : decode cX9_setPattern 32 = .ok (.invokevirtual 93, 3) := by decide +kernel
theorem dX9_setPattern_35 : decode cX9_setPattern 35 = .ok (.aload_n 0, 1) := by decide +kernel
theorem dX9_setPattern_36 : decode cX9_setPattern 36 = .ok (.getfield 19, 3) := by decide +kernel
theorem dX9_setPattern_39 : decode cX9_setPattern 39 = .ok (.iload_n 1, 1) := by decide +kernel
theorem dX9_setPattern_40 : decode cX9_setPattern 40 = .ok (.invokevirtual 112, 3) := by decide +kernel
theorem dX9_setPattern_43 : decode cX9_setPattern 43 = .ok (.ireturn, 1) := by decide +kernel
theorem dX9_setThickness_0 : decode cX9_setThickness 0 = .ok (.iload_n 1, 1) := by decide +kernel
theorem dX9_setThickness_1 : decode cX9_setThickness 1 = .ok (.invokestatic 116, 3) := by decide +kernel
theorem dX9_setThickness_4 : decode cX9_setThickness 4 = .ok (.iload_n 2, 1) := by decide +kernel
theorem dX9_setThickness_5 : decode cX9_setThickness 5 = .ok (.iconst 1, 1) := by decide +kernel
theorem dX9_setThickness_6 : decode cX9_setThickness 6 = .ok (.if_icmp .lt 8, 3) := by decide +kernel
theorem dX9_setThickness_9 : decode cX9_setThickness 9 = .ok (.iload_n 2, 1) := by decide +kernel
theorem dX9_setThickness_10 : decode cX9_setThickness 10 = .ok (.iconst 3, 1) := by decide +kernel
theorem dX9_setThickness_11 : decode cX9_setThickness 11 = .ok (.if_icmp .le 13, 3) := by decide +kernel
theorem dX9_setThickness_14 : decode cX9_setThickness 14 = .ok (.new 86, 3) := by decide +kernel
theorem dX9_setThickness_17 : decode cX9_setThickness 17 = .ok (.dup, 1) := by decide +kernel
theorem dX9_setThickness_18 : decode cX9_setThickness 18 = .ok (.ldc 120, 2) := by decide +kernel
theorem dX9_setThickness_20 : decode cX9_setThickness 20 = .ok (.invokespecial 90, 3) := by decide +kernel
theorem dX9_setThickness_23 : decode cX9_setThickness 23 = .ok (.athrow, 1) := by decide +kernel
theorem dX9_setThickness_24 : decode cX9_setThickness 24 = .ok (.aload_n 0, 1) := by decide +kernel
theorem dX9_setThickness_25 : decode cX9_setThickness 25 = .ok (.getfield 19, 3) := by decide +kernel
theorem dX9_setThickness_28 : decode cX9_setThickness 28 = .ok (.iload_n 1, 1) := by decide +kernel
theorem dX9_setThickness_29 : decode cX9_setThickness 29 = .ok (.iload_n 2, 1) := by decide +kernel
theorem dX9_setThickness_30 : decode cX9_setThickness 30 = .ok (.invokevirtual 122, 3) := by decide +kernel
theorem dX9_setThickness_33 : decode cX9_setThickness 33 = .ok (.ireturn, 1) := by decide +kernel
theorem dX9_setPause_0 : decode cX9_setPause 0 = .ok (.iload_n 1, 1) := by decide +kernel
theorem dX9_setPause_1 : decode cX9_setPause 1 = .ok (.invokestatic 116, 3) := by decide +kernel
theorem dX9_setPause_4 : decode cX9_setPause 4 = .ok (.aload_n 0, 1) := by decide +kernel
theorem dX9_setPause_5 : decode cX9_setPause 5 = .ok (.getfield 19, 3) := by decide +kernel
theorem dX9_setPause_8 : decode cX9_setPause 8 = .ok (.iload_n 1, 1) := by decide +kernel
theorem dX9_setPause_9 : decode cX9_setPause 9 = .ok (.iload_n 2, 1) := by decide +kernel
theorem dX9_setPause_10 : decode cX9_setPause 10 = .ok (.invokevirtual 126, 3) := by decide +kernel
theorem dX9_setPause_13 : decode cX9_setPause 13 = .ok (.ireturn, 1) := by decide +kernel
theorem dX9_kindAt_0 : decode cX9_kindAt 0 = .ok (.iload_n 1, 1) := by decide +kernel
theorem dX9_kindAt_1 : decode cX9_kindAt 1 = .ok (.iload_n 2, 1) := by decide +kernel
theorem dX9_kindAt_2 : decode cX9_kindAt 2 = .ok (.iload_n 3, 1) := by decide +kernel
theorem dX9_kindAt_3 : decode cX9_kindAt 3 = .ok (.invokestatic 130, 3) := by decide +kernel
theorem dX9_kindAt_6 : decode cX9_kindAt 6 = .ok (.aload_n 0, 1) := by decide +kernel
theorem dX9_kindAt_7 : decode cX9_kindAt 7 = .ok (.getfield 28, 3) := by decide +kernel
theorem dX9_kindAt_10 : decode cX9_kindAt 10 = .ok (.iload_n 3, 1) := by decide +kernel
theorem dX9_kindAt_11 : decode cX9_kindAt 11 = .ok (.invokevirtual 134, 3) := by decide +kernel
theorem dX9_kindAt_14 : decode cX9_kindAt 14 = .ok (.aload_n 0, 1) := by decide +kernel
theorem dX9_kindAt_15 : decode cX9_kindAt 15 = .ok (.getfield 28, 3) := by decide +kernel
theorem dX9_kindAt_18 : decode cX9_kindAt 18 = .ok (.iload_n 1, 1) := by decide +kernel
theorem dX9_kindAt_19 : decode cX9_kindAt 19 = .ok (.iload_n 2, 1) := by decide +kernel
theorem dX9_kindAt_20 : decode cX9_kindAt 20 = .ok (.iload_n 3, 1) := by decide +kernel
theorem dX9_kindAt_21 : decode cX9_kindAt 21 = .ok (.invokevirtual 137, 3) := by decide +kernel
theorem dX9_kindAt_24 : decode cX9_kindAt 24 = .ok (.ireturn, 1) := by decide +kernel
theorem dX9_plan_0 : decode cX9_plan 0 = .ok (.aload_n 0, 1) := by decide +kernel
theorem dX9_plan_1 : decode cX9_plan 1 = .ok (.getfield 78, 3) := by decide +kernel
theorem dX9_plan_4 : decode cX9_plan 4 = .ok (.invokevirtual 162, 3) := by decide +kernel
theorem dX9_plan_7 : decode cX9_plan 7 = .ok (.ifCond .eq 13, 3) := by decide +kernel
theorem dX9_plan_10 : decode cX9_plan 10 = .ok (.new 166, 3) := by decide +kernel
theorem dX9_plan_13 : decode cX9_plan 13 = .ok (.dup, 1) := by decide +kernel
theorem dX9_plan_14 : decode cX9_plan 14 = .ok (.ldc 168, 2) := by decide +kernel
theorem dX9_plan_16 : decode cX9_plan 16 = .ok (.invokespecial 170, 3) := by decide +kernel
theorem dX9_plan_19 : decode cX9_plan 19 = .ok (.athrow, 1) := by decide +kernel
theorem dX9_plan_20 : decode cX9_plan 20 = .ok (.aload_n 0, 1) := by decide +kernel
theorem dX9_plan_21 : decode cX9_plan 21 = .ok (.getfield 28, 3) := by decide +kernel
theorem dX9_plan_24 : decode cX9_plan 24 = .ok (.invokevirtual 171, 3) := by decide +kernel
theorem dX9_plan_27 : decode cX9_plan 27 = .ok (.aload_n 0, 1) := by decide +kernel
theorem dX9_plan_28 : decode cX9_plan 28 = .ok (.getfield 62, 3) := by decide +kernel
theorem dX9_plan_31 : decode cX9_plan 31 = .ok (.invokevirtual 174, 3) := by decide +kernel
theorem dX9_plan_34 : decode cX9_plan 34 = .ok (.aload_n 0, 1) := by decide +kernel
theorem dX9_plan_35 : decode cX9_plan 35 = .ok (.getfield 78, 3) := by decide +kernel
theorem dX9_plan_38 : decode cX9_plan 38 = .ok (.invokevirtual 177, 3) := by decide +kernel
theorem dX9_plan_41 : decode cX9_plan 41 = .ok (.aload_n 0, 1) := by decide +kernel
theorem dX9_plan_42 : decode cX9_plan 42 = .ok (.getfield 53, 3) := by decide +kernel
theorem dX9_plan_45 : decode cX9_plan 45 = .ok (.invokevirtual 180, 3) := by decide +kernel
theorem dX9_plan_48 : decode cX9_plan 48 = .ok (.ireturn, 1) := by decide +kernel
theorem dX9_commands_0 : decode cX9_commands 0 = .ok (.aload_n 0, 1) := by decide +kernel
theorem dX9_commands_1 : decode cX9_commands 1 = .ok (.getfield 53, 3) := by decide +kernel
theorem dX9_commands_4 : decode cX9_commands 4 = .ok (.invokevirtual 180, 3) := by decide +kernel
theorem dX9_commands_7 : decode cX9_commands 7 = .ok (.ireturn, 1) := by decide +kernel
theorem dX9_commandAt_0 : decode cX9_commandAt 0 = .ok (.aload_n 0, 1) := by decide +kernel
theorem dX9_commandAt_1 : decode cX9_commandAt 1 = .ok (.iload_n 1, 1) := by decide +kernel
theorem dX9_commandAt_2 : decode cX9_commandAt 2 = .ok (.invokevirtual 181, 3) := by decide +kernel
theorem dX9_commandAt_5 : decode cX9_commandAt 5 = .ok (.aload_n 0, 1) := by decide +kernel
theorem dX9_commandAt_6 : decode cX9_commandAt 6 = .ok (.getfield 53, 3) := by decide +kernel
theorem dX9_commandAt_9 : decode cX9_commandAt 9 = .ok (.iload_n 1, 1) := by decide +kernel
theorem dX9_commandAt_10 : decode cX9_commandAt 10 = .ok (.invokevirtual 184, 3) := by decide +kernel
theorem dX9_commandAt_13 : decode cX9_commandAt 13 = .ok (.ireturn, 1) := by decide +kernel
theorem dX9_numberAt_0 : decode cX9_numberAt 0 = .ok (.aload_n 0, 1) := by decide +kernel
theorem dX9_numberAt_1 : decode cX9_numberAt 1 = .ok (.iload_n 1, 1) := by decide +kernel
theorem dX9_numberAt_2 : decode cX9_numberAt 2 = .ok (.invokevirtual 181, 3) := by decide +kernel
theorem dX9_numberAt_5 : decode cX9_numberAt 5 = .ok (.iload_n 2, 1) := by decide +kernel
theorem dX9_numberAt_6 : decode cX9_numberAt 6 = .ok (.bipush 120, 2) := by decide +kernel
theorem dX9_numberAt_8 : decode cX9_numberAt 8 = .ok (.if_icmp .eq 31, 3) := by decide +kernel
theorem dX9_numberAt_11 : decode cX9_numberAt 11 = .ok (.iload_n 2, 1) := by decide +kernel
theorem dX9_numberAt_12 : decode cX9_numberAt 12 = .ok (.bipush 121, 2) := by decide +kernel
theorem dX9_numberAt_14 : decode cX9_numberAt 14 = .ok (.if_icmp .eq 25, 3) := by decide +kernel
theorem dX9_numberAt_17 : decode cX9_numberAt 17 = .ok (.iload_n 2, 1) := by decide +kernel
theorem dX9_numberAt_18 : decode cX9_numberAt 18 = .ok (.bipush 97, 2) := by decide +kernel
theorem dX9_numberAt_20 : decode cX9_numberAt 20 = .ok (.if_icmp .eq 19, 3) := by decide +kernel
theorem dX9_numberAt_23 : decode cX9_numberAt 23 = .ok (.iload_n 2, 1) := by decide +kernel
theorem dX9_numberAt_24 : decode cX9_numberAt 24 = .ok (.bipush 122, 2) := by decide +kernel
theorem dX9_numberAt_26 : decode cX9_numberAt 26 = .ok (.if_icmp .eq 13, 3) := by decide +kernel
theorem dX9_numberAt_29 : decode cX9_numberAt 29 = .ok (.new 86, 3) := by decide +kernel
theorem dX9_numberAt_32 : decode cX9_numberAt 32 = .ok (.dup, 1) := by decide +kernel
theorem dX9_numberAt_33 : decode cX9_numberAt 33 = .ok (.ldc 187, 2) := by decide +kernel
theorem dX9_numberAt_35 : decode cX9_numberAt 35 = .ok (.invokespecial 90, 3) := by decide +kernel
theorem dX9_numberAt_38 : decode cX9_numberAt 38 = .ok (.athrow, 1) := by decide +kernel
theorem dX9_numberAt_39 : decode cX9_numberAt 39 = .ok (.aload_n 0, 1) := by decide +kernel
theorem dX9_numberAt_40 : decode cX9_numberAt 40 = .ok (.getfield 53, 3) := by decide +kernel
theorem dX9_numberAt_43 : decode cX9_numberAt 43 = .ok (.iload_n 1, 1) := by decide +kernel
theorem dX9_numberAt_44 : decode cX9_numberAt 44 = .ok (.iload_n 2, 1) := by decide +kernel
theorem dX9_numberAt_45 : decode cX9_numberAt 45 = .ok (.invokevirtual 189, 3) := by decide +kernel
theorem dX9_numberAt_48 : decode cX9_numberAt 48 = .ok (.ifCond .ne 13, 3) := by decide +kernel
theorem dX9_numberAt_51 : decode cX9_numberAt 51 = .ok (.new 193, 3) := by decide +kernel
theorem dX9_numberAt_54 : decode cX9_numberAt 54 = .ok (.dup, 1) := by decide +kernel
theorem dX9_numberAt_55 : decode cX9_numberAt 55 = .ok (.ldc 195, 2) := by decide +kernel
theorem dX9_numberAt_57 : decode cX9_numberAt 57 = .ok (.invokespecial 197, 3) := by decide +kernel
theorem dX9_numberAt_60 : decode cX9_numberAt 60 = .ok (.athrow, 1) := by decide +kernel
theorem dX9_numberAt_61 : decode cX9_numberAt 61 = .ok (.aload_n 0, 1) := by decide +kernel
theorem dX9_numberAt_62 : decode cX9_numberAt 62 = .ok (.getfield 53, 3) := by decide +kernel
theorem dX9_numberAt_65 : decode cX9_numberAt 65 = .ok (.iload_n 1, 1) := by decide +kernel
theorem dX9_numberAt_66 : decode cX9_numberAt 66 = .ok (.iload_n 2, 1) := by decide +kernel
theorem dX9_numberAt_67 : decode cX9_numberAt 67 = .ok (.invokevirtual 198, 3) := by decide +kernel
theorem dX9_numberAt_70 : decode cX9_numberAt 70 = .ok (.ireturn, 1) := by decide +kernel
theorem dX9_travel_0 : decode cX9_travel 0 = .ok (.aload_n 0, 1) := by decide +kernel
theorem dX9_travel_1 : decode cX9_travel 1 = .ok (.getfield 53, 3) := by decide +kernel
theorem dX9_travel_4 : decode cX9_travel 4 = .ok (.invokevirtual 202, 3) := by decide +kernel
theorem dX9_travel_7 : decode cX9_travel 7 = .ok (.ireturn, 1) := by decide +kernel
theorem dX9_planned_0 : decode cX9_planned 0 = .ok (.aload_n 0, 1) := by decide +kernel
theorem dX9_planned_1 : decode cX9_planned 1 = .ok (.getfield 53, 3) := by decide +kernel
theorem dX9_planned_4 : decode cX9_planned 4 = .ok (.invokevirtual 205, 3) := by decide +kernel
theorem dX9_planned_7 : decode cX9_planned 7 = .ok (.lreturn, 1) := by decide +kernel
theorem dX9_setTarget_0 : decode cX9_setTarget 0 = .ok (.iload_n 1, 1) := by decide +kernel
theorem dX9_setTarget_1 : decode cX9_setTarget 1 = .ok (.ifCond .lt 10, 3) := by decide +kernel
theorem dX9_setTarget_4 : decode cX9_setTarget 4 = .ok (.iload_n 1, 1) := by decide +kernel
theorem dX9_setTarget_5 : decode cX9_setTarget 5 = .ok (.sipush 300, 3) := by decide +kernel
theorem dX9_setTarget_8 : decode cX9_setTarget 8 = .ok (.if_icmp .le 13, 3) := by decide +kernel
theorem dX9_setTarget_11 : decode cX9_setTarget 11 = .ok (.new 86, 3) := by decide +kernel
theorem dX9_setTarget_14 : decode cX9_setTarget 14 = .ok (.dup, 1) := by decide +kernel
theorem dX9_setTarget_15 : decode cX9_setTarget 15 = .ok (.ldc 209, 2) := by decide +kernel
theorem dX9_setTarget_17 : decode cX9_setTarget 17 = .ok (.invokespecial 90, 3) := by decide +kernel
theorem dX9_setTarget_20 : decode cX9_setTarget 20 = .ok (.athrow, 1) := by decide +kernel
theorem dX9_setTarget_21 : decode cX9_setTarget 21 = .ok (.aload_n 0, 1) := by decide +kernel
theorem dX9_setTarget_22 : decode cX9_setTarget 22 = .ok (.getfield 78, 3) := by decide +kernel
theorem dX9_setTarget_25 : decode cX9_setTarget 25 = .ok (.invokevirtual 211, 3) := by decide +kernel
theorem dX9_setTarget_28 : decode cX9_setTarget 28 = .ok (.bipush 102, 2) := by decide +kernel
theorem dX9_setTarget_30 : decode cX9_setTarget 30 = .ok (.if_icmp .ne 13, 3) := by decide +kernel
theorem dX9_setTarget_33 : decode cX9_setTarget 33 = .ok (.new 166, 3) := by decide +kernel
theorem dX9_setTarget_36 : decode cX9_setTarget 36 = .ok (.dup, 1) := by decide +kernel
theorem dX9_setTarget_37 : decode cX9_setTarget 37 = .ok (.ldc 215, 2) := by decide +kernel
theorem dX9_setTarget_39 : decode cX9_setTarget 39 = .ok (.invokespecial 170, 3) := by decide +kernel
theorem dX9_setTarget_42 : decode cX9_setTarget 42 = .ok (.athrow, 1) := by decide +kernel
theorem dX9_setTarget_43 : decode cX9_setTarget 43 = .ok (.aload_n 0, 1) := by decide +kernel
theorem dX9_setTarget_44 : decode cX9_setTarget 44 = .ok (.getfield 69, 3) := by decide +kernel
theorem dX9_setTarget_47 : decode cX9_setTarget 47 = .ok (.iload_n 1, 1) := by decide +kernel
theorem dX9_setTarget_48 : decode cX9_setTarget 48 = .ok (.invokevirtual 217, 3) := by decide +kernel
theorem dX9_setTarget_51 : decode cX9_setTarget 51 = .ok (.ireturn, 1) := by decide +kernel
theorem dX9_print_0 : decode cX9_print 0 = .ok (.aload_n 0, 1) := by decide +kernel
theorem dX9_print_1 : decode cX9_print 1 = .ok (.getfield 78, 3) := by decide +kernel
theorem dX9_print_4 : decode cX9_print 4 = .ok (.invokevirtual 162, 3) := by decide +kernel
theorem dX9_print_7 : decode cX9_print 7 = .ok (.ifCond .ne 13, 3) := by decide +kernel
theorem dX9_print_10 : decode cX9_print 10 = .ok (.aload_n 0, 1) := by decide +kernel
theorem dX9_print_11 : decode cX9_print 11 = .ok (.getfield 53, 3) := by decide +kernel
theorem dX9_print_14 : decode cX9_print 14 = .ok (.invokevirtual 180, 3) := by decide +kernel
theorem dX9_print_17 : decode cX9_print 17 = .ok (.ifCond .ne 13, 3) := by decide +kernel
theorem dX9_print_20 : decode cX9_print 20 = .ok (.new 166, 3) := by decide +kernel
theorem dX9_print_23 : decode cX9_print 23 = .ok (.dup, 1) := by decide +kernel
theorem dX9_print_24 : decode cX9_print 24 = .ok (.ldc 220, 2) := by decide +kernel
theorem dX9_print_26 : decode cX9_print 26 = .ok (.invokespecial 170, 3) := by decide +kernel
theorem dX9_print_29 : decode cX9_print 29 = .ok (.athrow, 1) := by decide +kernel
theorem dX9_print_30 : decode cX9_print 30 = .ok (.aload_n 0, 1) := by decide +kernel
theorem dX9_print_31 : decode cX9_print 31 = .ok (.getfield 78, 3) := by decide +kernel
theorem dX9_print_34 : decode cX9_print 34 = .ok (.invokevirtual 222, 3) := by decide +kernel
theorem dX9_print_37 : decode cX9_print 37 = .ok (.aload_n 0, 1) := by decide +kernel
theorem dX9_print_38 : decode cX9_print 38 = .ok (.getfield 53, 3) := by decide +kernel
theorem dX9_print_41 : decode cX9_print 41 = .ok (.invokevirtual 180, 3) := by decide +kernel
theorem dX9_print_44 : decode cX9_print 44 = .ok (.ireturn, 1) := by decide +kernel
theorem dX9_pass_0 : decode cX9_pass 0 = .ok (.iload_n 1, 1) := by decide +kernel
theorem dX9_pass_1 : decode cX9_pass 1 = .ok (.iconst 1, 1) := by decide +kernel
theorem dX9_pass_2 : decode cX9_pass 2 = .ok (.if_icmp .lt 10, 3) := by decide +kernel
theorem dX9_pass_5 : decode cX9_pass 5 = .ok (.iload_n 1, 1) := by decide +kernel
theorem dX9_pass_6 : decode cX9_pass 6 = .ok (.sipush 200, 3) := by decide +kernel
theorem dX9_pass_9 : decode cX9_pass 9 = .ok (.if_icmp .le 13, 3) := by decide +kernel
theorem dX9_pass_12 : decode cX9_pass 12 = .ok (.new 86, 3) := by decide +kernel
theorem dX9_pass_15 : decode cX9_pass 15 = .ok (.dup, 1) := by decide +kernel
theorem dX9_pass_16 : decode cX9_pass 16 = .ok (.ldc 225, 2) := by decide +kernel
theorem dX9_pass_18 : decode cX9_pass 18 = .ok (.invokespecial 90, 3) := by decide +kernel
theorem dX9_pass_21 : decode cX9_pass 21 = .ok (.athrow, 1) := by decide +kernel
theorem dX9_pass_22 : decode cX9_pass 22 = .ok (.aload_n 0, 1) := by decide +kernel
theorem dX9_pass_23 : decode cX9_pass 23 = .ok (.getfield 78, 3) := by decide +kernel
theorem dX9_pass_26 : decode cX9_pass 26 = .ok (.iload_n 1, 1) := by decide +kernel
theorem dX9_pass_27 : decode cX9_pass 27 = .ok (.invokevirtual 227, 3) := by decide +kernel
theorem dX9_pass_30 : decode cX9_pass 30 = .ok (.ireturn, 1) := by decide +kernel
theorem dX9_goOn_0 : decode cX9_goOn 0 = .ok (.aload_n 0, 1) := by decide +kernel
theorem dX9_goOn_1 : decode cX9_goOn 1 = .ok (.getfield 78, 3) := by decide +kernel
theorem dX9_goOn_4 : decode cX9_goOn 4 = .ok (.invokevirtual 211, 3) := by decide +kernel
theorem dX9_goOn_7 : decode cX9_goOn 7 = .ok (.bipush 112, 2) := by decide +kernel
theorem dX9_goOn_9 : decode cX9_goOn 9 = .ok (.if_icmp .eq 13, 3) := by decide +kernel
theorem dX9_goOn_12 : decode cX9_goOn 12 = .ok (.new 166, 3) := by decide +kernel
theorem dX9_goOn_15 : decode cX9_goOn 15 = .ok (.dup, 1) := by decide +kernel
theorem dX9_goOn_16 : decode cX9_goOn 16 = .ok (.ldc 230, 2) := by decide +kernel
theorem dX9_goOn_18 : decode cX9_goOn 18 = .ok (.invokespecial 170, 3) := by decide +kernel
theorem dX9_goOn_21 : decode cX9_goOn 21 = .ok (.athrow, 1) := by decide +kernel
theorem dX9_goOn_22 : decode cX9_goOn 22 = .ok (.aload_n 0, 1) := by decide +kernel
theorem dX9_goOn_23 : decode cX9_goOn 23 = .ok (.getfield 78, 3) := by decide +kernel
theorem dX9_goOn_26 : decode cX9_goOn 26 = .ok (.invokevirtual 232, 3) := by decide +kernel
theorem dX9_goOn_29 : decode cX9_goOn 29 = .ok (.aload_n 0, 1) := by decide +kernel
theorem dX9_goOn_30 : decode cX9_goOn 30 = .ok (.getfield 53, 3) := by decide +kernel
theorem dX9_goOn_33 : decode cX9_goOn 33 = .ok (.invokevirtual 180, 3) := by decide +kernel
theorem dX9_goOn_36 : decode cX9_goOn 36 = .ok (.aload_n 0, 1) := by decide +kernel
theorem dX9_goOn_37 : decode cX9_goOn 37 = .ok (.getfield 78, 3) := by decide +kernel
theorem dX9_goOn_40 : decode cX9_goOn 40 = .ok (.invokevirtual 235, 3) := by decide +kernel
theorem dX9_goOn_43 : decode cX9_goOn 43 = .ok (.isub, 1) := by decide +kernel
theorem dX9_goOn_44 : decode cX9_goOn 44 = .ok (.ireturn, 1) := by decide +kernel
theorem dX9_fail_0 : decode cX9_fail 0 = .ok (.aload_n 0, 1) := by decide +kernel
theorem dX9_fail_1 : decode cX9_fail 1 = .ok (.getfield 78, 3) := by decide +kernel
theorem dX9_fail_4 : decode cX9_fail 4 = .ok (.invokevirtual 211, 3) := by decide +kernel
theorem dX9_fail_7 : decode cX9_fail 7 = .ok (.bipush 102, 2) := by decide +kernel
theorem dX9_fail_9 : decode cX9_fail 9 = .ok (.if_icmp .ne 13, 3) := by decide +kernel
theorem dX9_fail_12 : decode cX9_fail 12 = .ok (.new 166, 3) := by decide +kernel
theorem dX9_fail_15 : decode cX9_fail 15 = .ok (.dup, 1) := by decide +kernel
theorem dX9_fail_16 : decode cX9_fail 16 = .ok (.ldc 215, 2) := by decide +kernel
theorem dX9_fail_18 : decode cX9_fail 18 = .ok (.invokespecial 170, 3) := by decide +kernel
theorem dX9_fail_21 : decode cX9_fail 21 = .ok (.athrow, 1) := by decide +kernel
theorem dX9_fail_22 : decode cX9_fail 22 = .ok (.aload_n 0, 1) := by decide +kernel
theorem dX9_fail_23 : decode cX9_fail 23 = .ok (.getfield 78, 3) := by decide +kernel
theorem dX9_fail_26 : decode cX9_fail 26 = .ok (.invokevirtual 238, 3) := by decide +kernel
theorem dX9_fail_29 : decode cX9_fail 29 = .ok (.ireturn, 1) := by decide +kernel
theorem dX9_mend_0 : decode cX9_mend 0 = .ok (.aload_n 0, 1) := by decide +kernel
theorem dX9_mend_1 : decode cX9_mend 1 = .ok (.getfield 78, 3) := by decide +kernel
theorem dX9_mend_4 : decode cX9_mend 4 = .ok (.invokevirtual 211, 3) := by decide +kernel
theorem dX9_mend_7 : decode cX9_mend 7 = .ok (.bipush 102, 2) := by decide +kernel
theorem dX9_mend_9 : decode cX9_mend 9 = .ok (.if_icmp .eq 13, 3) := by decide +kernel
theorem dX9_mend_12 : decode cX9_mend 12 = .ok (.new 166, 3) := by decide +kernel
theorem dX9_mend_15 : decode cX9_mend 15 = .ok (.dup, 1) := by decide +kernel
theorem dX9_mend_16 : decode cX9_mend 16 = .ok (.ldc 241, 2) := by decide +kernel
theorem dX9_mend_18 : decode cX9_mend 18 = .ok (.invokespecial 170, 3) := by decide +kernel
theorem dX9_mend_21 : decode cX9_mend 21 = .ok (.athrow, 1) := by decide +kernel
theorem dX9_mend_22 : decode cX9_mend 22 = .ok (.aload_n 0, 1) := by decide +kernel
theorem dX9_mend_23 : decode cX9_mend 23 = .ok (.getfield 78, 3) := by decide +kernel
theorem dX9_mend_26 : decode cX9_mend 26 = .ok (.invokevirtual 243, 3) := by decide +kernel
theorem dX9_mend_29 : decode cX9_mend 29 = .ok (.ireturn, 1) := by decide +kernel
theorem dX9_state_0 : decode cX9_state 0 = .ok (.aload_n 0, 1) := by decide +kernel
theorem dX9_state_1 : decode cX9_state 1 = .ok (.getfield 78, 3) := by decide +kernel
theorem dX9_state_4 : decode cX9_state 4 = .ok (.invokevirtual 211, 3) := by decide +kernel
theorem dX9_state_7 : decode cX9_state 7 = .ok (.ireturn, 1) := by decide +kernel
theorem dX9_next_0 : decode cX9_next 0 = .ok (.aload_n 0, 1) := by decide +kernel
theorem dX9_next_1 : decode cX9_next 1 = .ok (.getfield 78, 3) := by decide +kernel
theorem dX9_next_4 : decode cX9_next 4 = .ok (.invokevirtual 235, 3) := by decide +kernel
theorem dX9_next_7 : decode cX9_next 7 = .ok (.ireturn, 1) := by decide +kernel
theorem dX9_speed_0 : decode cX9_speed 0 = .ok (.aload_n 0, 1) := by decide +kernel
theorem dX9_speed_1 : decode cX9_speed 1 = .ok (.getfield 78, 3) := by decide +kernel
theorem dX9_speed_4 : decode cX9_speed 4 = .ok (.invokevirtual 257, 3) := by decide +kernel
theorem dX9_speed_7 : decode cX9_speed 7 = .ok (.ireturn, 1) := by decide +kernel
theorem dX9_temperature_0 : decode cX9_temperature 0 = .ok (.aload_n 0, 1) := by decide +kernel
theorem dX9_temperature_1 : decode cX9_temperature 1 = .ok (.getfield 69, 3) := by decide +kernel
theorem dX9_temperature_4 : decode cX9_temperature 4 = .ok (.invokevirtual 260, 3) := by decide +kernel
theorem dX9_temperature_7 : decode cX9_temperature 7 = .ok (.ireturn, 1) := by decide +kernel
theorem dX9_time_0 : decode cX9_time 0 = .ok (.aload_n 0, 1) := by decide +kernel
theorem dX9_time_1 : decode cX9_time 1 = .ok (.getfield 78, 3) := by decide +kernel
theorem dX9_time_4 : decode cX9_time 4 = .ok (.invokevirtual 263, 3) := by decide +kernel
theorem dX9_time_7 : decode cX9_time 7 = .ok (.lreturn, 1) := by decide +kernel
theorem dX9_laid_0 : decode cX9_laid 0 = .ok (.iload_n 1, 1) := by decide +kernel
theorem dX9_laid_1 : decode cX9_laid 1 = .ok (.iload_n 2, 1) := by decide +kernel
theorem dX9_laid_2 : decode cX9_laid 2 = .ok (.iload_n 3, 1) := by decide +kernel
theorem dX9_laid_3 : decode cX9_laid 3 = .ok (.invokestatic 130, 3) := by decide +kernel
theorem dX9_laid_6 : decode cX9_laid 6 = .ok (.aload_n 0, 1) := by decide +kernel
theorem dX9_laid_7 : decode cX9_laid 7 = .ok (.getfield 78, 3) := by decide +kernel
theorem dX9_laid_10 : decode cX9_laid 10 = .ok (.iload_n 1, 1) := by decide +kernel
theorem dX9_laid_11 : decode cX9_laid 11 = .ok (.iload_n 2, 1) := by decide +kernel
theorem dX9_laid_12 : decode cX9_laid 12 = .ok (.iload_n 3, 1) := by decide +kernel
theorem dX9_laid_13 : decode cX9_laid 13 = .ok (.invokevirtual 266, 3) := by decide +kernel
theorem dX9_laid_16 : decode cX9_laid 16 = .ok (.ireturn, 1) := by decide +kernel
theorem dX9_laidInAll_0 : decode cX9_laidInAll 0 = .ok (.aload_n 0, 1) := by decide +kernel
theorem dX9_laidInAll_1 : decode cX9_laidInAll 1 = .ok (.getfield 78, 3) := by decide +kernel
theorem dX9_laidInAll_4 : decode cX9_laidInAll 4 = .ok (.invokevirtual 270, 3) := by decide +kernel
theorem dX9_laidInAll_7 : decode cX9_laidInAll 7 = .ok (.lreturn, 1) := by decide +kernel
theorem dX9_requireLayer_0 : decode cX9_requireLayer 0 = .ok (.iload_n 0, 1) := by decide +kernel
theorem dX9_requireLayer_1 : decode cX9_requireLayer 1 = .ok (.invokestatic 289, 3) := by decide +kernel
theorem dX9_requireLayer_4 : decode cX9_requireLayer 4 = .ok (.ifCond .ne 14, 3) := by decide +kernel
theorem dX9_requireLayer_7 : decode cX9_requireLayer 7 = .ok (.new 293, 3) := by decide +kernel
theorem dX9_requireLayer_10 : decode cX9_requireLayer 10 = .ok (.dup, 1) := by decide +kernel
theorem dX9_requireLayer_11 : decode cX9_requireLayer 11 = .ok (.ldc_w 295, 3) := by decide +kernel
theorem dX9_requireLayer_14 : decode cX9_requireLayer 14 = .ok (.invokespecial 297, 3) := by decide +kernel
theorem dX9_requireLayer_17 : decode cX9_requireLayer 17 = .ok (.athrow, 1) := by decide +kernel
theorem dX9_requireLayer_18 : decode cX9_requireLayer 18 = .ok (.return_, 1) := by decide +kernel
theorem dX9_requireCell_0 : decode cX9_requireCell 0 = .ok (.iload_n 0, 1) := by decide +kernel
theorem dX9_requireCell_1 : decode cX9_requireCell 1 = .ok (.iload_n 1, 1) := by decide +kernel
theorem dX9_requireCell_2 : decode cX9_requireCell 2 = .ok (.iload_n 2, 1) := by decide +kernel
theorem dX9_requireCell_3 : decode cX9_requireCell 3 = .ok (.invokestatic 298, 3) := by decide +kernel
theorem dX9_requireCell_6 : decode cX9_requireCell 6 = .ok (.ifCond .ne 14, 3) := by decide +kernel
theorem dX9_requireCell_9 : decode cX9_requireCell 9 = .ok (.new 293, 3) := by decide +kernel
theorem dX9_requireCell_12 : decode cX9_requireCell 12 = .ok (.dup, 1) := by decide +kernel
theorem dX9_requireCell_13 : decode cX9_requireCell 13 = .ok (.ldc_w 302, 3) := by decide +kernel
theorem dX9_requireCell_16 : decode cX9_requireCell 16 = .ok (.invokespecial 297, 3) := by decide +kernel
theorem dX9_requireCell_19 : decode cX9_requireCell 19 = .ok (.athrow, 1) := by decide +kernel
theorem dX9_requireCell_20 : decode cX9_requireCell 20 = .ok (.return_, 1) := by decide +kernel
theorem dX9_requireCommand_0 : decode cX9_requireCommand 0 = .ok (.aload_n 0, 1) := by decide +kernel
theorem dX9_requireCommand_1 : decode cX9_requireCommand 1 = .ok (.getfield 53, 3) := by decide +kernel
theorem dX9_requireCommand_4 : decode cX9_requireCommand 4 = .ok (.iload_n 1, 1) := by decide +kernel
theorem dX9_requireCommand_5 : decode cX9_requireCommand 5 = .ok (.invokevirtual 304, 3) := by decide +kernel
theorem dX9_requireCommand_8 : decode cX9_requireCommand 8 = .ok (.ifCond .ne 14, 3) := by decide +kernel
theorem dX9_requireCommand_11 : decode cX9_requireCommand 11 = .ok (.new 293, 3) := by decide +kernel
theorem dX9_requireCommand_14 : decode cX9_requireCommand 14 = .ok (.dup, 1) := by decide +kernel
theorem dX9_requireCommand_15 : decode cX9_requireCommand 15 = .ok (.ldc_w 307, 3) := by decide +kernel
theorem dX9_requireCommand_18 : decode cX9_requireCommand 18 = .ok (.invokespecial 297, 3) := by decide +kernel
theorem dX9_requireCommand_21 : decode cX9_requireCommand 21 = .ok (.athrow, 1) := by decide +kernel
theorem dX9_requireCommand_22 : decode cX9_requireCommand 22 = .ok (.return_, 1) := by decide +kernel
theorem dX9_isPlace_0 : decode cX9_isPlace 0 = .ok (.iload_n 0, 1) := by decide +kernel
theorem dX9_isPlace_1 : decode cX9_isPlace 1 = .ok (.ifCond .lt 13, 3) := by decide +kernel
theorem dX9_isPlace_4 : decode cX9_isPlace 4 = .ok (.iload_n 0, 1) := by decide +kernel
theorem dX9_isPlace_5 : decode cX9_isPlace 5 = .ok (.bipush 12, 2) := by decide +kernel
theorem dX9_isPlace_7 : decode cX9_isPlace 7 = .ok (.if_icmp .ge 7, 3) := by decide +kernel
theorem dX9_isPlace_10 : decode cX9_isPlace 10 = .ok (.iconst 1, 1) := by decide +kernel
theorem dX9_isPlace_11 : decode cX9_isPlace 11 = .ok (.goto 4, 3) := by decide +kernel
theorem dX9_isPlace_14 : decode cX9_isPlace 14 = .ok (.iconst 0, 1) := by decide +kernel
theorem dX9_isPlace_15 : decode cX9_isPlace 15 = .ok (.ireturn, 1) := by decide +kernel
theorem dX9_isCell_0 : decode cX9_isCell 0 = .ok (.iload_n 0, 1) := by decide +kernel
theorem dX9_isCell_1 : decode cX9_isCell 1 = .ok (.ifCond .lt 33, 3) := by decide +kernel
theorem dX9_isCell_4 : decode cX9_isCell 4 = .ok (.iload_n 0, 1) := by decide +kernel
theorem dX9_isCell_5 : decode cX9_isCell 5 = .ok (.bipush 12, 2) := by decide +kernel
theorem dX9_isCell_7 : decode cX9_isCell 7 = .ok (.if_icmp .ge 27, 3) := by decide +kernel
theorem dX9_isCell_10 : decode cX9_isCell 10 = .ok (.iload_n 1, 1) := by decide +kernel
theorem dX9_isCell_11 : decode cX9_isCell 11 = .ok (.ifCond .lt 23, 3) := by decide +kernel
theorem dX9_isCell_14 : decode cX9_isCell 14 = .ok (.iload_n 1, 1) := by decide +kernel
theorem dX9_isCell_15 : decode cX9_isCell 15 = .ok (.bipush 12, 2) := by decide +kernel
theorem dX9_isCell_17 : decode cX9_isCell 17 = .ok (.if_icmp .ge 17, 3) := by decide +kernel
theorem dX9_isCell_20 : decode cX9_isCell 20 = .ok (.iload_n 2, 1) := by decide +kernel
theorem dX9_isCell_21 : decode cX9_isCell 21 = .ok (.ifCond .lt 13, 3) := by decide +kernel
theorem dX9_isCell_24 : decode cX9_isCell 24 = .ok (.iload_n 2, 1) := by decide +kernel
theorem dX9_isCell_25 : decode cX9_isCell 25 = .ok (.bipush 12, 2) := by decide +kernel
theorem dX9_isCell_27 : decode cX9_isCell 27 = .ok (.if_icmp .ge 7, 3) := by decide +kernel
theorem dX9_isCell_30 : decode cX9_isCell 30 = .ok (.iconst 1, 1) := by decide +kernel
theorem dX9_isCell_31 : decode cX9_isCell 31 = .ok (.goto 4, 3) := by decide +kernel
theorem dX9_isCell_34 : decode cX9_isCell 34 = .ok (.iconst 0, 1) := by decide +kernel
theorem dX9_isCell_35 : decode cX9_isCell 35 = .ok (.ireturn, 1) := by decide +kernel
theorem dX9_isSpan_0 : decode cX9_isSpan 0 = .ok (.iload_n 0, 1) := by decide +kernel
theorem dX9_isSpan_1 : decode cX9_isSpan 1 = .ok (.invokestatic 289, 3) := by decide +kernel
theorem dX9_isSpan_4 : decode cX9_isSpan 4 = .ok (.ifCond .eq 20, 3) := by decide +kernel
theorem dX9_isSpan_7 : decode cX9_isSpan 7 = .ok (.iload_n 1, 1) := by decide +kernel
theorem dX9_isSpan_8 : decode cX9_isSpan 8 = .ok (.iconst 1, 1) := by decide +kernel
theorem dX9_isSpan_9 : decode cX9_isSpan 9 = .ok (.if_icmp .lt 15, 3) := by decide +kernel
theorem dX9_isSpan_12 : decode cX9_isSpan 12 = .ok (.iload_n 1, 1) := by decide +kernel
theorem dX9_isSpan_13 : decode cX9_isSpan 13 = .ok (.bipush 12, 2) := by decide +kernel
theorem dX9_isSpan_15 : decode cX9_isSpan 15 = .ok (.iload_n 0, 1) := by decide +kernel
theorem dX9_isSpan_16 : decode cX9_isSpan 16 = .ok (.isub, 1) := by decide +kernel
theorem dX9_isSpan_17 : decode cX9_isSpan 17 = .ok (.if_icmp .gt 7, 3) := by decide +kernel
theorem dX9_isSpan_20 : decode cX9_isSpan 20 = .ok (.iconst 1, 1) := by decide +kernel
theorem dX9_isSpan_21 : decode cX9_isSpan 21 = .ok (.goto 4, 3) := by decide +kernel
theorem dX9_isSpan_24 : decode cX9_isSpan 24 = .ok (.iconst 0, 1) := by decide +kernel
theorem dX9_isSpan_25 : decode cX9_isSpan 25 = .ok (.ireturn, 1) := by decide +kernel
theorem dX9_indexOf_0 : decode cX9_indexOf 0 = .ok (.iload_n 2, 1) := by decide +kernel
theorem dX9_indexOf_1 : decode cX9_indexOf 1 = .ok (.sipush 144, 3) := by decide +kernel
theorem dX9_indexOf_4 : decode cX9_indexOf 4 = .ok (.imul, 1) := by decide +kernel
theorem dX9_indexOf_5 : decode cX9_indexOf 5 = .ok (.iload_n 1, 1) := by decide +kernel
theorem dX9_indexOf_6 : decode cX9_indexOf 6 = .ok (.bipush 12, 2) := by decide +kernel
theorem dX9_indexOf_8 : decode cX9_indexOf 8 = .ok (.imul, 1) := by decide +kernel
theorem dX9_indexOf_9 : decode cX9_indexOf 9 = .ok (.iadd, 1) := by decide +kernel
theorem dX9_indexOf_10 : decode cX9_indexOf 10 = .ok (.iload_n 0, 1) := by decide +kernel
theorem dX9_indexOf_11 : decode cX9_indexOf 11 = .ok (.iadd, 1) := by decide +kernel
theorem dX9_indexOf_12 : decode cX9_indexOf 12 = .ok (.ireturn, 1) := by decide +kernel
theorem dX9_canBeHalved_0 : decode cX9_canBeHalved 0 = .ok (.iload_n 0, 1) := by decide +kernel
theorem dX9_canBeHalved_1 : decode cX9_canBeHalved 1 = .ok (.iconst 2, 1) := by decide +kernel
theorem dX9_canBeHalved_2 : decode cX9_canBeHalved 2 = .ok (.irem, 1) := by decide +kernel
theorem dX9_canBeHalved_3 : decode cX9_canBeHalved 3 = .ok (.ifCond .ne 7, 3) := by decide +kernel
theorem dX9_canBeHalved_6 : decode cX9_canBeHalved 6 = .ok (.iconst 1, 1) := by decide +kernel
theorem dX9_canBeHalved_7 : decode cX9_canBeHalved 7 = .ok (.goto 4, 3) := by decide +kernel
theorem dX9_canBeHalved_10 : decode cX9_canBeHalved 10 = .ok (.iconst 0, 1) := by decide +kernel
theorem dX9_canBeHalved_11 : decode cX9_canBeHalved 11 = .ok (.ireturn, 1) := by decide +kernel
theorem dX9_distance_0 : decode cX9_distance 0 = .ok (.iload_n 2, 1) := by decide +kernel
theorem dX9_distance_1 : decode cX9_distance 1 = .ok (.iload_n 0, 1) := by decide +kernel
theorem dX9_distance_2 : decode cX9_distance 2 = .ok (.isub, 1) := by decide +kernel
theorem dX9_distance_3 : decode cX9_distance 3 = .ok (.invokestatic 309, 3) := by decide +kernel
theorem dX9_distance_6 : decode cX9_distance 6 = .ok (.iload_n 3, 1) := by decide +kernel
theorem dX9_distance_7 : decode cX9_distance 7 = .ok (.iload_n 1, 1) := by decide +kernel
theorem dX9_distance_8 : decode cX9_distance 8 = .ok (.isub, 1) := by decide +kernel
theorem dX9_distance_9 : decode cX9_distance 9 = .ok (.invokestatic 309, 3) := by decide +kernel
theorem dX9_distance_12 : decode cX9_distance 12 = .ok (.iadd, 1) := by decide +kernel
theorem dX9_distance_13 : decode cX9_distance 13 = .ok (.ireturn, 1) := by decide +kernel
theorem dX9_signOf_0 : decode cX9_signOf 0 = .ok (.iload_n 0, 1) := by decide +kernel
theorem dX9_signOf_1 : decode cX9_signOf 1 = .ok (.ifCond .le 7, 3) := by decide +kernel
theorem dX9_signOf_4 : decode cX9_signOf 4 = .ok (.iconst 1, 1) := by decide +kernel
theorem dX9_signOf_5 : decode cX9_signOf 5 = .ok (.goto 12, 3) := by decide +kernel
theorem dX9_signOf_8 : decode cX9_signOf 8 = .ok (.iload_n 0, 1) := by decide +kernel
theorem dX9_signOf_9 : decode cX9_signOf 9 = .ok (.ifCond .ge 7, 3) := by decide +kernel
theorem dX9_signOf_12 : decode cX9_signOf 12 = .ok (.iconst (-1), 1) := by decide +kernel
theorem dX9_signOf_13 : decode cX9_signOf 13 = .ok (.goto 4, 3) := by decide +kernel
theorem dX9_signOf_16 : decode cX9_signOf 16 = .ok (.iconst 0, 1) := by decide +kernel
theorem dX9_signOf_17 : decode cX9_signOf 17 = .ok (.ireturn, 1) := by decide +kernel
theorem dJ9_abs_0f7a4_0 : decode cJ9_abs_0f7a4 0 = .ok (.iload_n 0, 1) := by decide +kernel
theorem dJ9_abs_0f7a4_1 : decode cJ9_abs_0f7a4 1 = .ok (.ifCond .ge 8, 3) := by decide +kernel
theorem dJ9_abs_0f7a4_4 : decode cJ9_abs_0f7a4 4 = .ok (.iload_n 0, 1) := by decide +kernel
theorem dJ9_abs_0f7a4_5 : decode cJ9_abs_0f7a4 5 = .ok (.ineg, 1) := by decide +kernel
theorem dJ9_abs_0f7a4_6 : decode cJ9_abs_0f7a4 6 = .ok (.goto 4, 3) := by decide +kernel
theorem dJ9_abs_0f7a4_9 : decode cJ9_abs_0f7a4 9 = .ok (.iload_n 0, 1) := by decide +kernel
theorem dJ9_abs_0f7a4_10 : decode cJ9_abs_0f7a4 10 = .ok (.ireturn, 1) := by decide +kernel
theorem dJ9_max_7cf53_0 : decode cJ9_max_7cf53 0 = .ok (.iload_n 0, 1) := by decide +kernel
theorem dJ9_max_7cf53_1 : decode cJ9_max_7cf53 1 = .ok (.iload_n 1, 1) := by decide +kernel
theorem dJ9_max_7cf53_2 : decode cJ9_max_7cf53 2 = .ok (.if_icmp .lt 7, 3) := by decide +kernel
theorem dJ9_max_7cf53_5 : decode cJ9_max_7cf53 5 = .ok (.iload_n 0, 1) := by decide +kernel
theorem dJ9_max_7cf53_6 : decode cJ9_max_7cf53 6 = .ok (.goto 4, 3) := by decide +kernel
theorem dJ9_max_7cf53_9 : decode cJ9_max_7cf53 9 = .ok (.iload_n 1, 1) := by decide +kernel
theorem dJ9_max_7cf53_10 : decode cJ9_max_7cf53 10 = .ok (.ireturn, 1) := by decide +kernel
theorem dJ9_min_7cf53_0 : decode cJ9_min_7cf53 0 = .ok (.iload_n 0, 1) := by decide +kernel
theorem dJ9_min_7cf53_1 : decode cJ9_min_7cf53 1 = .ok (.iload_n 1, 1) := by decide +kernel
theorem dJ9_min_7cf53_2 : decode cJ9_min_7cf53 2 = .ok (.if_icmp .gt 7, 3) := by decide +kernel
theorem dJ9_min_7cf53_5 : decode cJ9_min_7cf53 5 = .ok (.iload_n 0, 1) := by decide +kernel
theorem dJ9_min_7cf53_6 : decode cJ9_min_7cf53 6 = .ok (.goto 4, 3) := by decide +kernel
theorem dJ9_min_7cf53_9 : decode cJ9_min_7cf53 9 = .ok (.iload_n 1, 1) := by decide +kernel
theorem dJ9_min_7cf53_10 : decode cJ9_min_7cf53 10 = .ok (.ireturn, 1) := by decide +kernel
theorem dJ7_fill_53178_0 : decode cJ7_fill_53178 0 = .ok (.iconst 0, 1) := by decide +kernel
theorem dJ7_fill_53178_1 : decode cJ7_fill_53178 1 = .ok (.istore_n 2, 1) := by decide +kernel
theorem dJ7_fill_53178_2 : decode cJ7_fill_53178 2 = .ok (.aload_n 0, 1) := by decide +kernel
theorem dJ7_fill_53178_3 : decode cJ7_fill_53178 3 = .ok (.arraylength, 1) := by decide +kernel
theorem dJ7_fill_53178_4 : decode cJ7_fill_53178 4 = .ok (.istore_n 3, 1) := by decide +kernel
theorem dJ7_fill_53178_5 : decode cJ7_fill_53178 5 = .ok (.iload_n 2, 1) := by decide +kernel
theorem dJ7_fill_53178_6 : decode cJ7_fill_53178 6 = .ok (.iload_n 3, 1) := by decide +kernel
theorem dJ7_fill_53178_7 : decode cJ7_fill_53178 7 = .ok (.if_icmp .ge 13, 3) := by decide +kernel
theorem dJ7_fill_53178_10 : decode cJ7_fill_53178 10 = .ok (.aload_n 0, 1) := by decide +kernel
theorem dJ7_fill_53178_11 : decode cJ7_fill_53178 11 = .ok (.iload_n 2, 1) := by decide +kernel
theorem dJ7_fill_53178_12 : decode cJ7_fill_53178 12 = .ok (.iload_n 1, 1) := by decide +kernel
theorem dJ7_fill_53178_13 : decode cJ7_fill_53178 13 = .ok (.iastore, 1) := by decide +kernel
theorem dJ7_fill_53178_14 : decode cJ7_fill_53178 14 = .ok (.iinc 2 1, 3) := by decide +kernel
theorem dJ7_fill_53178_17 : decode cJ7_fill_53178 17 = .ok (.goto (-12), 3) := by decide +kernel
theorem dJ7_fill_53178_20 : decode cJ7_fill_53178 20 = .ok (.return_, 1) := by decide +kernel
theorem dL_cell_0 : decode cL_cell 0 = .ok (.iload_n 1, 1) := by decide +kernel
theorem dL_cell_1 : decode cL_cell 1 = .ok (.aload_n 0, 1) := by decide +kernel
theorem dL_cell_2 : decode cL_cell 2 = .ok (.arraylength, 1) := by decide +kernel
theorem dL_cell_3 : decode cL_cell 3 = .ok (.if_icmp .ge 9, 3) := by decide +kernel
theorem dL_cell_6 : decode cL_cell 6 = .ok (.aload_n 0, 1) := by decide +kernel
theorem dL_cell_7 : decode cL_cell 7 = .ok (.iload_n 1, 1) := by decide +kernel
theorem dL_cell_8 : decode cL_cell 8 = .ok (.iaload, 1) := by decide +kernel
theorem dL_cell_9 : decode cL_cell 9 = .ok (.goto 11, 3) := by decide +kernel
theorem dL_cell_12 : decode cL_cell 12 = .ok (.ldc 7, 2) := by decide +kernel
theorem dL_cell_14 : decode cL_cell 14 = .ok (.iload_n 1, 1) := by decide +kernel
theorem dL_cell_15 : decode cL_cell 15 = .ok (.imul, 1) := by decide +kernel
theorem dL_cell_16 : decode cL_cell 16 = .ok (.sipush 3803, 3) := by decide +kernel
theorem dL_cell_19 : decode cL_cell 19 = .ok (.iadd, 1) := by decide +kernel
theorem dL_cell_20 : decode cL_cell 20 = .ok (.ireturn, 1) := by decide +kernel
theorem dL_low_0 : decode cL_low 0 = .ok (.iload_n 0, 1) := by decide +kernel
theorem dL_low_1 : decode cL_low 1 = .ok (.ldc 8, 2) := by decide +kernel
theorem dL_low_3 : decode cL_low 3 = .ok (.iand, 1) := by decide +kernel
theorem dL_low_4 : decode cL_low 4 = .ok (.iload_n 1, 1) := by decide +kernel
theorem dL_low_5 : decode cL_low 5 = .ok (.irem, 1) := by decide +kernel
theorem dL_low_6 : decode cL_low 6 = .ok (.ireturn, 1) := by decide +kernel
theorem dL_isDrawn_0 : decode cL_isDrawn 0 = .ok (.iload_n 0, 1) := by decide +kernel
theorem dL_isDrawn_1 : decode cL_isDrawn 1 = .ok (.bipush 119, 2) := by decide +kernel
theorem dL_isDrawn_3 : decode cL_isDrawn 3 = .ok (.if_icmp .eq 27, 3) := by decide +kernel
theorem dL_isDrawn_6 : decode cL_isDrawn 6 = .ok (.iload_n 0, 1) := by decide +kernel
theorem dL_isDrawn_7 : decode cL_isDrawn 7 = .ok (.bipush 98, 2) := by decide +kernel
theorem dL_isDrawn_9 : decode cL_isDrawn 9 = .ok (.if_icmp .eq 21, 3) := by decide +kernel
theorem dL_isDrawn_12 : decode cL_isDrawn 12 = .ok (.iload_n 0, 1) := by decide +kernel
theorem dL_isDrawn_13 : decode cL_isDrawn 13 = .ok (.bipush 116, 2) := by decide +kernel
theorem dL_isDrawn_15 : decode cL_isDrawn 15 = .ok (.if_icmp .eq 15, 3) := by decide +kernel
theorem dL_isDrawn_18 : decode cL_isDrawn 18 = .ok (.iload_n 0, 1) := by decide +kernel
theorem dL_isDrawn_19 : decode cL_isDrawn 19 = .ok (.bipush 105, 2) := by decide +kernel
theorem dL_isDrawn_21 : decode cL_isDrawn 21 = .ok (.if_icmp .eq 9, 3) := by decide +kernel
theorem dL_isDrawn_24 : decode cL_isDrawn 24 = .ok (.iload_n 0, 1) := by decide +kernel
theorem dL_isDrawn_25 : decode cL_isDrawn 25 = .ok (.bipush 115, 2) := by decide +kernel
theorem dL_isDrawn_27 : decode cL_isDrawn 27 = .ok (.if_icmp .ne 7, 3) := by decide +kernel
theorem dL_isDrawn_30 : decode cL_isDrawn 30 = .ok (.iconst 1, 1) := by decide +kernel
theorem dL_isDrawn_31 : decode cL_isDrawn 31 = .ok (.goto 4, 3) := by decide +kernel
theorem dL_isDrawn_34 : decode cL_isDrawn 34 = .ok (.iconst 0, 1) := by decide +kernel
theorem dL_isDrawn_35 : decode cL_isDrawn 35 = .ok (.ireturn, 1) := by decide +kernel
theorem dL_arePlanned_0 : decode cL_arePlanned 0 = .ok (.iconst 0, 1) := by decide +kernel
theorem dL_arePlanned_1 : decode cL_arePlanned 1 = .ok (.istore_n 3, 1) := by decide +kernel
theorem dL_arePlanned_2 : decode cL_arePlanned 2 = .ok (.iconst 0, 1) := by decide +kernel
theorem dL_arePlanned_3 : decode cL_arePlanned 3 = .ok (.istore 4, 2) := by decide +kernel
theorem dL_arePlanned_5 : decode cL_arePlanned 5 = .ok (.iconst 0, 1) := by decide +kernel
theorem dL_arePlanned_6 : decode cL_arePlanned 6 = .ok (.istore 5, 2) := by decide +kernel
theorem dL_arePlanned_8 : decode cL_arePlanned 8 = .ok (.lconst 0, 1) := by decide +kernel
theorem dL_arePlanned_9 : decode cL_arePlanned 9 = .ok (.lstore 6, 2) := by decide +kernel
theorem dL_arePlanned_11 : decode cL_arePlanned 11 = .ok (.iconst (-1), 1) := by decide +kernel
theorem dL_arePlanned_12 : decode cL_arePlanned 12 = .ok (.istore 8, 2) := by decide +kernel
theorem dL_arePlanned_14 : decode cL_arePlanned 14 = .ok (.iconst 1, 1) := by decide +kernel
theorem dL_arePlanned_15 : decode cL_arePlanned 15 = .ok (.istore 9, 2) := by decide +kernel
theorem dL_arePlanned_17 : decode cL_arePlanned 17 = .ok (.iconst 0, 1) := by decide +kernel
theorem dL_arePlanned_18 : decode cL_arePlanned 18 = .ok (.istore 10, 2) := by decide +kernel
theorem dL_arePlanned_20 : decode cL_arePlanned 20 = .ok (.iload 10, 2) := by decide +kernel
theorem dL_arePlanned_22 : decode cL_arePlanned 22 = .ok (.iload_n 1, 1) := by decide +kernel
theorem dL_arePlanned_23 : decode cL_arePlanned 23 = .ok (.if_icmp .ge 289, 3) := by decide +kernel
theorem dL_arePlanned_26 : decode cL_arePlanned 26 = .ok (.iload 9, 2) := by decide +kernel
theorem dL_arePlanned_28 : decode cL_arePlanned 28 = .ok (.ifCond .eq 284, 3) := by decide +kernel
theorem dL_arePlanned_31 : decode cL_arePlanned 31 = .ok (.aload_n 0, 1) := by decide +kernel
theorem dL_arePlanned_32 : decode cL_arePlanned 32 = .ok (.iload 10, 2) := by decide +kernel
theorem dL_arePlanned_34 : decode cL_arePlanned 34 = .ok (.invokevirtual 9, 3) := by decide +kernel
theorem dL_arePlanned_37 : decode cL_arePlanned 37 = .ok (.istore 11, 2) := by decide +kernel
theorem dL_arePlanned_39 : decode cL_arePlanned 39 = .ok (.iload 11, 2) := by decide +kernel
theorem dL_arePlanned_41 : decode cL_arePlanned 41 = .ok (.bipush 122, 2) := by decide +kernel
theorem dL_arePlanned_43 : decode cL_arePlanned 43 = .ok (.if_icmp .ne 36, 3) := by decide +kernel
theorem dL_arePlanned_46 : decode cL_arePlanned 46 = .ok (.aload_n 0, 1) := by decide +kernel
theorem dL_arePlanned_47 : decode cL_arePlanned 47 = .ok (.iload 10, 2) := by decide +kernel
theorem dL_arePlanned_49 : decode cL_arePlanned 49 = .ok (.bipush 122, 2) := by decide +kernel
theorem dL_arePlanned_51 : decode cL_arePlanned 51 = .ok (.invokevirtual 15, 3) := by decide +kernel
theorem dL_arePlanned_54 : decode cL_arePlanned 54 = .ok (.iload 8, 2) := by decide +kernel
theorem dL_arePlanned_56 : decode cL_arePlanned 56 = .ok (.if_icmp .le 7, 3) := by decide +kernel
theorem dL_arePlanned_59 : decode cL_arePlanned 59 = .ok (.iconst 1, 1) := by decide +kernel
theorem dL_arePlanned_60 : decode cL_arePlanned 60 = .ok (.goto 4, 3) := by decide +kernel
theorem dL_arePlanned_63 : decode cL_arePlanned 63 = .ok (.iconst 0, 1) := by decide +kernel
theorem dL_arePlanned_64 : decode cL_arePlanned 64 = .ok (.istore 9, 2) := by decide +kernel
theorem dL_arePlanned_66 : decode cL_arePlanned 66 = .ok (.aload_n 0, 1) := by decide +kernel
theorem dL_arePlanned_67 : decode cL_arePlanned 67 = .ok (.iload 10, 2) := by decide +kernel
theorem dL_arePlanned_69 : decode cL_arePlanned 69 = .ok (.bipush 122, 2) := by decide +kernel
theorem dL_arePlanned_71 : decode cL_arePlanned 71 = .ok (.invokevirtual 15, 3) := by decide +kernel
theorem dL_arePlanned_74 : decode cL_arePlanned 74 = .ok (.istore 8, 2) := by decide +kernel
theorem dL_arePlanned_76 : decode cL_arePlanned 76 = .ok (.goto 230, 3) := by decide +kernel
theorem dL_arePlanned_79 : decode cL_arePlanned 79 = .ok (.iload 11, 2) := by decide +kernel
theorem dL_arePlanned_81 : decode cL_arePlanned 81 = .ok (.bipush 103, 2) := by decide +kernel
theorem dL_arePlanned_83 : decode cL_arePlanned 83 = .ok (.if_icmp .eq 10, 3) := by decide +kernel
theorem dL_arePlanned_86 : decode cL_arePlanned 86 = .ok (.iload 11, 2) := by decide +kernel
theorem dL_arePlanned_88 : decode cL_arePlanned 88 = .ok (.bipush 100, 2) := by decide +kernel
theorem dL_arePlanned_90 : decode cL_arePlanned 90 = .ok (.if_icmp .ne 216, 3) := by decide +kernel
theorem dL_arePlanned_93 : decode cL_arePlanned 93 = .ok (.aload_n 0, 1) := by decide +kernel
theorem dL_arePlanned_94 : decode cL_arePlanned 94 = .ok (.iload 10, 2) := by decide +kernel
theorem dL_arePlanned_96 : decode cL_arePlanned 96 = .ok (.bipush 120, 2) := by decide +kernel
theorem dL_arePlanned_98 : decode cL_arePlanned 98 = .ok (.invokevirtual 15, 3) := by decide +kernel
theorem dL_arePlanned_101 : decode cL_arePlanned 101 = .ok (.iload_n 3, 1) := by decide +kernel
theorem dL_arePlanned_102 : decode cL_arePlanned 102 = .ok (.isub, 1) := by decide +kernel
theorem dL_arePlanned_103 : decode cL_arePlanned 103 = .ok (.invokestatic 19, 3) := by decide +kernel
theorem dL_arePlanned_106 : decode cL_arePlanned 106 = .ok (.istore 12, 2) := by decide +kernel
theorem dL_arePlanned_108 : decode cL_arePlanned 108 = .ok (.aload_n 0, 1) := by decide +kernel
theorem dL_arePlanned_109 : decode cL_arePlanned 109 = .ok (.iload 10, 2) := by decide +kernel
theorem dL_arePlanned_111 : decode cL_arePlanned 111 = .ok (.bipush 121, 2) := by decide +kernel
theorem dL_arePlanned_113 : decode cL_arePlanned 113 = .ok (.invokevirtual 15, 3) := by decide +kernel
theorem dL_arePlanned_116 : decode cL_arePlanned 116 = .ok (.iload 4, 2) := by decide +kernel
theorem dL_arePlanned_118 : decode cL_arePlanned 118 = .ok (.isub, 1) := by decide +kernel
theorem dL_arePlanned_119 : decode cL_arePlanned 119 = .ok (.invokestatic 19, 3) := by decide +kernel
theorem dL_arePlanned_122 : decode cL_arePlanned 122 = .ok (.istore 13, 2) := by decide +kernel
theorem dL_arePlanned_124 : decode cL_arePlanned 124 = .ok (.iload 12, 2) := by decide +kernel
theorem dL_arePlanned_126 : decode cL_arePlanned 126 = .ok (.iload 13, 2) := by decide +kernel
theorem dL_arePlanned_128 : decode cL_arePlanned 128 = .ok (.iadd, 1) := by decide +kernel
theorem dL_arePlanned_129 : decode cL_arePlanned 129 = .ok (.iload_n 2, 1) := by decide +kernel
theorem dL_arePlanned_130 : decode cL_arePlanned 130 = .ok (.if_icmp .le 7, 3) := by decide +kernel
theorem dL_arePlanned_133 : decode cL_arePlanned 133 = .ok (.iconst 1, 1) := by decide +kernel
theorem dL_arePlanned_134 : decode cL_arePlanned 134 = .ok (.goto 4, 3) := by decide +kernel
theorem dL_arePlanned_137 : decode cL_arePlanned 137 = .ok (.iconst 0, 1) := by decide +kernel
theorem dL_arePlanned_138 : decode cL_arePlanned 138 = .ok (.istore 14, 2) := by decide +kernel
theorem dL_arePlanned_140 : decode cL_arePlanned 140 = .ok (.iload 11, 2) := by decide +kernel
theorem dL_arePlanned_142 : decode cL_arePlanned 142 = .ok (.bipush 100, 2) := by decide +kernel
theorem dL_arePlanned_144 : decode cL_arePlanned 144 = .ok (.if_icmp .ne 36, 3) := by decide +kernel
theorem dL_arePlanned_147 : decode cL_arePlanned 147 = .ok (.iload 8, 2) := by decide +kernel
theorem dL_arePlanned_149 : decode cL_arePlanned 149 = .ok (.iconst 2, 1) := by decide +kernel
theorem dL_arePlanned_150 : decode cL_arePlanned 150 = .ok (.irem, 1) := by decide +kernel
theorem dL_arePlanned_151 : decode cL_arePlanned 151 = .ok (.ifCond .ne 16, 3) := by decide +kernel
theorem dL_arePlanned_154 : decode cL_arePlanned 154 = .ok (.iload 13, 2) := by decide +kernel
theorem dL_arePlanned_156 : decode cL_arePlanned 156 = .ok (.ifCond .ne 7, 3) := by decide +kernel
theorem dL_arePlanned_159 : decode cL_arePlanned 159 = .ok (.iconst 1, 1) := by decide +kernel
theorem dL_arePlanned_160 : decode cL_arePlanned 160 = .ok (.goto 79, 3) := by decide +kernel
theorem dL_arePlanned_163 : decode cL_arePlanned 163 = .ok (.iconst 0, 1) := by decide +kernel
theorem dL_arePlanned_164 : decode cL_arePlanned 164 = .ok (.goto 75, 3) := by decide +kernel
theorem dL_arePlanned_167 : decode cL_arePlanned 167 = .ok (.iload 12, 2) := by decide +kernel
theorem dL_arePlanned_169 : decode cL_arePlanned 169 = .ok (.ifCond .ne 7, 3) := by decide +kernel
theorem dL_arePlanned_172 : decode cL_arePlanned 172 = .ok (.iconst 1, 1) := by decide +kernel
theorem dL_arePlanned_173 : decode cL_arePlanned 173 = .ok (.goto 66, 3) := by decide +kernel
theorem dL_arePlanned_176 : decode cL_arePlanned 176 = .ok (.iconst 0, 1) := by decide +kernel
theorem dL_arePlanned_177 : decode cL_arePlanned 177 = .ok (.goto 62, 3) := by decide +kernel
theorem dL_arePlanned_180 : decode cL_arePlanned 180 = .ok (.iload 12, 2) := by decide +kernel
theorem dL_arePlanned_182 : decode cL_arePlanned 182 = .ok (.iload 13, 2) := by decide +kernel
theorem dL_arePlanned_184 : decode cL_arePlanned 184 = .ok (.iadd, 1) := by decide +kernel
theorem dL_arePlanned_185 : decode cL_arePlanned 185 = .ok (.ifCond .le 53, 3) := by decide +kernel
theorem dL_arePlanned_188 : decode cL_arePlanned 188 = .ok (.aload_n 0, 1) := by decide +kernel
theorem dL_arePlanned_189 : decode cL_arePlanned 189 = .ok (.iload 10, 2) := by decide +kernel
theorem dL_arePlanned_191 : decode cL_arePlanned 191 = .ok (.iconst 1, 1) := by decide +kernel
theorem dL_arePlanned_192 : decode cL_arePlanned 192 = .ok (.isub, 1) := by decide +kernel
theorem dL_arePlanned_193 : decode cL_arePlanned 193 = .ok (.invokevirtual 9, 3) := by decide +kernel
theorem dL_arePlanned_196 : decode cL_arePlanned 196 = .ok (.bipush 114, 2) := by decide +kernel
theorem dL_arePlanned_198 : decode cL_arePlanned 198 = .ok (.if_icmp .ne 7, 3) := by decide +kernel
theorem dL_arePlanned_201 : decode cL_arePlanned 201 = .ok (.iconst 1, 1) := by decide +kernel
theorem dL_arePlanned_202 : decode cL_arePlanned 202 = .ok (.goto 4, 3) := by decide +kernel
theorem dL_arePlanned_205 : decode cL_arePlanned 205 = .ok (.iconst 0, 1) := by decide +kernel
theorem dL_arePlanned_206 : decode cL_arePlanned 206 = .ok (.iload 14, 2) := by decide +kernel
theorem dL_arePlanned_208 : decode cL_arePlanned 208 = .ok (.if_icmp .ne 30, 3) := by decide +kernel
theorem dL_arePlanned_211 : decode cL_arePlanned 211 = .ok (.aload_n 0, 1) := by decide +kernel
theorem dL_arePlanned_212 : decode cL_arePlanned 212 = .ok (.iload 10, 2) := by decide +kernel
theorem dL_arePlanned_214 : decode cL_arePlanned 214 = .ok (.iconst 1, 1) := by decide +kernel
theorem dL_arePlanned_215 : decode cL_arePlanned 215 = .ok (.iadd, 1) := by decide +kernel
theorem dL_arePlanned_216 : decode cL_arePlanned 216 = .ok (.invokevirtual 9, 3) := by decide +kernel
theorem dL_arePlanned_219 : decode cL_arePlanned 219 = .ok (.bipush 117, 2) := by decide +kernel
theorem dL_arePlanned_221 : decode cL_arePlanned 221 = .ok (.if_icmp .ne 7, 3) := by decide +kernel
theorem dL_arePlanned_224 : decode cL_arePlanned 224 = .ok (.iconst 1, 1) := by decide +kernel
theorem dL_arePlanned_225 : decode cL_arePlanned 225 = .ok (.goto 4, 3) := by decide +kernel
theorem dL_arePlanned_228 : decode cL_arePlanned 228 = .ok (.iconst 0, 1) := by decide +kernel
theorem dL_arePlanned_229 : decode cL_arePlanned 229 = .ok (.iload 14, 2) := by decide +kernel
theorem dL_arePlanned_231 : decode cL_arePlanned 231 = .ok (.if_icmp .ne 7, 3) := by decide +kernel
theorem dL_arePlanned_234 : decode cL_arePlanned 234 = .ok (.iconst 1, 1) := by decide +kernel
theorem dL_arePlanned_235 : decode cL_arePlanned 235 = .ok (.goto 4, 3) := by decide +kernel
theorem dL_arePlanned_238 : decode cL_arePlanned 238 = .ok (.iconst 0, 1) := by decide +kernel
theorem dL_arePlanned_239 : decode cL_arePlanned 239 = .ok (.istore 9, 2) := by decide +kernel
theorem dL_arePlanned_241 : decode cL_arePlanned 241 = .ok (.iload 5, 2) := by decide +kernel
theorem dL_arePlanned_243 : decode cL_arePlanned 243 = .ok (.iload 11, 2) := by decide +kernel
theorem dL_arePlanned_245 : decode cL_arePlanned 245 = .ok (.bipush 103, 2) := by decide +kernel
theorem dL_arePlanned_247 : decode cL_arePlanned 247 = .ok (.if_icmp .ne 11, 3) := by decide +kernel
theorem dL_arePlanned_250 : decode cL_arePlanned 250 = .ok (.iload 12, 2) := by decide +kernel
theorem dL_arePlanned_252 : decode cL_arePlanned 252 = .ok (.iload 13, 2) := by decide +kernel
theorem dL_arePlanned_254 : decode cL_arePlanned 254 = .ok (.iadd, 1) := by decide +kernel
theorem dL_arePlanned_255 : decode cL_arePlanned 255 = .ok (.goto 4, 3) := by decide +kernel
theorem dL_arePlanned_258 : decode cL_arePlanned 258 = .ok (.iconst 0, 1) := by decide +kernel
theorem dL_arePlanned_259 : decode cL_arePlanned 259 = .ok (.iadd, 1) := by decide +kernel
theorem dL_arePlanned_260 : decode cL_arePlanned 260 = .ok (.istore 5, 2) := by decide +kernel
theorem dL_arePlanned_262 : decode cL_arePlanned 262 = .ok (.lload 6, 2) := by decide +kernel
theorem dL_arePlanned_264 : decode cL_arePlanned 264 = .ok (.iload 11, 2) := by decide +kernel
theorem dL_arePlanned_266 : decode cL_arePlanned 266 = .ok (.bipush 100, 2) := by decide +kernel
theorem dL_arePlanned_268 : decode cL_arePlanned 268 = .ok (.if_icmp .ne 15, 3) := by decide +kernel
theorem dL_arePlanned_271 : decode cL_arePlanned 271 = .ok (.aload_n 0, 1) := by decide +kernel
theorem dL_arePlanned_272 : decode cL_arePlanned 272 = .ok (.iload 10, 2) := by decide +kernel
theorem dL_arePlanned_274 : decode cL_arePlanned 274 = .ok (.bipush 97, 2) := by decide +kernel
theorem dL_arePlanned_276 : decode cL_arePlanned 276 = .ok (.invokevirtual 15, 3) := by decide +kernel
theorem dL_arePlanned_279 : decode cL_arePlanned 279 = .ok (.i2l, 1) := by decide +kernel
theorem dL_arePlanned_280 : decode cL_arePlanned 280 = .ok (.goto 4, 3) := by decide +kernel
theorem dL_arePlanned_283 : decode cL_arePlanned 283 = .ok (.lconst 0, 1) := by decide +kernel
theorem dL_arePlanned_284 : decode cL_arePlanned 284 = .ok (.ladd, 1) := by decide +kernel
theorem dL_arePlanned_285 : decode cL_arePlanned 285 = .ok (.lstore 6, 2) := by decide +kernel
theorem dL_arePlanned_287 : decode cL_arePlanned 287 = .ok (.aload_n 0, 1) := by decide +kernel
theorem dL_arePlanned_288 : decode cL_arePlanned 288 = .ok (.iload 10, 2) := by decide +kernel
theorem dL_arePlanned_290 : decode cL_arePlanned 290 = .ok (.bipush 120, 2) := by decide +kernel
theorem dL_arePlanned_292 : decode cL_arePlanned 292 = .ok (.invokevirtual 15, 3) := by decide +kernel
theorem dL_arePlanned_295 : decode cL_arePlanned 295 = .ok (.istore_n 3, 1) := by decide +kernel
theorem dL_arePlanned_296 : decode cL_arePlanned 296 = .ok (.aload_n 0, 1) := by decide +kernel
theorem dL_arePlanned_297 : decode cL_arePlanned 297 = .ok (.iload 10, 2) := by decide +kernel
theorem dL_arePlanned_299 : decode cL_arePlanned 299 = .ok (.bipush 121, 2) := by decide +kernel
theorem dL_arePlanned_301 : decode cL_arePlanned 301 = .ok (.invokevirtual 15, 3) := by decide +kernel
theorem dL_arePlanned_304 : decode cL_arePlanned 304 = .ok (.istore 4, 2) := by decide +kernel
theorem dL_arePlanned_306 : decode cL_arePlanned 306 = .ok (.iinc 10 1, 3) := by decide +kernel
theorem dL_arePlanned_309 : decode cL_arePlanned 309 = .ok (.goto (-289), 3) := by decide +kernel
theorem dL_arePlanned_312 : decode cL_arePlanned 312 = .ok (.iload 9, 2) := by decide +kernel
theorem dL_arePlanned_314 : decode cL_arePlanned 314 = .ok (.ifCond .eq 26, 3) := by decide +kernel
theorem dL_arePlanned_317 : decode cL_arePlanned 317 = .ok (.aload_n 0, 1) := by decide +kernel
theorem dL_arePlanned_318 : decode cL_arePlanned 318 = .ok (.invokevirtual 25, 3) := by decide +kernel
theorem dL_arePlanned_321 : decode cL_arePlanned 321 = .ok (.iload 5, 2) := by decide +kernel
theorem dL_arePlanned_323 : decode cL_arePlanned 323 = .ok (.if_icmp .ne 17, 3) := by decide +kernel
theorem dL_arePlanned_326 : decode cL_arePlanned 326 = .ok (.aload_n 0, 1) := by decide +kernel
theorem dL_arePlanned_327 : decode cL_arePlanned 327 = .ok (.invokevirtual 29, 3) := by decide +kernel
theorem dL_arePlanned_330 : decode cL_arePlanned 330 = .ok (.lload 6, 2) := by decide +kernel
theorem dL_arePlanned_332 : decode cL_arePlanned 332 = .ok (.lcmp, 1) := by decide +kernel
theorem dL_arePlanned_333 : decode cL_arePlanned 333 = .ok (.ifCond .ne 7, 3) := by decide +kernel
theorem dL_arePlanned_336 : decode cL_arePlanned 336 = .ok (.iconst 1, 1) := by decide +kernel
theorem dL_arePlanned_337 : decode cL_arePlanned 337 = .ok (.goto 4, 3) := by decide +kernel
theorem dL_arePlanned_340 : decode cL_arePlanned 340 = .ok (.iconst 0, 1) := by decide +kernel
theorem dL_arePlanned_341 : decode cL_arePlanned 341 = .ok (.ireturn, 1) := by decide +kernel
theorem dL_isLaid_0 : decode cL_isLaid 0 = .ok (.lconst 0, 1) := by decide +kernel
theorem dL_isLaid_1 : decode cL_isLaid 1 = .ok (.lstore_n 2, 1) := by decide +kernel
theorem dL_isLaid_2 : decode cL_isLaid 2 = .ok (.iconst 1, 1) := by decide +kernel
theorem dL_isLaid_3 : decode cL_isLaid 3 = .ok (.istore 4, 2) := by decide +kernel
theorem dL_isLaid_5 : decode cL_isLaid 5 = .ok (.iconst 0, 1) := by decide +kernel
theorem dL_isLaid_6 : decode cL_isLaid 6 = .ok (.istore 5, 2) := by decide +kernel
theorem dL_isLaid_8 : decode cL_isLaid 8 = .ok (.iload 5, 2) := by decide +kernel
theorem dL_isLaid_10 : decode cL_isLaid 10 = .ok (.sipush 1728, 3) := by decide +kernel
theorem dL_isLaid_13 : decode cL_isLaid 13 = .ok (.if_icmp .ge 96, 3) := by decide +kernel
theorem dL_isLaid_16 : decode cL_isLaid 16 = .ok (.iload 4, 2) := by decide +kernel
theorem dL_isLaid_18 : decode cL_isLaid 18 = .ok (.ifCond .eq 91, 3) := by decide +kernel
theorem dL_isLaid_21 : decode cL_isLaid 21 = .ok (.iload 5, 2) := by decide +kernel
theorem dL_isLaid_23 : decode cL_isLaid 23 = .ok (.bipush 12, 2) := by decide +kernel
theorem dL_isLaid_25 : decode cL_isLaid 25 = .ok (.irem, 1) := by decide +kernel
theorem dL_isLaid_26 : decode cL_isLaid 26 = .ok (.istore 6, 2) := by decide +kernel
theorem dL_isLaid_28 : decode cL_isLaid 28 = .ok (.iload 5, 2) := by decide +kernel
theorem dL_isLaid_30 : decode cL_isLaid 30 = .ok (.bipush 12, 2) := by decide +kernel
theorem dL_isLaid_32 : decode cL_isLaid 32 = .ok (.idiv, 1) := by decide +kernel
theorem dL_isLaid_33 : decode cL_isLaid 33 = .ok (.bipush 12, 2) := by decide +kernel
theorem dL_isLaid_35 : decode cL_isLaid 35 = .ok (.irem, 1) := by decide +kernel
theorem dL_isLaid_36 : decode cL_isLaid 36 = .ok (.istore 7, 2) := by decide +kernel
theorem dL_isLaid_38 : decode cL_isLaid 38 = .ok (.iload 5, 2) := by decide +kernel
theorem dL_isLaid_40 : decode cL_isLaid 40 = .ok (.sipush 144, 3) := by decide +kernel
theorem dL_isLaid_43 : decode cL_isLaid 43 = .ok (.idiv, 1) := by decide +kernel
theorem dL_isLaid_44 : decode cL_isLaid 44 = .ok (.istore 8, 2) := by decide +kernel
theorem dL_isLaid_46 : decode cL_isLaid 46 = .ok (.aload_n 0, 1) := by decide +kernel
theorem dL_isLaid_47 : decode cL_isLaid 47 = .ok (.iload 6, 2) := by decide +kernel
theorem dL_isLaid_49 : decode cL_isLaid 49 = .ok (.iload 7, 2) := by decide +kernel
theorem dL_isLaid_51 : decode cL_isLaid 51 = .ok (.iload 8, 2) := by decide +kernel
theorem dL_isLaid_53 : decode cL_isLaid 53 = .ok (.invokevirtual 33, 3) := by decide +kernel
theorem dL_isLaid_56 : decode cL_isLaid 56 = .ok (.invokestatic 37, 3) := by decide +kernel
theorem dL_isLaid_59 : decode cL_isLaid 59 = .ok (.ifCond .eq 13, 3) := by decide +kernel
theorem dL_isLaid_62 : decode cL_isLaid 62 = .ok (.bipush 10, 2) := by decide +kernel
theorem dL_isLaid_64 : decode cL_isLaid 64 = .ok (.aload_n 1, 1) := by decide +kernel
theorem dL_isLaid_65 : decode cL_isLaid 65 = .ok (.iload 8, 2) := by decide +kernel
theorem dL_isLaid_67 : decode cL_isLaid 67 = .ok (.iaload, 1) := by decide +kernel
theorem dL_isLaid_68 : decode cL_isLaid 68 = .ok (.imul, 1) := by decide +kernel
theorem dL_isLaid_69 : decode cL_isLaid 69 = .ok (.goto 4, 3) := by decide +kernel
theorem dL_isLaid_72 : decode cL_isLaid 72 = .ok (.iconst 0, 1) := by decide +kernel
theorem dL_isLaid_73 : decode cL_isLaid 73 = .ok (.istore 9, 2) := by decide +kernel
theorem dL_isLaid_75 : decode cL_isLaid 75 = .ok (.aload_n 0, 1) := by decide +kernel
theorem dL_isLaid_76 : decode cL_isLaid 76 = .ok (.iload 6, 2) := by decide +kernel
theorem dL_isLaid_78 : decode cL_isLaid 78 = .ok (.iload 7, 2) := by decide +kernel
theorem dL_isLaid_80 : decode cL_isLaid 80 = .ok (.iload 8, 2) := by decide +kernel
theorem dL_isLaid_82 : decode cL_isLaid 82 = .ok (.invokevirtual 43, 3) := by decide +kernel
theorem dL_isLaid_85 : decode cL_isLaid 85 = .ok (.iload 9, 2) := by decide +kernel
theorem dL_isLaid_87 : decode cL_isLaid 87 = .ok (.if_icmp .ne 7, 3) := by decide +kernel
theorem dL_isLaid_90 : decode cL_isLaid 90 = .ok (.iconst 1, 1) := by decide +kernel
theorem dL_isLaid_91 : decode cL_isLaid 91 = .ok (.goto 4, 3) := by decide +kernel
theorem dL_isLaid_94 : decode cL_isLaid 94 = .ok (.iconst 0, 1) := by decide +kernel
theorem dL_isLaid_95 : decode cL_isLaid 95 = .ok (.istore 4, 2) := by decide +kernel
theorem dL_isLaid_97 : decode cL_isLaid 97 = .ok (.lload_n 2, 1) := by decide +kernel
theorem dL_isLaid_98 : decode cL_isLaid 98 = .ok (.iload 9, 2) := by decide +kernel
theorem dL_isLaid_100 : decode cL_isLaid 100 = .ok (.i2l, 1) := by decide +kernel
theorem dL_isLaid_101 : decode cL_isLaid 101 = .ok (.ladd, 1) := by decide +kernel
theorem dL_isLaid_102 : decode cL_isLaid 102 = .ok (.lstore_n 2, 1) := by decide +kernel
theorem dL_isLaid_103 : decode cL_isLaid 103 = .ok (.iinc 5 1, 3) := by decide +kernel
theorem dL_isLaid_106 : decode cL_isLaid 106 = .ok (.goto (-98), 3) := by decide +kernel
theorem dL_isLaid_109 : decode cL_isLaid 109 = .ok (.iload 4, 2) := by decide +kernel
theorem dL_isLaid_111 : decode cL_isLaid 111 = .ok (.ifCond .eq 25, 3) := by decide +kernel
theorem dL_isLaid_114 : decode cL_isLaid 114 = .ok (.aload_n 0, 1) := by decide +kernel
theorem dL_isLaid_115 : decode cL_isLaid 115 = .ok (.invokevirtual 47, 3) := by decide +kernel
theorem dL_isLaid_118 : decode cL_isLaid 118 = .ok (.lload_n 2, 1) := by decide +kernel
theorem dL_isLaid_119 : decode cL_isLaid 119 = .ok (.lcmp, 1) := by decide +kernel
theorem dL_isLaid_120 : decode cL_isLaid 120 = .ok (.ifCond .ne 16, 3) := by decide +kernel
theorem dL_isLaid_123 : decode cL_isLaid 123 = .ok (.aload_n 0, 1) := by decide +kernel
theorem dL_isLaid_124 : decode cL_isLaid 124 = .ok (.invokevirtual 29, 3) := by decide +kernel
theorem dL_isLaid_127 : decode cL_isLaid 127 = .ok (.lload_n 2, 1) := by decide +kernel
theorem dL_isLaid_128 : decode cL_isLaid 128 = .ok (.lcmp, 1) := by decide +kernel
theorem dL_isLaid_129 : decode cL_isLaid 129 = .ok (.ifCond .ne 7, 3) := by decide +kernel
theorem dL_isLaid_132 : decode cL_isLaid 132 = .ok (.iconst 1, 1) := by decide +kernel
theorem dL_isLaid_133 : decode cL_isLaid 133 = .ok (.goto 4, 3) := by decide +kernel
theorem dL_isLaid_136 : decode cL_isLaid 136 = .ok (.iconst 0, 1) := by decide +kernel
theorem dL_isLaid_137 : decode cL_isLaid 137 = .ok (.ireturn, 1) := by decide +kernel
theorem dL_isTick_0 : decode cL_isTick 0 = .ok (.aload_n 0, 1) := by decide +kernel
theorem dL_isTick_1 : decode cL_isTick 1 = .ok (.invokevirtual 50, 3) := by decide +kernel
theorem dL_isTick_4 : decode cL_isTick 4 = .ok (.istore_n 1, 1) := by decide +kernel
theorem dL_isTick_5 : decode cL_isTick 5 = .ok (.aload_n 0, 1) := by decide +kernel
theorem dL_isTick_6 : decode cL_isTick 6 = .ok (.invokevirtual 53, 3) := by decide +kernel
theorem dL_isTick_9 : decode cL_isTick 9 = .ok (.istore_n 2, 1) := by decide +kernel
theorem dL_isTick_10 : decode cL_isTick 10 = .ok (.aload_n 0, 1) := by decide +kernel
theorem dL_isTick_11 : decode cL_isTick 11 = .ok (.invokevirtual 56, 3) := by decide +kernel
theorem dL_isTick_14 : decode cL_isTick 14 = .ok (.lstore_n 3, 1) := by decide +kernel
theorem dL_isTick_15 : decode cL_isTick 15 = .ok (.aload_n 0, 1) := by decide +kernel
theorem dL_isTick_16 : decode cL_isTick 16 = .ok (.iconst 1, 1) := by decide +kernel
theorem dL_isTick_17 : decode cL_isTick 17 = .ok (.invokevirtual 59, 3) := by decide +kernel
theorem dL_isTick_20 : decode cL_isTick 20 = .ok (.istore 5, 2) := by decide +kernel
theorem dL_isTick_22 : decode cL_isTick 22 = .ok (.aload_n 0, 1) := by decide +kernel
theorem dL_isTick_23 : decode cL_isTick 23 = .ok (.invokevirtual 56, 3) := by decide +kernel
theorem dL_isTick_26 : decode cL_isTick 26 = .ok (.lload_n 3, 1) := by decide +kernel
theorem dL_isTick_27 : decode cL_isTick 27 = .ok (.lconst 1, 1) := by decide +kernel
theorem dL_isTick_28 : decode cL_isTick 28 = .ok (.ladd, 1) := by decide +kernel
theorem dL_isTick_29 : decode cL_isTick 29 = .ok (.lcmp, 1) := by decide +kernel
theorem dL_isTick_30 : decode cL_isTick 30 = .ok (.ifCond .ne 50, 3) := by decide +kernel
theorem dL_isTick_33 : decode cL_isTick 33 = .ok (.iload 5, 2) := by decide +kernel
theorem dL_isTick_35 : decode cL_isTick 35 = .ok (.aload_n 0, 1) := by decide +kernel
theorem dL_isTick_36 : decode cL_isTick 36 = .ok (.invokevirtual 53, 3) := by decide +kernel
theorem dL_isTick_39 : decode cL_isTick 39 = .ok (.iload_n 2, 1) := by decide +kernel
theorem dL_isTick_40 : decode cL_isTick 40 = .ok (.isub, 1) := by decide +kernel
theorem dL_isTick_41 : decode cL_isTick 41 = .ok (.if_icmp .ne 39, 3) := by decide +kernel
theorem dL_isTick_44 : decode cL_isTick 44 = .ok (.iload 5, 2) := by decide +kernel
theorem dL_isTick_46 : decode cL_isTick 46 = .ok (.iconst 1, 1) := by decide +kernel
theorem dL_isTick_47 : decode cL_isTick 47 = .ok (.if_icmp .gt 33, 3) := by decide +kernel
theorem dL_isTick_50 : decode cL_isTick 50 = .ok (.aload_n 0, 1) := by decide +kernel
theorem dL_isTick_51 : decode cL_isTick 51 = .ok (.invokevirtual 50, 3) := by decide +kernel
theorem dL_isTick_54 : decode cL_isTick 54 = .ok (.ifCond .lt 26, 3) := by decide +kernel
theorem dL_isTick_57 : decode cL_isTick 57 = .ok (.aload_n 0, 1) := by decide +kernel
theorem dL_isTick_58 : decode cL_isTick 58 = .ok (.invokevirtual 50, 3) := by decide +kernel
theorem dL_isTick_61 : decode cL_isTick 61 = .ok (.bipush 8, 2) := by decide +kernel
theorem dL_isTick_63 : decode cL_isTick 63 = .ok (.if_icmp .gt 17, 3) := by decide +kernel
theorem dL_isTick_66 : decode cL_isTick 66 = .ok (.aload_n 0, 1) := by decide +kernel
theorem dL_isTick_67 : decode cL_isTick 67 = .ok (.invokevirtual 50, 3) := by decide +kernel
theorem dL_isTick_70 : decode cL_isTick 70 = .ok (.iload_n 1, 1) := by decide +kernel
theorem dL_isTick_71 : decode cL_isTick 71 = .ok (.iconst 1, 1) := by decide +kernel
theorem dL_isTick_72 : decode cL_isTick 72 = .ok (.iadd, 1) := by decide +kernel
theorem dL_isTick_73 : decode cL_isTick 73 = .ok (.if_icmp .gt 7, 3) := by decide +kernel
theorem dL_isTick_76 : decode cL_isTick 76 = .ok (.iconst 1, 1) := by decide +kernel
theorem dL_isTick_77 : decode cL_isTick 77 = .ok (.goto 4, 3) := by decide +kernel
theorem dL_isTick_80 : decode cL_isTick 80 = .ok (.iconst 0, 1) := by decide +kernel
theorem dL_isTick_81 : decode cL_isTick 81 = .ok (.istore 6, 2) := by decide +kernel
theorem dL_isTick_83 : decode cL_isTick 83 = .ok (.iload 6, 2) := by decide +kernel
theorem dL_isTick_85 : decode cL_isTick 85 = .ok (.ifCond .eq 42, 3) := by decide +kernel
theorem dL_isTick_88 : decode cL_isTick 88 = .ok (.aload_n 0, 1) := by decide +kernel
theorem dL_isTick_89 : decode cL_isTick 89 = .ok (.invokevirtual 62, 3) := by decide +kernel
theorem dL_isTick_92 : decode cL_isTick 92 = .ok (.bipush 20, 2) := by decide +kernel
theorem dL_isTick_94 : decode cL_isTick 94 = .ok (.if_icmp .lt 33, 3) := by decide +kernel
theorem dL_isTick_97 : decode cL_isTick 97 = .ok (.aload_n 0, 1) := by decide +kernel
theorem dL_isTick_98 : decode cL_isTick 98 = .ok (.invokevirtual 62, 3) := by decide +kernel
theorem dL_isTick_101 : decode cL_isTick 101 = .ok (.sipush 210, 3) := by decide +kernel
theorem dL_isTick_104 : decode cL_isTick 104 = .ok (.if_icmp .gt 23, 3) := by decide +kernel
theorem dL_isTick_107 : decode cL_isTick 107 = .ok (.aload_n 0, 1) := by decide +kernel
theorem dL_isTick_108 : decode cL_isTick 108 = .ok (.invokevirtual 65, 3) := by decide +kernel
theorem dL_isTick_111 : decode cL_isTick 111 = .ok (.bipush 119, 2) := by decide +kernel
theorem dL_isTick_113 : decode cL_isTick 113 = .ok (.if_icmp .ne 10, 3) := by decide +kernel
theorem dL_isTick_116 : decode cL_isTick 116 = .ok (.aload_n 0, 1) := by decide +kernel
theorem dL_isTick_117 : decode cL_isTick 117 = .ok (.invokevirtual 50, 3) := by decide +kernel
theorem dL_isTick_120 : decode cL_isTick 120 = .ok (.ifCond .ne 7, 3) := by decide +kernel
theorem dL_isTick_123 : decode cL_isTick 123 = .ok (.iconst 1, 1) := by decide +kernel
theorem dL_isTick_124 : decode cL_isTick 124 = .ok (.goto 4, 3) := by decide +kernel
theorem dL_isTick_127 : decode cL_isTick 127 = .ok (.iconst 0, 1) := by decide +kernel
theorem dL_isTick_128 : decode cL_isTick 128 = .ok (.ireturn, 1) := by decide +kernel
theorem dL_prints_0 : decode cL_prints 0 = .ok (.aload_n 0, 1) := by decide +kernel
theorem dL_prints_1 : decode cL_prints 1 = .ok (.sipush 200, 3) := by decide +kernel
theorem dL_prints_4 : decode cL_prints 4 = .ok (.invokevirtual 69, 3) := by decide +kernel
theorem dL_prints_7 : decode cL_prints 7 = .ok (.istore_n 3, 1) := by decide +kernel
theorem dL_prints_8 : decode cL_prints 8 = .ok (.iload_n 3, 1) := by decide +kernel
theorem dL_prints_9 : decode cL_prints 9 = .ok (.ifCond .ne 15, 3) := by decide +kernel
theorem dL_prints_12 : decode cL_prints 12 = .ok (.aload_n 0, 1) := by decide +kernel
theorem dL_prints_13 : decode cL_prints 13 = .ok (.invokevirtual 72, 3) := by decide +kernel
theorem dL_prints_16 : decode cL_prints 16 = .ok (.iload_n 2, 1) := by decide +kernel
theorem dL_prints_17 : decode cL_prints 17 = .ok (.if_icmp .ne 7, 3) := by decide +kernel
theorem dL_prints_20 : decode cL_prints 20 = .ok (.iconst 1, 1) := by decide +kernel
theorem dL_prints_21 : decode cL_prints 21 = .ok (.goto 4, 3) := by decide +kernel
theorem dL_prints_24 : decode cL_prints 24 = .ok (.iconst 0, 1) := by decide +kernel
theorem dL_prints_25 : decode cL_prints 25 = .ok (.istore 4, 2) := by decide +kernel
theorem dL_prints_27 : decode cL_prints 27 = .ok (.iconst 0, 1) := by decide +kernel
theorem dL_prints_28 : decode cL_prints 28 = .ok (.istore 5, 2) := by decide +kernel
theorem dL_prints_30 : decode cL_prints 30 = .ok (.iload 5, 2) := by decide +kernel
theorem dL_prints_32 : decode cL_prints 32 = .ok (.bipush 60, 2) := by decide +kernel
theorem dL_prints_34 : decode cL_prints 34 = .ok (.if_icmp .ge 63, 3) := by decide +kernel
theorem dL_prints_37 : decode cL_prints 37 = .ok (.iload 4, 2) := by decide +kernel
theorem dL_prints_39 : decode cL_prints 39 = .ok (.ifCond .eq 58, 3) := by decide +kernel
theorem dL_prints_42 : decode cL_prints 42 = .ok (.aload_n 0, 1) := by decide +kernel
theorem dL_prints_43 : decode cL_prints 43 = .ok (.invokevirtual 65, 3) := by decide +kernel
theorem dL_prints_46 : decode cL_prints 46 = .ok (.bipush 100, 2) := by decide +kernel
theorem dL_prints_48 : decode cL_prints 48 = .ok (.if_icmp .eq 49, 3) := by decide +kernel
theorem dL_prints_51 : decode cL_prints 51 = .ok (.aload_n 0, 1) := by decide +kernel
theorem dL_prints_52 : decode cL_prints 52 = .ok (.invokestatic 75, 3) := by decide +kernel
theorem dL_prints_55 : decode cL_prints 55 = .ok (.istore 4, 2) := by decide +kernel
theorem dL_prints_57 : decode cL_prints 57 = .ok (.aload_n 0, 1) := by decide +kernel
theorem dL_prints_58 : decode cL_prints 58 = .ok (.invokevirtual 65, 3) := by decide +kernel
theorem dL_prints_61 : decode cL_prints 61 = .ok (.bipush 112, 2) := by decide +kernel
theorem dL_prints_63 : decode cL_prints 63 = .ok (.if_icmp .ne 28, 3) := by decide +kernel
theorem dL_prints_66 : decode cL_prints 66 = .ok (.iload 4, 2) := by decide +kernel
theorem dL_prints_68 : decode cL_prints 68 = .ok (.ifCond .eq 20, 3) := by decide +kernel
theorem dL_prints_71 : decode cL_prints 71 = .ok (.aload_n 0, 1) := by decide +kernel
theorem dL_prints_72 : decode cL_prints 72 = .ok (.invokevirtual 79, 3) := by decide +kernel
theorem dL_prints_75 : decode cL_prints 75 = .ok (.iload_n 2, 1) := by decide +kernel
theorem dL_prints_76 : decode cL_prints 76 = .ok (.aload_n 0, 1) := by decide +kernel
theorem dL_prints_77 : decode cL_prints 77 = .ok (.invokevirtual 53, 3) := by decide +kernel
theorem dL_prints_80 : decode cL_prints 80 = .ok (.isub, 1) := by decide +kernel
theorem dL_prints_81 : decode cL_prints 81 = .ok (.if_icmp .ne 7, 3) := by decide +kernel
theorem dL_prints_84 : decode cL_prints 84 = .ok (.iconst 1, 1) := by decide +kernel
theorem dL_prints_85 : decode cL_prints 85 = .ok (.goto 4, 3) := by decide +kernel
theorem dL_prints_88 : decode cL_prints 88 = .ok (.iconst 0, 1) := by decide +kernel
theorem dL_prints_89 : decode cL_prints 89 = .ok (.istore 4, 2) := by decide +kernel
theorem dL_prints_91 : decode cL_prints 91 = .ok (.iinc 5 1, 3) := by decide +kernel
theorem dL_prints_94 : decode cL_prints 94 = .ok (.goto (-64), 3) := by decide +kernel
theorem dL_prints_97 : decode cL_prints 97 = .ok (.iload 4, 2) := by decide +kernel
theorem dL_prints_99 : decode cL_prints 99 = .ok (.ifCond .eq 83, 3) := by decide +kernel
theorem dL_prints_102 : decode cL_prints 102 = .ok (.aload_n 0, 1) := by decide +kernel
theorem dL_prints_103 : decode cL_prints 103 = .ok (.invokevirtual 65, 3) := by decide +kernel
theorem dL_prints_106 : decode cL_prints 106 = .ok (.bipush 100, 2) := by decide +kernel
theorem dL_prints_108 : decode cL_prints 108 = .ok (.if_icmp .eq 74, 3) := by decide +kernel
theorem dL_prints_111 : decode cL_prints 111 = .ok (.aload_n 1, 1) := by decide +kernel
theorem dL_prints_112 : decode cL_prints 112 = .ok (.bipush 30, 2) := by decide +kernel
theorem dL_prints_114 : decode cL_prints 114 = .ok (.invokestatic 82, 3) := by decide +kernel
theorem dL_prints_117 : decode cL_prints 117 = .ok (.iconst 2, 1) := by decide +kernel
theorem dL_prints_118 : decode cL_prints 118 = .ok (.invokestatic 86, 3) := by decide +kernel
theorem dL_prints_121 : decode cL_prints 121 = .ok (.ifCond .ne 61, 3) := by decide +kernel
theorem dL_prints_124 : decode cL_prints 124 = .ok (.aload_n 0, 1) := by decide +kernel
theorem dL_prints_125 : decode cL_prints 125 = .ok (.invokevirtual 90, 3) := by decide +kernel
theorem dL_prints_128 : decode cL_prints 128 = .ok (.istore 5, 2) := by decide +kernel
theorem dL_prints_130 : decode cL_prints 130 = .ok (.aload_n 0, 1) := by decide +kernel
theorem dL_prints_131 : decode cL_prints 131 = .ok (.iconst 3, 1) := by decide +kernel
theorem dL_prints_132 : decode cL_prints 132 = .ok (.invokevirtual 59, 3) := by decide +kernel
theorem dL_prints_135 : decode cL_prints 135 = .ok (.ifCond .ne 44, 3) := by decide +kernel
theorem dL_prints_138 : decode cL_prints 138 = .ok (.aload_n 0, 1) := by decide +kernel
theorem dL_prints_139 : decode cL_prints 139 = .ok (.invokevirtual 65, 3) := by decide +kernel
theorem dL_prints_142 : decode cL_prints 142 = .ok (.bipush 102, 2) := by decide +kernel
theorem dL_prints_144 : decode cL_prints 144 = .ok (.if_icmp .ne 35, 3) := by decide +kernel
theorem dL_prints_147 : decode cL_prints 147 = .ok (.aload_n 0, 1) := by decide +kernel
theorem dL_prints_148 : decode cL_prints 148 = .ok (.invokevirtual 93, 3) := by decide +kernel
theorem dL_prints_151 : decode cL_prints 151 = .ok (.iload 5, 2) := by decide +kernel
theorem dL_prints_153 : decode cL_prints 153 = .ok (.if_icmp .ne 26, 3) := by decide +kernel
theorem dL_prints_156 : decode cL_prints 156 = .ok (.aload_n 0, 1) := by decide +kernel
theorem dL_prints_157 : decode cL_prints 157 = .ok (.invokevirtual 65, 3) := by decide +kernel
theorem dL_prints_160 : decode cL_prints 160 = .ok (.iload 5, 2) := by decide +kernel
theorem dL_prints_162 : decode cL_prints 162 = .ok (.if_icmp .ne 17, 3) := by decide +kernel
theorem dL_prints_165 : decode cL_prints 165 = .ok (.aload_n 0, 1) := by decide +kernel
theorem dL_prints_166 : decode cL_prints 166 = .ok (.sipush 200, 3) := by decide +kernel
theorem dL_prints_169 : decode cL_prints 169 = .ok (.invokevirtual 69, 3) := by decide +kernel
theorem dL_prints_172 : decode cL_prints 172 = .ok (.ifCond .ne 7, 3) := by decide +kernel
theorem dL_prints_175 : decode cL_prints 175 = .ok (.iconst 1, 1) := by decide +kernel
theorem dL_prints_176 : decode cL_prints 176 = .ok (.goto 4, 3) := by decide +kernel
theorem dL_prints_179 : decode cL_prints 179 = .ok (.iconst 0, 1) := by decide +kernel
theorem dL_prints_180 : decode cL_prints 180 = .ok (.istore 4, 2) := by decide +kernel
theorem dL_prints_182 : decode cL_prints 182 = .ok (.iconst 0, 1) := by decide +kernel
theorem dL_prints_183 : decode cL_prints 183 = .ok (.istore 5, 2) := by decide +kernel
theorem dL_prints_185 : decode cL_prints 185 = .ok (.iload 5, 2) := by decide +kernel
theorem dL_prints_187 : decode cL_prints 187 = .ok (.sipush 400, 3) := by decide +kernel
theorem dL_prints_190 : decode cL_prints 190 = .ok (.if_icmp .ge 87, 3) := by decide +kernel
theorem dL_prints_193 : decode cL_prints 193 = .ok (.iload 4, 2) := by decide +kernel
theorem dL_prints_195 : decode cL_prints 195 = .ok (.ifCond .eq 82, 3) := by decide +kernel
theorem dL_prints_198 : decode cL_prints 198 = .ok (.aload_n 0, 1) := by decide +kernel
theorem dL_prints_199 : decode cL_prints 199 = .ok (.invokevirtual 65, 3) := by decide +kernel
theorem dL_prints_202 : decode cL_prints 202 = .ok (.bipush 100, 2) := by decide +kernel
theorem dL_prints_204 : decode cL_prints 204 = .ok (.if_icmp .eq 73, 3) := by decide +kernel
theorem dL_prints_207 : decode cL_prints 207 = .ok (.aload_n 0, 1) := by decide +kernel
theorem dL_prints_208 : decode cL_prints 208 = .ok (.invokevirtual 53, 3) := by decide +kernel
theorem dL_prints_211 : decode cL_prints 211 = .ok (.istore 6, 2) := by decide +kernel
theorem dL_prints_213 : decode cL_prints 213 = .ok (.aload_n 0, 1) := by decide +kernel
theorem dL_prints_214 : decode cL_prints 214 = .ok (.sipush 200, 3) := by decide +kernel
theorem dL_prints_217 : decode cL_prints 217 = .ok (.invokevirtual 59, 3) := by decide +kernel
theorem dL_prints_220 : decode cL_prints 220 = .ok (.aload_n 0, 1) := by decide +kernel
theorem dL_prints_221 : decode cL_prints 221 = .ok (.invokevirtual 53, 3) := by decide +kernel
theorem dL_prints_224 : decode cL_prints 224 = .ok (.iload 6, 2) := by decide +kernel
theorem dL_prints_226 : decode cL_prints 226 = .ok (.isub, 1) := by decide +kernel
theorem dL_prints_227 : decode cL_prints 227 = .ok (.if_icmp .ne 7, 3) := by decide +kernel
theorem dL_prints_230 : decode cL_prints 230 = .ok (.iconst 1, 1) := by decide +kernel
theorem dL_prints_231 : decode cL_prints 231 = .ok (.goto 4, 3) := by decide +kernel
theorem dL_prints_234 : decode cL_prints 234 = .ok (.iconst 0, 1) := by decide +kernel
theorem dL_prints_235 : decode cL_prints 235 = .ok (.istore 4, 2) := by decide +kernel
theorem dL_prints_237 : decode cL_prints 237 = .ok (.aload_n 0, 1) := by decide +kernel
theorem dL_prints_238 : decode cL_prints 238 = .ok (.invokevirtual 65, 3) := by decide +kernel
theorem dL_prints_241 : decode cL_prints 241 = .ok (.bipush 112, 2) := by decide +kernel
theorem dL_prints_243 : decode cL_prints 243 = .ok (.if_icmp .ne 28, 3) := by decide +kernel
theorem dL_prints_246 : decode cL_prints 246 = .ok (.iload 4, 2) := by decide +kernel
theorem dL_prints_248 : decode cL_prints 248 = .ok (.ifCond .eq 20, 3) := by decide +kernel
theorem dL_prints_251 : decode cL_prints 251 = .ok (.aload_n 0, 1) := by decide +kernel
theorem dL_prints_252 : decode cL_prints 252 = .ok (.invokevirtual 79, 3) := by decide +kernel
theorem dL_prints_255 : decode cL_prints 255 = .ok (.iload_n 2, 1) := by decide +kernel
theorem dL_prints_256 : decode cL_prints 256 = .ok (.aload_n 0, 1) := by decide +kernel
theorem dL_prints_257 : decode cL_prints 257 = .ok (.invokevirtual 53, 3) := by decide +kernel
theorem dL_prints_260 : decode cL_prints 260 = .ok (.isub, 1) := by decide +kernel
theorem dL_prints_261 : decode cL_prints 261 = .ok (.if_icmp .ne 7, 3) := by decide +kernel
theorem dL_prints_264 : decode cL_prints 264 = .ok (.iconst 1, 1) := by decide +kernel
theorem dL_prints_265 : decode cL_prints 265 = .ok (.goto 4, 3) := by decide +kernel
theorem dL_prints_268 : decode cL_prints 268 = .ok (.iconst 0, 1) := by decide +kernel
theorem dL_prints_269 : decode cL_prints 269 = .ok (.istore 4, 2) := by decide +kernel
theorem dL_prints_271 : decode cL_prints 271 = .ok (.iinc 5 1, 3) := by decide +kernel
theorem dL_prints_274 : decode cL_prints 274 = .ok (.goto (-89), 3) := by decide +kernel
theorem dL_prints_277 : decode cL_prints 277 = .ok (.iload 4, 2) := by decide +kernel
theorem dL_prints_279 : decode cL_prints 279 = .ok (.ifCond .eq 31, 3) := by decide +kernel
theorem dL_prints_282 : decode cL_prints 282 = .ok (.aload_n 0, 1) := by decide +kernel
theorem dL_prints_283 : decode cL_prints 283 = .ok (.invokevirtual 65, 3) := by decide +kernel
theorem dL_prints_286 : decode cL_prints 286 = .ok (.bipush 100, 2) := by decide +kernel
theorem dL_prints_288 : decode cL_prints 288 = .ok (.if_icmp .ne 22, 3) := by decide +kernel
theorem dL_prints_291 : decode cL_prints 291 = .ok (.aload_n 0, 1) := by decide +kernel
theorem dL_prints_292 : decode cL_prints 292 = .ok (.invokevirtual 53, 3) := by decide +kernel
theorem dL_prints_295 : decode cL_prints 295 = .ok (.iload_n 2, 1) := by decide +kernel
theorem dL_prints_296 : decode cL_prints 296 = .ok (.if_icmp .ne 14, 3) := by decide +kernel
theorem dL_prints_299 : decode cL_prints 299 = .ok (.aload_n 0, 1) := by decide +kernel
theorem dL_prints_300 : decode cL_prints 300 = .ok (.invokevirtual 50, 3) := by decide +kernel
theorem dL_prints_303 : decode cL_prints 303 = .ok (.ifCond .ne 7, 3) := by decide +kernel
theorem dL_prints_306 : decode cL_prints 306 = .ok (.iconst 1, 1) := by decide +kernel
theorem dL_prints_307 : decode cL_prints 307 = .ok (.goto 4, 3) := by decide +kernel
theorem dL_prints_310 : decode cL_prints 310 = .ok (.iconst 0, 1) := by decide +kernel
theorem dL_prints_311 : decode cL_prints 311 = .ok (.ireturn, 1) := by decide +kernel
theorem dL_law_0 : decode cL_law 0 = .ok (.new 10, 3) := by decide +kernel
theorem dL_law_3 : decode cL_law 3 = .ok (.dup, 1) := by decide +kernel
theorem dL_law_4 : decode cL_law 4 = .ok (.invokespecial 96, 3) := by decide +kernel
theorem dL_law_7 : decode cL_law 7 = .ok (.astore_n 1, 1) := by decide +kernel
theorem dL_law_8 : decode cL_law 8 = .ok (.bipush 12, 2) := by decide +kernel
theorem dL_law_10 : decode cL_law 10 = .ok (.newarray .int, 2) := by decide +kernel
theorem dL_law_12 : decode cL_law 12 = .ok (.astore_n 2, 1) := by decide +kernel
theorem dL_law_13 : decode cL_law 13 = .ok (.iconst 0, 1) := by decide +kernel
theorem dL_law_14 : decode cL_law 14 = .ok (.istore_n 3, 1) := by decide +kernel
theorem dL_law_15 : decode cL_law 15 = .ok (.iconst 0, 1) := by decide +kernel
theorem dL_law_16 : decode cL_law 16 = .ok (.istore 4, 2) := by decide +kernel
theorem dL_law_18 : decode cL_law 18 = .ok (.iload 4, 2) := by decide +kernel
theorem dL_law_20 : decode cL_law 20 = .ok (.iconst 4, 1) := by decide +kernel
theorem dL_law_21 : decode cL_law 21 = .ok (.if_icmp .ge 146, 3) := by decide +kernel
theorem dL_law_24 : decode cL_law 24 = .ok (.aload_n 0, 1) := by decide +kernel
theorem dL_law_25 : decode cL_law 25 = .ok (.iload 4, 2) := by decide +kernel
theorem dL_law_27 : decode cL_law 27 = .ok (.invokestatic 82, 3) := by decide +kernel
theorem dL_law_30 : decode cL_law 30 = .ok (.istore 5, 2) := by decide +kernel
theorem dL_law_32 : decode cL_law 32 = .ok (.iload 5, 2) := by decide +kernel
theorem dL_law_34 : decode cL_law 34 = .ok (.bipush 9, 2) := by decide +kernel
theorem dL_law_36 : decode cL_law 36 = .ok (.invokestatic 86, 3) := by decide +kernel
theorem dL_law_39 : decode cL_law 39 = .ok (.istore 6, 2) := by decide +kernel
theorem dL_law_41 : decode cL_law 41 = .ok (.iload 5, 2) := by decide +kernel
theorem dL_law_43 : decode cL_law 43 = .ok (.iconst 4, 1) := by decide +kernel
theorem dL_law_44 : decode cL_law 44 = .ok (.ishr, 1) := by decide +kernel
theorem dL_law_45 : decode cL_law 45 = .ok (.bipush 9, 2) := by decide +kernel
theorem dL_law_47 : decode cL_law 47 = .ok (.invokestatic 86, 3) := by decide +kernel
theorem dL_law_50 : decode cL_law 50 = .ok (.istore 7, 2) := by decide +kernel
theorem dL_law_52 : decode cL_law 52 = .ok (.iload_n 3, 1) := by decide +kernel
theorem dL_law_53 : decode cL_law 53 = .ok (.aload_n 1, 1) := by decide +kernel
theorem dL_law_54 : decode cL_law 54 = .ok (.iload 6, 2) := by decide +kernel
theorem dL_law_56 : decode cL_law 56 = .ok (.iload 7, 2) := by decide +kernel
theorem dL_law_58 : decode cL_law 58 = .ok (.iload 5, 2) := by decide +kernel
theorem dL_law_60 : decode cL_law 60 = .ok (.bipush 8, 2) := by decide +kernel
theorem dL_law_62 : decode cL_law 62 = .ok (.ishr, 1) := by decide +kernel
theorem dL_law_63 : decode cL_law 63 = .ok (.iconst 4, 1) := by decide +kernel
theorem dL_law_64 : decode cL_law 64 = .ok (.invokestatic 86, 3) := by decide +kernel
theorem dL_law_67 : decode cL_law 67 = .ok (.iconst 1, 1) := by decide +kernel
theorem dL_law_68 : decode cL_law 68 = .ok (.iload 5, 2) := by decide +kernel
theorem dL_law_70 : decode cL_law 70 = .ok (.bipush 12, 2) := by decide +kernel
theorem dL_law_72 : decode cL_law 72 = .ok (.ishr, 1) := by decide +kernel
theorem dL_law_73 : decode cL_law 73 = .ok (.bipush 12, 2) := by decide +kernel
theorem dL_law_75 : decode cL_law 75 = .ok (.iload 6, 2) := by decide +kernel
theorem dL_law_77 : decode cL_law 77 = .ok (.isub, 1) := by decide +kernel
theorem dL_law_78 : decode cL_law 78 = .ok (.iconst 5, 1) := by decide +kernel
theorem dL_law_79 : decode cL_law 79 = .ok (.if_icmp .le 7, 3) := by decide +kernel
theorem dL_law_82 : decode cL_law 82 = .ok (.iconst 5, 1) := by decide +kernel
theorem dL_law_83 : decode cL_law 83 = .ok (.goto 8, 3) := by decide +kernel
theorem dL_law_86 : decode cL_law 86 = .ok (.bipush 12, 2) := by decide +kernel
theorem dL_law_88 : decode cL_law 88 = .ok (.iload 6, 2) := by decide +kernel
theorem dL_law_90 : decode cL_law 90 = .ok (.isub, 1) := by decide +kernel
theorem dL_law_91 : decode cL_law 91 = .ok (.invokestatic 86, 3) := by decide +kernel
theorem dL_law_94 : decode cL_law 94 = .ok (.iadd, 1) := by decide +kernel
theorem dL_law_95 : decode cL_law 95 = .ok (.iconst 1, 1) := by decide +kernel
theorem dL_law_96 : decode cL_law 96 = .ok (.iload 5, 2) := by decide +kernel
theorem dL_law_98 : decode cL_law 98 = .ok (.bipush 16, 2) := by decide +kernel
theorem dL_law_100 : decode cL_law 100 = .ok (.ishr, 1) := by decide +kernel
theorem dL_law_101 : decode cL_law 101 = .ok (.bipush 12, 2) := by decide +kernel
theorem dL_law_103 : decode cL_law 103 = .ok (.iload 7, 2) := by decide +kernel
theorem dL_law_105 : decode cL_law 105 = .ok (.isub, 1) := by decide +kernel
theorem dL_law_106 : decode cL_law 106 = .ok (.iconst 5, 1) := by decide +kernel
theorem dL_law_107 : decode cL_law 107 = .ok (.if_icmp .le 7, 3) := by decide +kernel
theorem dL_law_110 : decode cL_law 110 = .ok (.iconst 5, 1) := by decide +kernel
theorem dL_law_111 : decode cL_law 111 = .ok (.goto 8, 3) := by decide +kernel
theorem dL_law_114 : decode cL_law 114 = .ok (.bipush 12, 2) := by decide +kernel
theorem dL_law_116 : decode cL_law 116 = .ok (.iload 7, 2) := by decide +kernel
theorem dL_law_118 : decode cL_law 118 = .ok (.isub, 1) := by decide +kernel
theorem dL_law_119 : decode cL_law 119 = .ok (.invokestatic 86, 3) := by decide +kernel
theorem dL_law_122 : decode cL_law 122 = .ok (.iadd, 1) := by decide +kernel
theorem dL_law_123 : decode cL_law 123 = .ok (.iconst 1, 1) := by decide +kernel
theorem dL_law_124 : decode cL_law 124 = .ok (.iload 5, 2) := by decide +kernel
theorem dL_law_126 : decode cL_law 126 = .ok (.bipush 20, 2) := by decide +kernel
theorem dL_law_128 : decode cL_law 128 = .ok (.ishr, 1) := by decide +kernel
theorem dL_law_129 : decode cL_law 129 = .ok (.iconst 3, 1) := by decide +kernel
theorem dL_law_130 : decode cL_law 130 = .ok (.invokestatic 86, 3) := by decide +kernel
theorem dL_law_133 : decode cL_law 133 = .ok (.iadd, 1) := by decide +kernel
theorem dL_law_134 : decode cL_law 134 = .ok (.iload 4, 2) := by decide +kernel
theorem dL_law_136 : decode cL_law 136 = .ok (.ifCond .eq 15, 3) := by decide +kernel
theorem dL_law_139 : decode cL_law 139 = .ok (.iload 5, 2) := by decide +kernel
theorem dL_law_141 : decode cL_law 141 = .ok (.bipush 24, 2) := by decide +kernel
theorem dL_law_143 : decode cL_law 143 = .ok (.ishr, 1) := by decide +kernel
theorem dL_law_144 : decode cL_law 144 = .ok (.iconst 4, 1) := by decide +kernel
theorem dL_law_145 : decode cL_law 145 = .ok (.invokestatic 86, 3) := by decide +kernel
theorem dL_law_148 : decode cL_law 148 = .ok (.ifCond .le 7, 3) := by decide +kernel
theorem dL_law_151 : decode cL_law 151 = .ok (.iconst 1, 1) := by decide +kernel
theorem dL_law_152 : decode cL_law 152 = .ok (.goto 4, 3) := by decide +kernel
theorem dL_law_155 : decode cL_law 155 = .ok (.iconst 0, 1) := by decide +kernel
theorem dL_law_156 : decode cL_law 156 = .ok (.invokevirtual 97, 3) := by decide +kernel
theorem dL_law_159 : decode cL_law 159 = .ok (.iadd, 1) := by decide +kernel
theorem dL_law_160 : decode cL_law 160 = .ok (.istore_n 3, 1) := by decide +kernel
theorem dL_law_161 : decode cL_law 161 = .ok (.iinc 4 1, 3) := by decide +kernel
theorem dL_law_164 : decode cL_law 164 = .ok (.goto (-146), 3) := by decide +kernel
theorem dL_law_167 : decode cL_law 167 = .ok (.iconst 0, 1) := by decide +kernel
theorem dL_law_168 : decode cL_law 168 = .ok (.istore 4, 2) := by decide +kernel
theorem dL_law_170 : decode cL_law 170 = .ok (.iload 4, 2) := by decide +kernel
theorem dL_law_172 : decode cL_law 172 = .ok (.bipush 12, 2) := by decide +kernel
theorem dL_law_174 : decode cL_law 174 = .ok (.if_icmp .ge 90, 3) := by decide +kernel
theorem dL_law_177 : decode cL_law 177 = .ok (.aload_n 2, 1) := by decide +kernel
theorem dL_law_178 : decode cL_law 178 = .ok (.iload 4, 2) := by decide +kernel
theorem dL_law_180 : decode cL_law 180 = .ok (.iconst 1, 1) := by decide +kernel
theorem dL_law_181 : decode cL_law 181 = .ok (.aload_n 0, 1) := by decide +kernel
theorem dL_law_182 : decode cL_law 182 = .ok (.iconst 4, 1) := by decide +kernel
theorem dL_law_183 : decode cL_law 183 = .ok (.iload 4, 2) := by decide +kernel
theorem dL_law_185 : decode cL_law 185 = .ok (.iadd, 1) := by decide +kernel
theorem dL_law_186 : decode cL_law 186 = .ok (.invokestatic 82, 3) := by decide +kernel
theorem dL_law_189 : decode cL_law 189 = .ok (.iconst 3, 1) := by decide +kernel
theorem dL_law_190 : decode cL_law 190 = .ok (.invokestatic 86, 3) := by decide +kernel
theorem dL_law_193 : decode cL_law 193 = .ok (.iadd, 1) := by decide +kernel
theorem dL_law_194 : decode cL_law 194 = .ok (.iastore, 1) := by decide +kernel
theorem dL_law_195 : decode cL_law 195 = .ok (.aload_n 1, 1) := by decide +kernel
theorem dL_law_196 : decode cL_law 196 = .ok (.iload 4, 2) := by decide +kernel
theorem dL_law_198 : decode cL_law 198 = .ok (.aload_n 2, 1) := by decide +kernel
theorem dL_law_199 : decode cL_law 199 = .ok (.iload 4, 2) := by decide +kernel
theorem dL_law_201 : decode cL_law 201 = .ok (.iaload, 1) := by decide +kernel
theorem dL_law_202 : decode cL_law 202 = .ok (.invokevirtual 101, 3) := by decide +kernel
theorem dL_law_205 : decode cL_law 205 = .ok (.istore 5, 2) := by decide +kernel
theorem dL_law_207 : decode cL_law 207 = .ok (.aload_n 1, 1) := by decide +kernel
theorem dL_law_208 : decode cL_law 208 = .ok (.iload 4, 2) := by decide +kernel
theorem dL_law_210 : decode cL_law 210 = .ok (.aload_n 0, 1) := by decide +kernel
theorem dL_law_211 : decode cL_law 211 = .ok (.iconst 4, 1) := by decide +kernel
theorem dL_law_212 : decode cL_law 212 = .ok (.iload 4, 2) := by decide +kernel
theorem dL_law_214 : decode cL_law 214 = .ok (.iadd, 1) := by decide +kernel
theorem dL_law_215 : decode cL_law 215 = .ok (.invokestatic 82, 3) := by decide +kernel
theorem dL_law_218 : decode cL_law 218 = .ok (.iconst 3, 1) := by decide +kernel
theorem dL_law_219 : decode cL_law 219 = .ok (.ishr, 1) := by decide +kernel
theorem dL_law_220 : decode cL_law 220 = .ok (.iconst 5, 1) := by decide +kernel
theorem dL_law_221 : decode cL_law 221 = .ok (.invokestatic 86, 3) := by decide +kernel
theorem dL_law_224 : decode cL_law 224 = .ok (.ifCond .ne 7, 3) := by decide +kernel
theorem dL_law_227 : decode cL_law 227 = .ok (.iconst 1, 1) := by decide +kernel
theorem dL_law_228 : decode cL_law 228 = .ok (.goto 4, 3) := by decide +kernel
theorem dL_law_231 : decode cL_law 231 = .ok (.iconst 0, 1) := by decide +kernel
theorem dL_law_232 : decode cL_law 232 = .ok (.invokevirtual 104, 3) := by decide +kernel
theorem dL_law_235 : decode cL_law 235 = .ok (.istore 6, 2) := by decide +kernel
theorem dL_law_237 : decode cL_law 237 = .ok (.iload_n 3, 1) := by decide +kernel
theorem dL_law_238 : decode cL_law 238 = .ok (.iload 5, 2) := by decide +kernel
theorem dL_law_240 : decode cL_law 240 = .ok (.iconst 1, 1) := by decide +kernel
theorem dL_law_241 : decode cL_law 241 = .ok (.if_icmp .ne 12, 3) := by decide +kernel
theorem dL_law_244 : decode cL_law 244 = .ok (.iload 6, 2) := by decide +kernel
theorem dL_law_246 : decode cL_law 246 = .ok (.ifCond .ne 7, 3) := by decide +kernel
theorem dL_law_249 : decode cL_law 249 = .ok (.iconst 0, 1) := by decide +kernel
theorem dL_law_250 : decode cL_law 250 = .ok (.goto 6, 3) := by decide +kernel
theorem dL_law_253 : decode cL_law 253 = .ok (.sipush 9000, 3) := by decide +kernel
theorem dL_law_256 : decode cL_law 256 = .ok (.iadd, 1) := by decide +kernel
theorem dL_law_257 : decode cL_law 257 = .ok (.istore_n 3, 1) := by decide +kernel
theorem dL_law_258 : decode cL_law 258 = .ok (.iinc 4 1, 3) := by decide +kernel
theorem dL_law_261 : decode cL_law 261 = .ok (.goto (-91), 3) := by decide +kernel
theorem dL_law_264 : decode cL_law 264 = .ok (.aload_n 0, 1) := by decide +kernel
theorem dL_law_265 : decode cL_law 265 = .ok (.bipush 16, 2) := by decide +kernel
theorem dL_law_267 : decode cL_law 267 = .ok (.invokestatic 82, 3) := by decide +kernel
theorem dL_law_270 : decode cL_law 270 = .ok (.istore 4, 2) := by decide +kernel
theorem dL_law_272 : decode cL_law 272 = .ok (.iload 4, 2) := by decide +kernel
theorem dL_law_274 : decode cL_law 274 = .ok (.bipush 23, 2) := by decide +kernel
theorem dL_law_276 : decode cL_law 276 = .ok (.invokestatic 86, 3) := by decide +kernel
theorem dL_law_279 : decode cL_law 279 = .ok (.istore 5, 2) := by decide +kernel
theorem dL_law_281 : decode cL_law 281 = .ok (.bipush 6, 2) := by decide +kernel
theorem dL_law_283 : decode cL_law 283 = .ok (.newarray .int, 2) := by decide +kernel
theorem dL_law_285 : decode cL_law 285 = .ok (.dup, 1) := by decide +kernel
theorem dL_law_286 : decode cL_law 286 = .ok (.iconst 0, 1) := by decide +kernel
theorem dL_law_287 : decode cL_law 287 = .ok (.aload_n 1, 1) := by decide +kernel
theorem dL_law_288 : decode cL_law 288 = .ok (.bipush 119, 2) := by decide +kernel
theorem dL_law_290 : decode cL_law 290 = .ok (.iconst 1, 1) := by decide +kernel
theorem dL_law_291 : decode cL_law 291 = .ok (.iload 4, 2) := by decide +kernel
theorem dL_law_293 : decode cL_law 293 = .ok (.iconst 5, 1) := by decide +kernel
theorem dL_law_294 : decode cL_law 294 = .ok (.ishr, 1) := by decide +kernel
theorem dL_law_295 : decode cL_law 295 = .ok (.iconst 3, 1) := by decide +kernel
theorem dL_law_296 : decode cL_law 296 = .ok (.invokestatic 86, 3) := by decide +kernel
theorem dL_law_299 : decode cL_law 299 = .ok (.iadd, 1) := by decide +kernel
theorem dL_law_300 : decode cL_law 300 = .ok (.invokevirtual 108, 3) := by decide +kernel
theorem dL_law_303 : decode cL_law 303 = .ok (.iastore, 1) := by decide +kernel
theorem dL_law_304 : decode cL_law 304 = .ok (.dup, 1) := by decide +kernel
theorem dL_law_305 : decode cL_law 305 = .ok (.iconst 1, 1) := by decide +kernel
theorem dL_law_306 : decode cL_law 306 = .ok (.aload_n 1, 1) := by decide +kernel
theorem dL_law_307 : decode cL_law 307 = .ok (.bipush 107, 2) := by decide +kernel
theorem dL_law_309 : decode cL_law 309 = .ok (.iload 4, 2) := by decide +kernel
theorem dL_law_311 : decode cL_law 311 = .ok (.bipush 7, 2) := by decide +kernel
theorem dL_law_313 : decode cL_law 313 = .ok (.ishr, 1) := by decide +kernel
theorem dL_law_314 : decode cL_law 314 = .ok (.iconst 3, 1) := by decide +kernel
theorem dL_law_315 : decode cL_law 315 = .ok (.invokestatic 86, 3) := by decide +kernel
theorem dL_law_318 : decode cL_law 318 = .ok (.invokevirtual 108, 3) := by decide +kernel
theorem dL_law_321 : decode cL_law 321 = .ok (.iastore, 1) := by decide +kernel
theorem dL_law_322 : decode cL_law 322 = .ok (.dup, 1) := by decide +kernel
theorem dL_law_323 : decode cL_law 323 = .ok (.iconst 2, 1) := by decide +kernel
theorem dL_law_324 : decode cL_law 324 = .ok (.aload_n 1, 1) := by decide +kernel
theorem dL_law_325 : decode cL_law 325 = .ok (.bipush 100, 2) := by decide +kernel
theorem dL_law_327 : decode cL_law 327 = .ok (.iconst 1, 1) := by decide +kernel
theorem dL_law_328 : decode cL_law 328 = .ok (.iload 4, 2) := by decide +kernel
theorem dL_law_330 : decode cL_law 330 = .ok (.bipush 9, 2) := by decide +kernel
theorem dL_law_332 : decode cL_law 332 = .ok (.ishr, 1) := by decide +kernel
theorem dL_law_333 : decode cL_law 333 = .ok (.bipush 6, 2) := by decide +kernel
theorem dL_law_335 : decode cL_law 335 = .ok (.invokestatic 86, 3) := by decide +kernel
theorem dL_law_338 : decode cL_law 338 = .ok (.iadd, 1) := by decide +kernel
theorem dL_law_339 : decode cL_law 339 = .ok (.invokevirtual 108, 3) := by decide +kernel
theorem dL_law_342 : decode cL_law 342 = .ok (.iastore, 1) := by decide +kernel
theorem dL_law_343 : decode cL_law 343 = .ok (.dup, 1) := by decide +kernel
theorem dL_law_344 : decode cL_law 344 = .ok (.iconst 3, 1) := by decide +kernel
theorem dL_law_345 : decode cL_law 345 = .ok (.aload_n 1, 1) := by decide +kernel
theorem dL_law_346 : decode cL_law 346 = .ok (.bipush 115, 2) := by decide +kernel
theorem dL_law_348 : decode cL_law 348 = .ok (.iload 4, 2) := by decide +kernel
theorem dL_law_350 : decode cL_law 350 = .ok (.bipush 12, 2) := by decide +kernel
theorem dL_law_352 : decode cL_law 352 = .ok (.ishr, 1) := by decide +kernel
theorem dL_law_353 : decode cL_law 353 = .ok (.iconst 2, 1) := by decide +kernel
theorem dL_law_354 : decode cL_law 354 = .ok (.invokestatic 86, 3) := by decide +kernel
theorem dL_law_357 : decode cL_law 357 = .ok (.invokevirtual 108, 3) := by decide +kernel
theorem dL_law_360 : decode cL_law 360 = .ok (.iastore, 1) := by decide +kernel
theorem dL_law_361 : decode cL_law 361 = .ok (.dup, 1) := by decide +kernel
theorem dL_law_362 : decode cL_law 362 = .ok (.iconst 4, 1) := by decide +kernel
theorem dL_law_363 : decode cL_law 363 = .ok (.aload_n 1, 1) := by decide +kernel
theorem dL_law_364 : decode cL_law 364 = .ok (.bipush 103, 2) := by decide +kernel
theorem dL_law_366 : decode cL_law 366 = .ok (.iload 4, 2) := by decide +kernel
theorem dL_law_368 : decode cL_law 368 = .ok (.bipush 13, 2) := by decide +kernel
theorem dL_law_370 : decode cL_law 370 = .ok (.ishr, 1) := by decide +kernel
theorem dL_law_371 : decode cL_law 371 = .ok (.iconst 3, 1) := by decide +kernel
theorem dL_law_372 : decode cL_law 372 = .ok (.invokestatic 86, 3) := by decide +kernel
theorem dL_law_375 : decode cL_law 375 = .ok (.invokevirtual 108, 3) := by decide +kernel
theorem dL_law_378 : decode cL_law 378 = .ok (.iastore, 1) := by decide +kernel
theorem dL_law_379 : decode cL_law 379 = .ok (.dup, 1) := by decide +kernel
theorem dL_law_380 : decode cL_law 380 = .ok (.iconst 5, 1) := by decide +kernel
theorem dL_law_381 : decode cL_law 381 = .ok (.aload_n 1, 1) := by decide +kernel
theorem dL_law_382 : decode cL_law 382 = .ok (.bipush 114, 2) := by decide +kernel
theorem dL_law_384 : decode cL_law 384 = .ok (.iload 5, 2) := by decide +kernel
theorem dL_law_386 : decode cL_law 386 = .ok (.invokevirtual 108, 3) := by decide +kernel
theorem dL_law_389 : decode cL_law 389 = .ok (.iastore, 1) := by decide +kernel
theorem dL_law_390 : decode cL_law 390 = .ok (.astore 6, 2) := by decide +kernel
theorem dL_law_392 : decode cL_law 392 = .ok (.aload_n 1, 1) := by decide +kernel
theorem dL_law_393 : decode cL_law 393 = .ok (.ldc 112, 2) := by decide +kernel
theorem dL_law_395 : decode cL_law 395 = .ok (.iload 4, 2) := by decide +kernel
theorem dL_law_397 : decode cL_law 397 = .ok (.bipush 15, 2) := by decide +kernel
theorem dL_law_399 : decode cL_law 399 = .ok (.ishr, 1) := by decide +kernel
theorem dL_law_400 : decode cL_law 400 = .ok (.iconst 3, 1) := by decide +kernel
theorem dL_law_401 : decode cL_law 401 = .ok (.invokestatic 86, 3) := by decide +kernel
theorem dL_law_404 : decode cL_law 404 = .ok (.invokevirtual 114, 3) := by decide +kernel
theorem dL_law_407 : decode cL_law 407 = .ok (.invokevirtual 119, 3) := by decide +kernel
theorem dL_law_410 : decode cL_law 410 = .ok (.istore 7, 2) := by decide +kernel
theorem dL_law_412 : decode cL_law 412 = .ok (.iload_n 3, 1) := by decide +kernel
theorem dL_law_413 : decode cL_law 413 = .ok (.sipush 9000, 3) := by decide +kernel
theorem dL_law_416 : decode cL_law 416 = .ok (.if_icmp .ge 30, 3) := by decide +kernel
theorem dL_law_419 : decode cL_law 419 = .ok (.aload 6, 2) := by decide +kernel
theorem dL_law_421 : decode cL_law 421 = .ok (.iconst 0, 1) := by decide +kernel
theorem dL_law_422 : decode cL_law 422 = .ok (.iaload, 1) := by decide +kernel
theorem dL_law_423 : decode cL_law 423 = .ok (.iconst 1, 1) := by decide +kernel
theorem dL_law_424 : decode cL_law 424 = .ok (.if_icmp .ne 22, 3) := by decide +kernel
theorem dL_law_427 : decode cL_law 427 = .ok (.aload 6, 2) := by decide +kernel
theorem dL_law_429 : decode cL_law 429 = .ok (.iconst 5, 1) := by decide +kernel
theorem dL_law_430 : decode cL_law 430 = .ok (.iaload, 1) := by decide +kernel
theorem dL_law_431 : decode cL_law 431 = .ok (.iconst 4, 1) := by decide +kernel
theorem dL_law_432 : decode cL_law 432 = .ok (.if_icmp .ne 14, 3) := by decide +kernel
theorem dL_law_435 : decode cL_law 435 = .ok (.iload 7, 2) := by decide +kernel
theorem dL_law_437 : decode cL_law 437 = .ok (.bipush 108, 2) := by decide +kernel
theorem dL_law_439 : decode cL_law 439 = .ok (.if_icmp .ne 7, 3) := by decide +kernel
theorem dL_law_442 : decode cL_law 442 = .ok (.iconst 1, 1) := by decide +kernel
theorem dL_law_443 : decode cL_law 443 = .ok (.goto 4, 3) := by decide +kernel
theorem dL_law_446 : decode cL_law 446 = .ok (.iconst 0, 1) := by decide +kernel
theorem dL_law_447 : decode cL_law 447 = .ok (.istore 8, 2) := by decide +kernel
theorem dL_law_449 : decode cL_law 449 = .ok (.aload_n 1, 1) := by decide +kernel
theorem dL_law_450 : decode cL_law 450 = .ok (.invokevirtual 123, 3) := by decide +kernel
theorem dL_law_453 : decode cL_law 453 = .ok (.istore 9, 2) := by decide +kernel
theorem dL_law_455 : decode cL_law 455 = .ok (.iload 8, 2) := by decide +kernel
theorem dL_law_457 : decode cL_law 457 = .ok (.ifCond .eq 27, 3) := by decide +kernel
theorem dL_law_460 : decode cL_law 460 = .ok (.aload_n 1, 1) := by decide +kernel
theorem dL_law_461 : decode cL_law 461 = .ok (.invokevirtual 126, 3) := by decide +kernel
theorem dL_law_464 : decode cL_law 464 = .ok (.iload 9, 2) := by decide +kernel
theorem dL_law_466 : decode cL_law 466 = .ok (.if_icmp .ne 18, 3) := by decide +kernel
theorem dL_law_469 : decode cL_law 469 = .ok (.aload_n 1, 1) := by decide +kernel
theorem dL_law_470 : decode cL_law 470 = .ok (.iload 9, 2) := by decide +kernel
theorem dL_law_472 : decode cL_law 472 = .ok (.iload 5, 2) := by decide +kernel
theorem dL_law_474 : decode cL_law 474 = .ok (.invokestatic 129, 3) := by decide +kernel
theorem dL_law_477 : decode cL_law 477 = .ok (.ifCond .eq 7, 3) := by decide +kernel
theorem dL_law_480 : decode cL_law 480 = .ok (.iconst 1, 1) := by decide +kernel
theorem dL_law_481 : decode cL_law 481 = .ok (.goto 4, 3) := by decide +kernel
theorem dL_law_484 : decode cL_law 484 = .ok (.iconst 0, 1) := by decide +kernel
theorem dL_law_485 : decode cL_law 485 = .ok (.istore 8, 2) := by decide +kernel
theorem dL_law_487 : decode cL_law 487 = .ok (.iload 8, 2) := by decide +kernel
theorem dL_law_489 : decode cL_law 489 = .ok (.ifCond .eq 8, 3) := by decide +kernel
theorem dL_law_492 : decode cL_law 492 = .ok (.iload 9, 2) := by decide +kernel
theorem dL_law_494 : decode cL_law 494 = .ok (.ifCond .ne 6, 3) := by decide +kernel
theorem dL_law_497 : decode cL_law 497 = .ok (.iload 8, 2) := by decide +kernel
theorem dL_law_499 : decode cL_law 499 = .ok (.ireturn, 1) := by decide +kernel
theorem dL_law_500 : decode cL_law 500 = .ok (.aload_n 1, 1) := by decide +kernel
theorem dL_law_501 : decode cL_law 501 = .ok (.aload_n 0, 1) := by decide +kernel
theorem dL_law_502 : decode cL_law 502 = .ok (.iload 9, 2) := by decide +kernel
theorem dL_law_504 : decode cL_law 504 = .ok (.invokestatic 133, 3) := by decide +kernel
theorem dL_law_507 : decode cL_law 507 = .ok (.ifCond .eq 15, 3) := by decide +kernel
theorem dL_law_510 : decode cL_law 510 = .ok (.aload_n 1, 1) := by decide +kernel
theorem dL_law_511 : decode cL_law 511 = .ok (.aload_n 2, 1) := by decide +kernel
theorem dL_law_512 : decode cL_law 512 = .ok (.invokestatic 137, 3) := by decide +kernel
theorem dL_law_515 : decode cL_law 515 = .ok (.ifCond .eq 7, 3) := by decide +kernel
theorem dL_law_518 : decode cL_law 518 = .ok (.iconst 1, 1) := by decide +kernel
theorem dL_law_519 : decode cL_law 519 = .ok (.goto 4, 3) := by decide +kernel
theorem dL_law_522 : decode cL_law 522 = .ok (.iconst 0, 1) := by decide +kernel
theorem dL_law_523 : decode cL_law 523 = .ok (.ireturn, 1) := by decide +kernel
