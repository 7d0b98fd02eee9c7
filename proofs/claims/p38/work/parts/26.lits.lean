/-! the numbers of the bodies -/
theorem ql_0 : (0 : Int32) = Int32.ofInt 0 := by decide
theorem ql_1 : (1 : Int32) = Int32.ofInt 1 := by decide
theorem ql_m1 : (-1 : Int32) = Int32.ofInt (-1) := by decide
theorem ql_2 : (2 : Int32) = Int32.ofInt 2 := by decide
theorem ql_3 : (3 : Int32) = Int32.ofInt 3 := by decide
theorem ql_4 : (4 : Int32) = Int32.ofInt 4 := by decide
theorem ql_5 : (5 : Int32) = Int32.ofInt 5 := by decide
theorem ql_6 : (6 : Int32) = Int32.ofInt 6 := by decide
theorem ql_7 : (7 : Int32) = Int32.ofInt 7 := by decide
theorem ql_8 : (8 : Int32) = Int32.ofInt 8 := by decide
theorem ql_9 : (9 : Int32) = Int32.ofInt 9 := by decide
theorem ql_10 : (10 : Int32) = Int32.ofInt 10 := by decide
theorem ql_11 : (11 : Int32) = Int32.ofInt 11 := by decide
theorem ql_12 : (12 : Int32) = Int32.ofInt 12 := by decide
theorem ql_13 : (13 : Int32) = Int32.ofInt 13 := by decide
theorem ql_14 : (14 : Int32) = Int32.ofInt 14 := by decide
theorem ql_20 : (20 : Int32) = Int32.ofInt 20 := by decide
theorem ql_22 : (22 : Int32) = Int32.ofInt 22 := by decide
theorem ql_32 : (32 : Int32) = Int32.ofInt 32 := by decide
theorem ql_46 : (46 : Int32) = Int32.ofInt 46 := by decide
theorem ql_63 : (63 : Int32) = Int32.ofInt 63 := by decide
theorem ql_97 : (97 : Int32) = Int32.ofInt 97 := by decide
theorem ql_98 : (98 : Int32) = Int32.ofInt 98 := by decide
theorem ql_100 : (100 : Int32) = Int32.ofInt 100 := by decide
theorem ql_101 : (101 : Int32) = Int32.ofInt 101 := by decide
theorem ql_102 : (102 : Int32) = Int32.ofInt 102 := by decide
theorem ql_103 : (103 : Int32) = Int32.ofInt 103 := by decide
theorem ql_105 : (105 : Int32) = Int32.ofInt 105 := by decide
theorem ql_107 : (107 : Int32) = Int32.ofInt 107 := by decide
theorem ql_108 : (108 : Int32) = Int32.ofInt 108 := by decide
theorem ql_112 : (112 : Int32) = Int32.ofInt 112 := by decide
theorem ql_114 : (114 : Int32) = Int32.ofInt 114 := by decide
theorem ql_115 : (115 : Int32) = Int32.ofInt 115 := by decide
theorem ql_116 : (116 : Int32) = Int32.ofInt 116 := by decide
theorem ql_117 : (117 : Int32) = Int32.ofInt 117 := by decide
theorem ql_119 : (119 : Int32) = Int32.ofInt 119 := by decide
theorem ql_120 : (120 : Int32) = Int32.ofInt 120 := by decide
theorem ql_121 : (121 : Int32) = Int32.ofInt 121 := by decide
theorem ql_122 : (122 : Int32) = Int32.ofInt 122 := by decide
theorem ql_144 : (144 : Int32) = Int32.ofInt 144 := by decide
theorem ql_150 : (150 : Int32) = Int32.ofInt 150 := by decide
theorem ql_196 : (196 : Int32) = Int32.ofInt 196 := by decide
theorem ql_200 : (200 : Int32) = Int32.ofInt 200 := by decide
theorem ql_300 : (300 : Int32) = Int32.ofInt 300 := by decide
theorem ql_576 : (576 : Int32) = Int32.ofInt 576 := by decide
theorem ql_676 : (676 : Int32) = Int32.ofInt 676 := by decide
theorem ql_1728 : (1728 : Int32) = Int32.ofInt 1728 := by decide
theorem ql_6936 : (6936 : Int32) = Int32.ofInt 6936 := by decide
theorem ql_9000 : (9000 : Int32) = Int32.ofInt 9000 := by decide
theorem ql_15 : (15 : Int32) = Int32.ofInt 15 := by decide +kernel
theorem ql_16 : (16 : Int32) = Int32.ofInt 16 := by decide +kernel
theorem ql_23 : (23 : Int32) = Int32.ofInt 23 := by decide +kernel
theorem ql_24 : (24 : Int32) = Int32.ofInt 24 := by decide +kernel
theorem ql_30 : (30 : Int32) = Int32.ofInt 30 := by decide +kernel
theorem ql_60 : (60 : Int32) = Int32.ofInt 60 := by decide +kernel
theorem ql_210 : (210 : Int32) = Int32.ofInt 210 := by decide +kernel
theorem ql_400 : (400 : Int32) = Int32.ofInt 400 := by decide +kernel
theorem ql_3803 : (3803 : Int32) = Int32.ofInt 3803 := by decide +kernel
theorem ql_40503 : (40503 : Int32) = Int32.ofInt 40503 := by decide +kernel
theorem ql_2147483647 : (2147483647 : Int32) = Int32.ofInt 2147483647 := by decide +kernel
