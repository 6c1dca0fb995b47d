theorem k_0 : kd 0 = (100 + 11, 0) := by decide
theorem k_1 : kd 1 = (100 + 8, 0) := by decide
theorem k_2 : kd 2 = (1, 400) := by decide
theorem k_3 : kd 3 = (100 + 6, 0) := by decide
theorem k_4 : kd 4 = (100 + 4, 0) := by decide
theorem k_5 : kd 5 = (100 + 10, 0) := by decide
theorem k_19 : kd 19 = (100 + 7, 0) := by decide
theorem k_20 : kd 20 = (0, 8) := by decide
theorem k_21 : kd 21 = (0, 8) := by decide
theorem k_22 : kd 22 = (0, 8) := by decide
theorem k_23 : kd 23 = (0, 8) := by decide
theorem k_24 : kd 24 = (0, 8) := by decide
theorem k_25 : kd 25 = (0, 8) := by decide
theorem k_26 : kd 26 = (0, 5) := by decide
theorem k_27 : kd 27 = (0, 5) := by decide
theorem k_28 : kd 28 = (0, 10) := by decide
theorem k_29 : kd 29 = (0, 10) := by decide
theorem k_30 : kd 30 = (0, 10) := by decide
theorem k_31 : kd 31 = (0, 10) := by decide
theorem k_32 : kd 32 = (100 + 9, 0) := by decide
theorem k_33 : kd 33 = (6, 6) := by decide
theorem k_34 : kd 34 = (3, 8) := by decide
theorem k_71 : kd 71 = (100 + 2, 0) := by decide
theorem k_72 : kd 72 = (100 + 0, 0) := by decide
theorem k_73 : kd 73 = (0, 8) := by decide
theorem k_74 : kd 74 = (0, 8) := by decide
theorem k_75 : kd 75 = (0, 8) := by decide
theorem k_76 : kd 76 = (0, 6) := by decide
theorem k_77 : kd 77 = (0, 30) := by decide
theorem k_78 : kd 78 = (0, 8) := by decide
theorem k_79 : kd 79 = (0, 7) := by decide
theorem k_80 : kd 80 = (0, 7) := by decide
theorem k_81 : kd 81 = (100 + 7, 0) := by decide
theorem k_82 : kd 82 = (0, 8) := by decide
theorem k_85 : kd 85 = (0, 8) := by decide
theorem k_90 : kd 90 = (100 + 1, 0) := by decide
theorem k_91 : kd 91 = (4, 20) := by decide
theorem k_272 : kd 272 = (5, 4) := by decide
theorem k_273 : kd 273 = (2, 4) := by decide
