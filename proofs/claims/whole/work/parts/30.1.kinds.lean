theorem kk_0 : kd 0 = (100 + 11, 0) := by decide
theorem kk_1 : kd 1 = (100 + 8, 0) := by decide
theorem kk_2 : kd 2 = (1, 400) := by decide
theorem kk_3 : kd 3 = (100 + 6, 0) := by decide
theorem kk_4 : kd 4 = (100 + 4, 0) := by decide
theorem kk_5 : kd 5 = (100 + 10, 0) := by decide
theorem kk_19 : kd 19 = (100 + 7, 0) := by decide
theorem kk_20 : kd 20 = (0, 8) := by decide
theorem kk_21 : kd 21 = (0, 8) := by decide
theorem kk_22 : kd 22 = (0, 8) := by decide
theorem kk_23 : kd 23 = (0, 8) := by decide
theorem kk_24 : kd 24 = (0, 8) := by decide
theorem kk_25 : kd 25 = (0, 8) := by decide
theorem kk_26 : kd 26 = (0, 5) := by decide
theorem kk_27 : kd 27 = (0, 5) := by decide
theorem kk_28 : kd 28 = (0, 10) := by decide
theorem kk_29 : kd 29 = (0, 10) := by decide
theorem kk_30 : kd 30 = (0, 10) := by decide
theorem kk_31 : kd 31 = (0, 10) := by decide
theorem kk_32 : kd 32 = (100 + 9, 0) := by decide
theorem kk_33 : kd 33 = (6, 6) := by decide
theorem kk_34 : kd 34 = (3, 8) := by decide
theorem kk_71 : kd 71 = (100 + 2, 0) := by decide
theorem kk_72 : kd 72 = (100 + 0, 0) := by decide
theorem kk_73 : kd 73 = (0, 8) := by decide
theorem kk_74 : kd 74 = (0, 8) := by decide
theorem kk_75 : kd 75 = (0, 8) := by decide
theorem kk_76 : kd 76 = (0, 6) := by decide
theorem kk_77 : kd 77 = (0, 30) := by decide
theorem kk_78 : kd 78 = (0, 8) := by decide
theorem kk_79 : kd 79 = (0, 7) := by decide
theorem kk_80 : kd 80 = (0, 7) := by decide
theorem kk_81 : kd 81 = (100 + 7, 0) := by decide
theorem kk_82 : kd 82 = (0, 8) := by decide
theorem kk_85 : kd 85 = (0, 8) := by decide
theorem kk_90 : kd 90 = (100 + 1, 0) := by decide
theorem kk_91 : kd 91 = (4, 20) := by decide
theorem kk_272 : kd 272 = (5, 4) := by decide
theorem kk_273 : kd 273 = (2, 4) := by decide
