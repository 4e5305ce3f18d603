theorem dX6_back_26 : decode cX6_back 26 = .ok (.iload_n 2, 1) := by decide +kernel
theorem dX6_back_27 : decode cX6_back 27 = .ok (.sipush 128, 3) := by decide +kernel
theorem dX6_back_30 : decode cX6_back 30 = .ok (.if_icmp .ge 45, 3) := by decide +kernel
theorem dX6_back_33 : decode cX6_back 33 = .ok (.aload_n 0, 1) := by decide +kernel
theorem dX6_back_34 : decode cX6_back 34 = .ok (.getfield 7, 3) := by decide +kernel
theorem dX6_back_37 : decode cX6_back 37 = .ok (.iload_n 2, 1) := by decide +kernel
theorem dX6_back_38 : decode cX6_back 38 = .ok (.aload_n 0, 1) := by decide +kernel
theorem dX6_back_39 : decode cX6_back 39 = .ok (.getfield 41, 3) := by decide +kernel
theorem dX6_back_42 : decode cX6_back 42 = .ok (.sipush 128, 3) := by decide +kernel
theorem dX6_back_45 : decode cX6_back 45 = .ok (.iload_n 1, 1) := by decide +kernel
theorem dX6_back_46 : decode cX6_back 46 = .ok (.imul, 1) := by decide +kernel
theorem dX6_back_47 : decode cX6_back 47 = .ok (.iload_n 2, 1) := by decide +kernel
theorem dX6_back_48 : decode cX6_back 48 = .ok (.iadd, 1) := by decide +kernel
theorem dX6_back_49 : decode cX6_back 49 = .ok (.iaload, 1) := by decide +kernel
theorem dX6_back_50 : decode cX6_back 50 = .ok (.iastore, 1) := by decide +kernel
theorem dX6_back_51 : decode cX6_back 51 = .ok (.aload_n 0, 1) := by decide +kernel
theorem dX6_back_52 : decode cX6_back 52 = .ok (.getfield 23, 3) := by decide +kernel
theorem dX6_back_55 : decode cX6_back 55 = .ok (.iload_n 2, 1) := by decide +kernel
theorem dX6_back_56 : decode cX6_back 56 = .ok (.aload_n 0, 1) := by decide +kernel
theorem dX6_back_57 : decode cX6_back 57 = .ok (.getfield 50, 3) := by decide +kernel
theorem dX6_back_60 : decode cX6_back 60 = .ok (.sipush 128, 3) := by decide +kernel
theorem dX6_back_63 : decode cX6_back 63 = .ok (.iload_n 1, 1) := by decide +kernel
theorem dX6_back_64 : decode cX6_back 64 = .ok (.imul, 1) := by decide +kernel
theorem dX6_back_65 : decode cX6_back 65 = .ok (.iload_n 2, 1) := by decide +kernel
theorem dX6_back_66 : decode cX6_back 66 = .ok (.iadd, 1) := by decide +kernel
theorem dX6_back_67 : decode cX6_back 67 = .ok (.iaload, 1) := by decide +kernel
theorem dX6_back_68 : decode cX6_back 68 = .ok (.iastore, 1) := by decide +kernel
theorem dX6_back_69 : decode cX6_back 69 = .ok (.iinc 2 1, 3) := by decide +kernel
theorem dX6_back_72 : decode cX6_back 72 = .ok (.goto (-46), 3) := by decide +kernel
theorem dX6_back_75 : decode cX6_back 75 = .ok (.iconst 0, 1) := by decide +kernel
theorem dX6_back_76 : decode cX6_back 76 = .ok (.istore_n 2, 1) := by decide +kernel
theorem dX6_back_77 : decode cX6_back 77 = .ok (.iload_n 2, 1) := by decide +kernel
theorem dX6_back_78 : decode cX6_back 78 = .ok (.bipush 64, 2) := by decide +kernel
theorem dX6_back_80 : decode cX6_back 80 = .ok (.if_icmp .ge 60, 3) := by decide +kernel
theorem dX6_back_83 : decode cX6_back 83 = .ok (.aload_n 0, 1) := by decide +kernel
theorem dX6_back_84 : decode cX6_back 84 = .ok (.getfield 13, 3) := by decide +kernel
theorem dX6_back_87 : decode cX6_back 87 = .ok (.iload_n 2, 1) := by decide +kernel
theorem dX6_back_88 : decode cX6_back 88 = .ok (.aload_n 0, 1) := by decide +kernel
theorem dX6_back_89 : decode cX6_back 89 = .ok (.getfield 44, 3) := by decide +kernel
theorem dX6_back_92 : decode cX6_back 92 = .ok (.bipush 64, 2) := by decide +kernel
theorem dX6_back_94 : decode cX6_back 94 = .ok (.iload_n 1, 1) := by decide +kernel
theorem dX6_back_95 : decode cX6_back 95 = .ok (.imul, 1) := by decide +kernel
theorem dX6_back_96 : decode cX6_back 96 = .ok (.iload_n 2, 1) := by decide +kernel
theorem dX6_back_97 : decode cX6_back 97 = .ok (.iadd, 1) := by decide +kernel
theorem dX6_back_98 : decode cX6_back 98 = .ok (.iaload, 1) := by decide +kernel
theorem dX6_back_99 : decode cX6_back 99 = .ok (.iastore, 1) := by decide +kernel
theorem dX6_back_100 : decode cX6_back 100 = .ok (.aload_n 0, 1) := by decide +kernel
theorem dX6_back_101 : decode cX6_back 101 = .ok (.getfield 16, 3) := by decide +kernel
theorem dX6_back_104 : decode cX6_back 104 = .ok (.iload_n 2, 1) := by decide +kernel
theorem dX6_back_105 : decode cX6_back 105 = .ok (.aload_n 0, 1) := by decide +kernel
theorem dX6_back_106 : decode cX6_back 106 = .ok (.getfield 47, 3) := by decide +kernel
theorem dX6_back_109 : decode cX6_back 109 = .ok (.bipush 64, 2) := by decide +kernel
theorem dX6_back_111 : decode cX6_back 111 = .ok (.iload_n 1, 1) := by decide +kernel
theorem dX6_back_112 : decode cX6_back 112 = .ok (.imul, 1) := by decide +kernel
theorem dX6_back_113 : decode cX6_back 113 = .ok (.iload_n 2, 1) := by decide +kernel
theorem dX6_back_114 : decode cX6_back 114 = .ok (.iadd, 1) := by decide +kernel
theorem dX6_back_115 : decode cX6_back 115 = .ok (.iaload, 1) := by decide +kernel
theorem dX6_back_116 : decode cX6_back 116 = .ok (.iastore, 1) := by decide +kernel
theorem dX6_back_117 : decode cX6_back 117 = .ok (.aload_n 0, 1) := by decide +kernel
theorem dX6_back_118 : decode cX6_back 118 = .ok (.getfield 26, 3) := by decide +kernel
theorem dX6_back_121 : decode cX6_back 121 = .ok (.iload_n 2, 1) := by decide +kernel
theorem dX6_back_122 : decode cX6_back 122 = .ok (.aload_n 0, 1) := by decide +kernel
theorem dX6_back_123 : decode cX6_back 123 = .ok (.getfield 53, 3) := by decide +kernel
theorem dX6_back_126 : decode cX6_back 126 = .ok (.bipush 64, 2) := by decide +kernel
theorem dX6_back_128 : decode cX6_back 128 = .ok (.iload_n 1, 1) := by decide +kernel
theorem dX6_back_129 : decode cX6_back 129 = .ok (.imul, 1) := by decide +kernel
theorem dX6_back_130 : decode cX6_back 130 = .ok (.iload_n 2, 1) := by decide +kernel
theorem dX6_back_131 : decode cX6_back 131 = .ok (.iadd, 1) := by decide +kernel
theorem dX6_back_132 : decode cX6_back 132 = .ok (.iaload, 1) := by decide +kernel
theorem dX6_back_133 : decode cX6_back 133 = .ok (.iastore, 1) := by decide +kernel
theorem dX6_back_134 : decode cX6_back 134 = .ok (.iinc 2 1, 3) := by decide +kernel
theorem dX6_back_137 : decode cX6_back 137 = .ok (.goto (-60), 3) := by decide +kernel
theorem dX6_back_140 : decode cX6_back 140 = .ok (.aload_n 0, 1) := by decide +kernel
theorem dX6_back_141 : decode cX6_back 141 = .ok (.aload_n 0, 1) := by decide +kernel
theorem dX6_back_142 : decode cX6_back 142 = .ok (.getfield 56, 3) := by decide +kernel
theorem dX6_back_145 : decode cX6_back 145 = .ok (.iload_n 1, 1) := by decide +kernel
theorem dX6_back_146 : decode cX6_back 146 = .ok (.iaload, 1) := by decide +kernel
theorem dX6_back_147 : decode cX6_back 147 = .ok (.putfield 19, 3) := by decide +kernel
theorem dX6_back_150 : decode cX6_back 150 = .ok (.aload_n 0, 1) := by decide +kernel
theorem dX6_back_151 : decode cX6_back 151 = .ok (.aload_n 0, 1) := by decide +kernel
theorem dX6_back_152 : decode cX6_back 152 = .ok (.getfield 59, 3) := by decide +kernel
theorem dX6_back_155 : decode cX6_back 155 = .ok (.iload_n 1, 1) := by decide +kernel
theorem dX6_back_156 : decode cX6_back 156 = .ok (.iaload, 1) := by decide +kernel
theorem dX6_back_157 : decode cX6_back 157 = .ok (.putfield 105, 3) := by decide +kernel
theorem dX6_back_160 : decode cX6_back 160 = .ok (.aload_n 0, 1) := by decide +kernel
theorem dX6_back_161 : decode cX6_back 161 = .ok (.aload_n 0, 1) := by decide +kernel
theorem dX6_back_162 : decode cX6_back 162 = .ok (.getfield 62, 3) := by decide +kernel
theorem dX6_back_165 : decode cX6_back 165 = .ok (.iload_n 1, 1) := by decide +kernel
theorem dX6_back_166 : decode cX6_back 166 = .ok (.baload, 1) := by decide +kernel
theorem dX6_back_167 : decode cX6_back 167 = .ok (.putfield 98, 3) := by decide +kernel
theorem dX6_back_170 : decode cX6_back 170 = .ok (.iconst 1, 1) := by decide +kernel
theorem dX6_back_171 : decode cX6_back 171 = .ok (.ireturn, 1) := by decide +kernel
