theorem dX9_readPart_16 : decode cX9_readPart 16 = .ok (.iadd, 1) := by decide +kernel
theorem dX9_readPart_17 : decode cX9_readPart 17 = .ok (.putfield 81, 3) := by decide +kernel
theorem dX9_readPart_20 : decode cX9_readPart 20 = .ok (.iload_n 1, 1) := by decide +kernel
theorem dX9_readPart_21 : decode cX9_readPart 21 = .ok (.bipush 82, 2) := by decide +kernel
theorem dX9_readPart_23 : decode cX9_readPart 23 = .ok (.if_icmp .ne 16, 3) := by decide +kernel
theorem dX9_readPart_26 : decode cX9_readPart 26 = .ok (.aload_n 0, 1) := by decide +kernel
theorem dX9_readPart_27 : decode cX9_readPart 27 = .ok (.getfield 84, 3) := by decide +kernel
theorem dX9_readPart_30 : decode cX9_readPart 30 = .ok (.iconst 5, 1) := by decide +kernel
theorem dX9_readPart_31 : decode cX9_readPart 31 = .ok (.if_icmp .ge 8, 3) := by decide +kernel
theorem dX9_readPart_34 : decode cX9_readPart 34 = .ok (.aload_n 0, 1) := by decide +kernel
theorem dX9_readPart_35 : decode cX9_readPart 35 = .ok (.invokevirtual 98, 3) := by decide +kernel
theorem dX9_readPart_38 : decode cX9_readPart 38 = .ok (.ireturn, 1) := by decide +kernel
theorem dX9_readPart_39 : decode cX9_readPart 39 = .ok (.iload_n 1, 1) := by decide +kernel
theorem dX9_readPart_40 : decode cX9_readPart 40 = .ok (.bipush 83, 2) := by decide +kernel
theorem dX9_readPart_42 : decode cX9_readPart 42 = .ok (.if_icmp .ne 16, 3) := by decide +kernel
theorem dX9_readPart_45 : decode cX9_readPart 45 = .ok (.aload_n 0, 1) := by decide +kernel
theorem dX9_readPart_46 : decode cX9_readPart 46 = .ok (.getfield 95, 3) := by decide +kernel
theorem dX9_readPart_49 : decode cX9_readPart 49 = .ok (.iconst 4, 1) := by decide +kernel
theorem dX9_readPart_50 : decode cX9_readPart 50 = .ok (.if_icmp .ge 8, 3) := by decide +kernel
theorem dX9_readPart_53 : decode cX9_readPart 53 = .ok (.aload_n 0, 1) := by decide +kernel
theorem dX9_readPart_54 : decode cX9_readPart 54 = .ok (.invokevirtual 101, 3) := by decide +kernel
theorem dX9_readPart_57 : decode cX9_readPart 57 = .ok (.ireturn, 1) := by decide +kernel
theorem dX9_readPart_58 : decode cX9_readPart 58 = .ok (.aload_n 0, 1) := by decide +kernel
theorem dX9_readPart_59 : decode cX9_readPart 59 = .ok (.dup, 1) := by decide +kernel
theorem dX9_readPart_60 : decode cX9_readPart 60 = .ok (.getfield 81, 3) := by decide +kernel
theorem dX9_readPart_63 : decode cX9_readPart 63 = .ok (.iconst 1, 1) := by decide +kernel
theorem dX9_readPart_64 : decode cX9_readPart 64 = .ok (.isub, 1) := by decide +kernel
theorem dX9_readPart_65 : decode cX9_readPart 65 = .ok (.putfield 81, 3) := by decide +kernel
theorem dX9_readPart_68 : decode cX9_readPart 68 = .ok (.iconst 0, 1) := by decide +kernel
theorem dX9_readPart_69 : decode cX9_readPart 69 = .ok (.ireturn, 1) := by decide +kernel
theorem dX9_readNight_0 : decode cX9_readNight 0 = .ok (.aload_n 0, 1) := by decide +kernel
theorem dX9_readNight_1 : decode cX9_readNight 1 = .ok (.iconst 0, 1) := by decide +kernel
theorem dX9_readNight_2 : decode cX9_readNight 2 = .ok (.putfield 81, 3) := by decide +kernel
theorem dX9_readNight_5 : decode cX9_readNight 5 = .ok (.aload_n 0, 1) := by decide +kernel
theorem dX9_readNight_6 : decode cX9_readNight 6 = .ok (.iconst 0, 1) := by decide +kernel
theorem dX9_readNight_7 : decode cX9_readNight 7 = .ok (.putfield 84, 3) := by decide +kernel
theorem dX9_readNight_10 : decode cX9_readNight 10 = .ok (.aload_n 0, 1) := by decide +kernel
theorem dX9_readNight_11 : decode cX9_readNight 11 = .ok (.iconst 0, 1) := by decide +kernel
theorem dX9_readNight_12 : decode cX9_readNight 12 = .ok (.putfield 95, 3) := by decide +kernel
theorem dX9_readNight_15 : decode cX9_readNight 15 = .ok (.aload_n 0, 1) := by decide +kernel
theorem dX9_readNight_16 : decode cX9_readNight 16 = .ok (.getfield 78, 3) := by decide +kernel
theorem dX9_readNight_19 : decode cX9_readNight 19 = .ok (.ifCond .eq 14, 3) := by decide +kernel
theorem dX9_readNight_22 : decode cX9_readNight 22 = .ok (.aload_n 0, 1) := by decide +kernel
theorem dX9_readNight_23 : decode cX9_readNight 23 = .ok (.getfield 7, 3) := by decide +kernel
theorem dX9_readNight_26 : decode cX9_readNight 26 = .ok (.iconst 0, 1) := by decide +kernel
theorem dX9_readNight_27 : decode cX9_readNight 27 = .ok (.iaload, 1) := by decide +kernel
theorem dX9_readNight_28 : decode cX9_readNight 28 = .ok (.bipush 78, 2) := by decide +kernel
theorem dX9_readNight_30 : decode cX9_readNight 30 = .ok (.if_icmp .eq 5, 3) := by decide +kernel
theorem dX9_readNight_33 : decode cX9_readNight 33 = .ok (.iconst 0, 1) := by decide +kernel
theorem dX9_readNight_34 : decode cX9_readNight 34 = .ok (.ireturn, 1) := by decide +kernel
theorem dX9_readNight_35 : decode cX9_readNight 35 = .ok (.aload_n 0, 1) := by decide +kernel
theorem dX9_readNight_36 : decode cX9_readNight 36 = .ok (.iconst 1, 1) := by decide +kernel
theorem dX9_readNight_37 : decode cX9_readNight 37 = .ok (.putfield 81, 3) := by decide +kernel
theorem dX9_readNight_40 : decode cX9_readNight 40 = .ok (.aload_n 0, 1) := by decide +kernel
theorem dX9_readNight_41 : decode cX9_readNight 41 = .ok (.aload_n 0, 1) := by decide +kernel
theorem dX9_readNight_42 : decode cX9_readNight 42 = .ok (.iconst 0, 1) := by decide +kernel
theorem dX9_readNight_43 : decode cX9_readNight 43 = .ok (.iconst 2, 1) := by decide +kernel
theorem dX9_readNight_44 : decode cX9_readNight 44 = .ok (.invokevirtual 91, 3) := by decide +kernel
theorem dX9_readNight_47 : decode cX9_readNight 47 = .ok (.putfield 103, 3) := by decide +kernel
theorem dX9_readNight_50 : decode cX9_readNight 50 = .ok (.aload_n 0, 1) := by decide +kernel
theorem dX9_readNight_51 : decode cX9_readNight 51 = .ok (.getfield 103, 3) := by decide +kernel
theorem dX9_readNight_54 : decode cX9_readNight 54 = .ok (.bipush (-9), 2) := by decide +kernel
theorem dX9_readNight_56 : decode cX9_readNight 56 = .ok (.if_icmp .ne 8, 3) := by decide +kernel
theorem dX9_readNight_59 : decode cX9_readNight 59 = .ok (.aload_n 0, 1) := by decide +kernel
theorem dX9_readNight_60 : decode cX9_readNight 60 = .ok (.getfield 81, 3) := by decide +kernel
theorem dX9_readNight_63 : decode cX9_readNight 63 = .ok (.ireturn, 1) := by decide +kernel
theorem dX9_readNight_64 : decode cX9_readNight 64 = .ok (.aload_n 0, 1) := by decide +kernel
theorem dX9_readNight_65 : decode cX9_readNight 65 = .ok (.getfield 81, 3) := by decide +kernel
theorem dX9_readNight_68 : decode cX9_readNight 68 = .ok (.aload_n 0, 1) := by decide +kernel
theorem dX9_readNight_69 : decode cX9_readNight 69 = .ok (.getfield 78, 3) := by decide +kernel
theorem dX9_readNight_72 : decode cX9_readNight 72 = .ok (.if_icmp .ge 15, 3) := by decide +kernel
theorem dX9_readNight_75 : decode cX9_readNight 75 = .ok (.aload_n 0, 1) := by decide +kernel
theorem dX9_readNight_76 : decode cX9_readNight 76 = .ok (.invokevirtual 106, 3) := by decide +kernel
theorem dX9_readNight_79 : decode cX9_readNight 79 = .ok (.ifCond .ne (-15), 3) := by decide +kernel
theorem dX9_readNight_82 : decode cX9_readNight 82 = .ok (.aload_n 0, 1) := by decide +kernel
theorem dX9_readNight_83 : decode cX9_readNight 83 = .ok (.getfield 81, 3) := by decide +kernel
theorem dX9_readNight_86 : decode cX9_readNight 86 = .ok (.ireturn, 1) := by decide +kernel
theorem dX9_readNight_87 : decode cX9_readNight 87 = .ok (.bipush (-9), 2) := by decide +kernel
theorem dX9_readNight_89 : decode cX9_readNight 89 = .ok (.ireturn, 1) := by decide +kernel
theorem dX9_fault_0 : decode cX9_fault 0 = .ok (.aload_n 0, 1) := by decide +kernel
theorem dX9_fault_1 : decode cX9_fault 1 = .ok (.iconst 0, 1) := by decide +kernel
theorem dX9_fault_2 : decode cX9_fault 2 = .ok (.putfield 62, 3) := by decide +kernel
theorem dX9_fault_5 : decode cX9_fault 5 = .ok (.aload_n 0, 1) := by decide +kernel
theorem dX9_fault_6 : decode cX9_fault 6 = .ok (.invokevirtual 109, 3) := by decide +kernel
theorem dX9_fault_9 : decode cX9_fault 9 = .ok (.ireturn, 1) := by decide +kernel
theorem dX9_night_0 : decode cX9_night 0 = .ok (.aload_n 0, 1) := by decide +kernel
theorem dX9_night_1 : decode cX9_night 1 = .ok (.iconst 0, 1) := by decide +kernel
theorem dX9_night_2 : decode cX9_night 2 = .ok (.putfield 62, 3) := by decide +kernel
theorem dX9_night_5 : decode cX9_night 5 = .ok (.aload_n 0, 1) := by decide +kernel
theorem dX9_night_6 : decode cX9_night 6 = .ok (.invokevirtual 109, 3) := by decide +kernel
theorem dX9_night_9 : decode cX9_night 9 = .ok (.bipush (-9), 2) := by decide +kernel
theorem dX9_night_11 : decode cX9_night 11 = .ok (.if_icmp .eq 6, 3) := by decide +kernel
theorem dX9_night_14 : decode cX9_night 14 = .ok (.bipush (-3), 2) := by decide +kernel
theorem dX9_night_16 : decode cX9_night 16 = .ok (.ireturn, 1) := by decide +kernel
theorem dX9_night_17 : decode cX9_night 17 = .ok (.aload_n 0, 1) := by decide +kernel
theorem dX9_night_18 : decode cX9_night 18 = .ok (.aload_n 0, 1) := by decide +kernel
theorem dX9_night_19 : decode cX9_night 19 = .ok (.getfield 103, 3) := by decide +kernel
theorem dX9_night_22 : decode cX9_night 22 = .ok (.putfield 113, 3) := by decide +kernel
theorem dX9_night_25 : decode cX9_night 25 = .ok (.aload_n 0, 1) := by decide +kernel
theorem dX9_night_26 : decode cX9_night 26 = .ok (.aload_n 0, 1) := by decide +kernel
theorem dX9_night_27 : decode cX9_night 27 = .ok (.getfield 84, 3) := by decide +kernel
theorem dX9_night_30 : decode cX9_night 30 = .ok (.putfield 66, 3) := by decide +kernel
theorem dX9_night_33 : decode cX9_night 33 = .ok (.aload_n 0, 1) := by decide +kernel
theorem dX9_night_34 : decode cX9_night 34 = .ok (.aload_n 0, 1) := by decide +kernel
theorem dX9_night_35 : decode cX9_night 35 = .ok (.getfield 95, 3) := by decide +kernel
theorem dX9_night_38 : decode cX9_night 38 = .ok (.putfield 73, 3) := by decide +kernel
theorem dX9_night_41 : decode cX9_night 41 = .ok (.iconst 0, 1) := by decide +kernel
theorem dX9_night_42 : decode cX9_night 42 = .ok (.istore_n 1, 1) := by decide +kernel
theorem dX9_night_43 : decode cX9_night 43 = .ok (.iload_n 1, 1) := by decide +kernel
theorem dX9_night_44 : decode cX9_night 44 = .ok (.bipush 17, 2) := by decide +kernel
theorem dX9_night_46 : decode cX9_night 46 = .ok (.if_icmp .ge 16, 3) := by decide +kernel
theorem dX9_night_49 : decode cX9_night 49 = .ok (.aload_n 0, 1) := by decide +kernel
theorem dX9_night_50 : decode cX9_night 50 = .ok (.getfield 31, 3) := by decide +kernel
theorem dX9_night_53 : decode cX9_night 53 = .ok (.iload_n 1, 1) := by decide +kernel
theorem dX9_night_54 : decode cX9_night 54 = .ok (.iconst 0, 1) := by decide +kernel
theorem dX9_night_55 : decode cX9_night 55 = .ok (.iastore, 1) := by decide +kernel
theorem dX9_night_56 : decode cX9_night 56 = .ok (.iinc 1 1, 3) := by decide +kernel
theorem dX9_night_59 : decode cX9_night 59 = .ok (.goto (-16), 3) := by decide +kernel
theorem dX9_night_62 : decode cX9_night 62 = .ok (.iconst 0, 1) := by decide +kernel
theorem dX9_night_63 : decode cX9_night 63 = .ok (.istore_n 1, 1) := by decide +kernel
theorem dX9_night_64 : decode cX9_night 64 = .ok (.iload_n 1, 1) := by decide +kernel
theorem dX9_night_65 : decode cX9_night 65 = .ok (.aload_n 0, 1) := by decide +kernel
theorem dX9_night_66 : decode cX9_night 66 = .ok (.getfield 66, 3) := by decide +kernel
theorem dX9_night_69 : decode cX9_night 69 = .ok (.if_icmp .ge 79, 3) := by decide +kernel
theorem dX9_night_72 : decode cX9_night 72 = .ok (.aload_n 0, 1) := by decide +kernel
theorem dX9_night_73 : decode cX9_night 73 = .ok (.getfield 13, 3) := by decide +kernel
theorem dX9_night_76 : decode cX9_night 76 = .ok (.iload_n 1, 1) := by decide +kernel
theorem dX9_night_77 : decode cX9_night 77 = .ok (.aload_n 0, 1) := by decide +kernel
theorem dX9_night_78 : decode cX9_night 78 = .ok (.getfield 25, 3) := by decide +kernel
theorem dX9_night_81 : decode cX9_night 81 = .ok (.iconst 4, 1) := by decide +kernel
theorem dX9_night_82 : decode cX9_night 82 = .ok (.iload_n 1, 1) := by decide +kernel
theorem dX9_night_83 : decode cX9_night 83 = .ok (.imul, 1) := by decide +kernel
theorem dX9_night_84 : decode cX9_night 84 = .ok (.iaload, 1) := by decide +kernel
theorem dX9_night_85 : decode cX9_night 85 = .ok (.iastore, 1) := by decide +kernel
theorem dX9_night_86 : decode cX9_night 86 = .ok (.aload_n 0, 1) := by decide +kernel
theorem dX9_night_87 : decode cX9_night 87 = .ok (.getfield 31, 3) := by decide +kernel
theorem dX9_night_90 : decode cX9_night 90 = .ok (.iload_n 1, 1) := by decide +kernel
theorem dX9_night_91 : decode cX9_night 91 = .ok (.aload_n 0, 1) := by decide +kernel
theorem dX9_night_92 : decode cX9_night 92 = .ok (.getfield 25, 3) := by decide +kernel
theorem dX9_night_95 : decode cX9_night 95 = .ok (.iconst 4, 1) := by decide +kernel
theorem dX9_night_96 : decode cX9_night 96 = .ok (.iload_n 1, 1) := by decide +kernel
theorem dX9_night_97 : decode cX9_night 97 = .ok (.imul, 1) := by decide +kernel
theorem dX9_night_98 : decode cX9_night 98 = .ok (.iconst 1, 1) := by decide +kernel
theorem dX9_night_99 : decode cX9_night 99 = .ok (.iadd, 1) := by decide +kernel
theorem dX9_night_100 : decode cX9_night 100 = .ok (.iaload, 1) := by decide +kernel
theorem dX9_night_101 : decode cX9_night 101 = .ok (.iastore, 1) := by decide +kernel
theorem dX9_night_102 : decode cX9_night 102 = .ok (.aload_n 0, 1) := by decide +kernel
theorem dX9_night_103 : decode cX9_night 103 = .ok (.getfield 31, 3) := by decide +kernel
theorem dX9_night_106 : decode cX9_night 106 = .ok (.iconst 5, 1) := by decide +kernel
theorem dX9_night_107 : decode cX9_night 107 = .ok (.dup2, 1) := by decide +kernel
theorem dX9_night_108 : decode cX9_night 108 = .ok (.iaload, 1) := by decide +kernel
theorem dX9_night_109 : decode cX9_night 109 = .ok (.aload_n 0, 1) := by decide +kernel
theorem dX9_night_110 : decode cX9_night 110 = .ok (.getfield 25, 3) := by decide +kernel
theorem dX9_night_113 : decode cX9_night 113 = .ok (.iconst 4, 1) := by decide +kernel
theorem dX9_night_114 : decode cX9_night 114 = .ok (.iload_n 1, 1) := by decide +kernel
theorem dX9_night_115 : decode cX9_night 115 = .ok (.imul, 1) := by decide +kernel
theorem dX9_night_116 : decode cX9_night 116 = .ok (.iconst 2, 1) := by decide +kernel
theorem dX9_night_117 : decode cX9_night 117 = .ok (.iadd, 1) := by decide +kernel
theorem dX9_night_118 : decode cX9_night 118 = .ok (.iaload, 1) := by decide +kernel
theorem dX9_night_119 : decode cX9_night 119 = .ok (.iload_n 1, 1) := by decide +kernel
theorem dX9_night_120 : decode cX9_night 120 = .ok (.ishl, 1) := by decide +kernel
theorem dX9_night_121 : decode cX9_night 121 = .ok (.ior, 1) := by decide +kernel
theorem dX9_night_122 : decode cX9_night 122 = .ok (.iastore, 1) := by decide +kernel
theorem dX9_night_123 : decode cX9_night 123 = .ok (.aload_n 0, 1) := by decide +kernel
theorem dX9_night_124 : decode cX9_night 124 = .ok (.getfield 31, 3) := by decide +kernel
theorem dX9_night_127 : decode cX9_night 127 = .ok (.bipush 6, 2) := by decide +kernel
theorem dX9_night_129 : decode cX9_night 129 = .ok (.iload_n 1, 1) := by decide +kernel
theorem dX9_night_130 : decode cX9_night 130 = .ok (.iadd, 1) := by decide +kernel
theorem dX9_night_131 : decode cX9_night 131 = .ok (.aload_n 0, 1) := by decide +kernel
theorem dX9_night_132 : decode cX9_night 132 = .ok (.getfield 25, 3) := by decide +kernel
theorem dX9_night_135 : decode cX9_night 135 = .ok (.iconst 4, 1) := by decide +kernel
theorem dX9_night_136 : decode cX9_night 136 = .ok (.iload_n 1, 1) := by decide +kernel
theorem dX9_night_137 : decode cX9_night 137 = .ok (.imul, 1) := by decide +kernel
theorem dX9_night_138 : decode cX9_night 138 = .ok (.iconst 3, 1) := by decide +kernel
theorem dX9_night_139 : decode cX9_night 139 = .ok (.iadd, 1) := by decide +kernel
theorem dX9_night_140 : decode cX9_night 140 = .ok (.iaload, 1) := by decide +kernel
theorem dX9_night_141 : decode cX9_night 141 = .ok (.iastore, 1) := by decide +kernel
theorem dX9_night_142 : decode cX9_night 142 = .ok (.iinc 1 1, 3) := by decide +kernel
theorem dX9_night_145 : decode cX9_night 145 = .ok (.goto (-81), 3) := by decide +kernel
theorem dX9_night_148 : decode cX9_night 148 = .ok (.iconst 0, 1) := by decide +kernel
theorem dX9_night_149 : decode cX9_night 149 = .ok (.istore_n 1, 1) := by decide +kernel
theorem dX9_night_150 : decode cX9_night 150 = .ok (.iload_n 1, 1) := by decide +kernel
theorem dX9_night_151 : decode cX9_night 151 = .ok (.aload_n 0, 1) := by decide +kernel
theorem dX9_night_152 : decode cX9_night 152 = .ok (.getfield 73, 3) := by decide +kernel
theorem dX9_night_155 : decode cX9_night 155 = .ok (.if_icmp .ge 55, 3) := by decide +kernel
theorem dX9_night_158 : decode cX9_night 158 = .ok (.aload_n 0, 1) := by decide +kernel
theorem dX9_night_159 : decode cX9_night 159 = .ok (.getfield 16, 3) := by decide +kernel
theorem dX9_night_162 : decode cX9_night 162 = .ok (.iload_n 1, 1) := by decide +kernel
theorem dX9_night_163 : decode cX9_night 163 = .ok (.aload_n 0, 1) := by decide +kernel
theorem dX9_night_164 : decode cX9_night 164 = .ok (.getfield 28, 3) := by decide +kernel
theorem dX9_night_167 : decode cX9_night 167 = .ok (.iconst 3, 1) := by decide +kernel
theorem dX9_night_168 : decode cX9_night 168 = .ok (.iload_n 1, 1) := by decide +kernel
theorem dX9_night_169 : decode cX9_night 169 = .ok (.imul, 1) := by decide +kernel
theorem dX9_night_170 : decode cX9_night 170 = .ok (.iaload, 1) := by decide +kernel
theorem dX9_night_171 : decode cX9_night 171 = .ok (.iastore, 1) := by decide +kernel
theorem dX9_night_172 : decode cX9_night 172 = .ok (.aload_n 0, 1) := by decide +kernel
theorem dX9_night_173 : decode cX9_night 173 = .ok (.getfield 19, 3) := by decide +kernel
theorem dX9_night_176 : decode cX9_night 176 = .ok (.iload_n 1, 1) := by decide +kernel
theorem dX9_night_177 : decode cX9_night 177 = .ok (.aload_n 0, 1) := by decide +kernel
theorem dX9_night_178 : decode cX9_night 178 = .ok (.getfield 28, 3) := by decide +kernel
theorem dX9_night_181 : decode cX9_night 181 = .ok (.iconst 3, 1) := by decide +kernel
theorem dX9_night_182 : decode cX9_night 182 = .ok (.iload_n 1, 1) := by decide +kernel
theorem dX9_night_183 : decode cX9_night 183 = .ok (.imul, 1) := by decide +kernel
theorem dX9_night_184 : decode cX9_night 184 = .ok (.iconst 1, 1) := by decide +kernel
theorem dX9_night_185 : decode cX9_night 185 = .ok (.iadd, 1) := by decide +kernel
theorem dX9_night_186 : decode cX9_night 186 = .ok (.iaload, 1) := by decide +kernel
theorem dX9_night_187 : decode cX9_night 187 = .ok (.iastore, 1) := by decide +kernel
theorem dX9_night_188 : decode cX9_night 188 = .ok (.aload_n 0, 1) := by decide +kernel
theorem dX9_night_189 : decode cX9_night 189 = .ok (.getfield 22, 3) := by decide +kernel
theorem dX9_night_192 : decode cX9_night 192 = .ok (.iload_n 1, 1) := by decide +kernel
theorem dX9_night_193 : decode cX9_night 193 = .ok (.aload_n 0, 1) := by decide +kernel
theorem dX9_night_194 : decode cX9_night 194 = .ok (.getfield 28, 3) := by decide +kernel
theorem dX9_night_197 : decode cX9_night 197 = .ok (.iconst 3, 1) := by decide +kernel
theorem dX9_night_198 : decode cX9_night 198 = .ok (.iload_n 1, 1) := by decide +kernel
theorem dX9_night_199 : decode cX9_night 199 = .ok (.imul, 1) := by decide +kernel
theorem dX9_night_200 : decode cX9_night 200 = .ok (.iconst 2, 1) := by decide +kernel
theorem dX9_night_201 : decode cX9_night 201 = .ok (.iadd, 1) := by decide +kernel
theorem dX9_night_202 : decode cX9_night 202 = .ok (.iaload, 1) := by decide +kernel
theorem dX9_night_203 : decode cX9_night 203 = .ok (.iastore, 1) := by decide +kernel
theorem dX9_night_204 : decode cX9_night 204 = .ok (.iinc 1 1, 3) := by decide +kernel
theorem dX9_night_207 : decode cX9_night 207 = .ok (.goto (-57), 3) := by decide +kernel
theorem dX9_night_210 : decode cX9_night 210 = .ok (.aload_n 0, 1) := by decide +kernel
theorem dX9_night_211 : decode cX9_night 211 = .ok (.iconst 0, 1) := by decide +kernel
theorem dX9_night_212 : decode cX9_night 212 = .ok (.putfield 116, 3) := by decide +kernel
theorem dX9_night_215 : decode cX9_night 215 = .ok (.aload_n 0, 1) := by decide +kernel
theorem dX9_night_216 : decode cX9_night 216 = .ok (.getfield 43, 3) := by decide +kernel
theorem dX9_night_219 : decode cX9_night 219 = .ok (.iconst 0, 1) := by decide +kernel
theorem dX9_night_220 : decode cX9_night 220 = .ok (.iconst 0, 1) := by decide +kernel
theorem dX9_night_221 : decode cX9_night 221 = .ok (.bastore, 1) := by decide +kernel
theorem dX9_night_222 : decode cX9_night 222 = .ok (.aload_n 0, 1) := by decide +kernel
theorem dX9_night_223 : decode cX9_night 223 = .ok (.getfield 43, 3) := by decide +kernel
theorem dX9_night_226 : decode cX9_night 226 = .ok (.iconst 1, 1) := by decide +kernel
theorem dX9_night_227 : decode cX9_night 227 = .ok (.iconst 0, 1) := by decide +kernel
theorem dX9_night_228 : decode cX9_night 228 = .ok (.bastore, 1) := by decide +kernel
theorem dX9_night_229 : decode cX9_night 229 = .ok (.bipush 10, 2) := by decide +kernel
theorem dX9_night_231 : decode cX9_night 231 = .ok (.aload_n 0, 1) := by decide +kernel
theorem dX9_night_232 : decode cX9_night 232 = .ok (.getfield 66, 3) := by decide +kernel
theorem dX9_night_235 : decode cX9_night 235 = .ok (.imul, 1) := by decide +kernel
theorem dX9_night_236 : decode cX9_night 236 = .ok (.aload_n 0, 1) := by decide +kernel
theorem dX9_night_237 : decode cX9_night 237 = .ok (.getfield 73, 3) := by decide +kernel
theorem dX9_night_240 : decode cX9_night 240 = .ok (.iadd, 1) := by decide +kernel
theorem dX9_night_241 : decode cX9_night 241 = .ok (.ireturn, 1) := by decide +kernel
theorem dX9_isShaded_0 : decode cX9_isShaded 0 = .ok (.iconst 0, 1) := by decide +kernel
theorem dX9_isShaded_1 : decode cX9_isShaded 1 = .ok (.istore 4, 2) := by decide +kernel
theorem dX9_isShaded_3 : decode cX9_isShaded 3 = .ok (.iconst 0, 1) := by decide +kernel
theorem dX9_isShaded_4 : decode cX9_isShaded 4 = .ok (.istore 5, 2) := by decide +kernel
theorem dX9_isShaded_6 : decode cX9_isShaded 6 = .ok (.iload 5, 2) := by decide +kernel
theorem dX9_isShaded_8 : decode cX9_isShaded 8 = .ok (.aload_n 0, 1) := by decide +kernel
theorem dX9_isShaded_9 : decode cX9_isShaded 9 = .ok (.getfield 66, 3) := by decide +kernel
theorem dX9_isShaded_12 : decode cX9_isShaded 12 = .ok (.if_icmp .ge 62, 3) := by decide +kernel
theorem dX9_isShaded_15 : decode cX9_isShaded 15 = .ok (.iload 4, 2) := by decide +kernel
theorem dX9_isShaded_17 : decode cX9_isShaded 17 = .ok (.ifCond .ne 44, 3) := by decide +kernel
theorem dX9_isShaded_20 : decode cX9_isShaded 20 = .ok (.iload_n 2, 1) := by decide +kernel
theorem dX9_isShaded_21 : decode cX9_isShaded 21 = .ok (.iload 5, 2) := by decide +kernel
theorem dX9_isShaded_23 : decode cX9_isShaded 23 = .ok (.invokestatic 119, 3) := by decide +kernel
theorem dX9_isShaded_26 : decode cX9_isShaded 26 = .ok (.ifCond .eq 39, 3) := by decide +kernel
theorem dX9_isShaded_29 : decode cX9_isShaded 29 = .ok (.aload_n 0, 1) := by decide +kernel
theorem dX9_isShaded_30 : decode cX9_isShaded 30 = .ok (.getfield 13, 3) := by decide +kernel
theorem dX9_isShaded_33 : decode cX9_isShaded 33 = .ok (.iload 5, 2) := by decide +kernel
theorem dX9_isShaded_35 : decode cX9_isShaded 35 = .ok (.iaload, 1) := by decide +kernel
theorem dX9_isShaded_36 : decode cX9_isShaded 36 = .ok (.aload_n 0, 1) := by decide +kernel
theorem dX9_isShaded_37 : decode cX9_isShaded 37 = .ok (.getfield 13, 3) := by decide +kernel
theorem dX9_isShaded_40 : decode cX9_isShaded 40 = .ok (.iload_n 3, 1) := by decide +kernel
theorem dX9_isShaded_41 : decode cX9_isShaded 41 = .ok (.iaload, 1) := by decide +kernel
theorem dX9_isShaded_42 : decode cX9_isShaded 42 = .ok (.invokestatic 123, 3) := by decide +kernel
theorem dX9_isShaded_45 : decode cX9_isShaded 45 = .ok (.iconst 1, 1) := by decide +kernel
theorem dX9_isShaded_46 : decode cX9_isShaded 46 = .ok (.if_icmp .ne 19, 3) := by decide +kernel
theorem dX9_isShaded_49 : decode cX9_isShaded 49 = .ok (.aload_n 1, 1) := by decide +kernel
theorem dX9_isShaded_50 : decode cX9_isShaded 50 = .ok (.iload 5, 2) := by decide +kernel
theorem dX9_isShaded_52 : decode cX9_isShaded 52 = .ok (.iaload, 1) := by decide +kernel
theorem dX9_isShaded_53 : decode cX9_isShaded 53 = .ok (.aload_n 1, 1) := by decide +kernel
theorem dX9_isShaded_54 : decode cX9_isShaded 54 = .ok (.iload_n 3, 1) := by decide +kernel
theorem dX9_isShaded_55 : decode cX9_isShaded 55 = .ok (.iaload, 1) := by decide +kernel
theorem dX9_isShaded_56 : decode cX9_isShaded 56 = .ok (.iconst 3, 1) := by decide +kernel
theorem dX9_isShaded_57 : decode cX9_isShaded 57 = .ok (.iadd, 1) := by decide +kernel
theorem dX9_isShaded_58 : decode cX9_isShaded 58 = .ok (.if_icmp .le 7, 3) := by decide +kernel
theorem dX9_isShaded_61 : decode cX9_isShaded 61 = .ok (.iconst 1, 1) := by decide +kernel
theorem dX9_isShaded_62 : decode cX9_isShaded 62 = .ok (.goto 4, 3) := by decide +kernel
theorem dX9_isShaded_65 : decode cX9_isShaded 65 = .ok (.iconst 0, 1) := by decide +kernel
theorem dX9_isShaded_66 : decode cX9_isShaded 66 = .ok (.istore 4, 2) := by decide +kernel
theorem dX9_isShaded_68 : decode cX9_isShaded 68 = .ok (.iinc 5 1, 3) := by decide +kernel
theorem dX9_isShaded_71 : decode cX9_isShaded 71 = .ok (.goto (-65), 3) := by decide +kernel
theorem dX9_isShaded_74 : decode cX9_isShaded 74 = .ok (.iload 4, 2) := by decide +kernel
theorem dX9_isShaded_76 : decode cX9_isShaded 76 = .ok (.ireturn, 1) := by decide +kernel
theorem dX9_doesSee_0 : decode cX9_doesSee 0 = .ok (.iload_n 2, 1) := by decide +kernel
theorem dX9_doesSee_1 : decode cX9_doesSee 1 = .ok (.iload_n 3, 1) := by decide +kernel
theorem dX9_doesSee_2 : decode cX9_doesSee 2 = .ok (.invokestatic 119, 3) := by decide +kernel
theorem dX9_doesSee_5 : decode cX9_doesSee 5 = .ok (.ifCond .eq 36, 3) := by decide +kernel
theorem dX9_doesSee_8 : decode cX9_doesSee 8 = .ok (.aload_n 0, 1) := by decide +kernel
theorem dX9_doesSee_9 : decode cX9_doesSee 9 = .ok (.getfield 13, 3) := by decide +kernel
theorem dX9_doesSee_12 : decode cX9_doesSee 12 = .ok (.iload_n 3, 1) := by decide +kernel
theorem dX9_doesSee_13 : decode cX9_doesSee 13 = .ok (.iaload, 1) := by decide +kernel
theorem dX9_doesSee_14 : decode cX9_doesSee 14 = .ok (.iload 4, 2) := by decide +kernel
theorem dX9_doesSee_16 : decode cX9_doesSee 16 = .ok (.invokestatic 123, 3) := by decide +kernel
theorem dX9_doesSee_19 : decode cX9_doesSee 19 = .ok (.aload_n 1, 1) := by decide +kernel
theorem dX9_doesSee_20 : decode cX9_doesSee 20 = .ok (.iload_n 3, 1) := by decide +kernel
theorem dX9_doesSee_21 : decode cX9_doesSee 21 = .ok (.iaload, 1) := by decide +kernel
theorem dX9_doesSee_22 : decode cX9_doesSee 22 = .ok (.iconst 4, 1) := by decide +kernel
theorem dX9_doesSee_23 : decode cX9_doesSee 23 = .ok (.idiv, 1) := by decide +kernel
theorem dX9_doesSee_24 : decode cX9_doesSee 24 = .ok (.if_icmp .gt 17, 3) := by decide +kernel
theorem dX9_doesSee_27 : decode cX9_doesSee 27 = .ok (.aload_n 0, 1) := by decide +kernel
theorem dX9_doesSee_28 : decode cX9_doesSee 28 = .ok (.aload_n 1, 1) := by decide +kernel
theorem dX9_doesSee_29 : decode cX9_doesSee 29 = .ok (.iload_n 2, 1) := by decide +kernel
theorem dX9_doesSee_30 : decode cX9_doesSee 30 = .ok (.iload_n 3, 1) := by decide +kernel
theorem dX9_doesSee_31 : decode cX9_doesSee 31 = .ok (.invokevirtual 126, 3) := by decide +kernel
theorem dX9_doesSee_34 : decode cX9_doesSee 34 = .ok (.ifCond .ne 7, 3) := by decide +kernel
theorem dX9_doesSee_37 : decode cX9_doesSee 37 = .ok (.iconst 1, 1) := by decide +kernel
theorem dX9_doesSee_38 : decode cX9_doesSee 38 = .ok (.goto 4, 3) := by decide +kernel
theorem dX9_doesSee_41 : decode cX9_doesSee 41 = .ok (.iconst 0, 1) := by decide +kernel
theorem dX9_doesSee_42 : decode cX9_doesSee 42 = .ok (.ireturn, 1) := by decide +kernel
theorem dX9_over_0 : decode cX9_over 0 = .ok (.aload_n 0, 1) := by decide +kernel
theorem dX9_over_1 : decode cX9_over 1 = .ok (.getfield 16, 3) := by decide +kernel
theorem dX9_over_4 : decode cX9_over 4 = .ok (.iload_n 1, 1) := by decide +kernel
theorem dX9_over_5 : decode cX9_over 5 = .ok (.iaload, 1) := by decide +kernel
theorem dX9_over_6 : decode cX9_over 6 = .ok (.aload_n 0, 1) := by decide +kernel
theorem dX9_over_7 : decode cX9_over 7 = .ok (.getfield 19, 3) := by decide +kernel
theorem dX9_over_10 : decode cX9_over 10 = .ok (.iload_n 1, 1) := by decide +kernel
theorem dX9_over_11 : decode cX9_over 11 = .ok (.iaload, 1) := by decide +kernel
theorem dX9_over_12 : decode cX9_over 12 = .ok (.iload_n 2, 1) := by decide +kernel
theorem dX9_over_13 : decode cX9_over 13 = .ok (.imul, 1) := by decide +kernel
theorem dX9_over_14 : decode cX9_over 14 = .ok (.iadd, 1) := by decide +kernel
theorem dX9_over_15 : decode cX9_over 15 = .ok (.bipush 10, 2) := by decide +kernel
theorem dX9_over_17 : decode cX9_over 17 = .ok (.irem, 1) := by decide +kernel
theorem dX9_over_18 : decode cX9_over 18 = .ok (.ireturn, 1) := by decide +kernel
theorem dX9_holder_0 : decode cX9_holder 0 = .ok (.aload_n 0, 1) := by decide +kernel
theorem dX9_holder_1 : decode cX9_holder 1 = .ok (.iload_n 3, 1) := by decide +kernel
theorem dX9_holder_2 : decode cX9_holder 2 = .ok (.iload 4, 2) := by decide +kernel
theorem dX9_holder_4 : decode cX9_holder 4 = .ok (.invokevirtual 130, 3) := by decide +kernel
theorem dX9_holder_7 : decode cX9_holder 7 = .ok (.istore 6, 2) := by decide +kernel
theorem dX9_holder_9 : decode cX9_holder 9 = .ok (.bipush (-9), 2) := by decide +kernel
theorem dX9_holder_11 : decode cX9_holder 11 = .ok (.istore 7, 2) := by decide +kernel
theorem dX9_holder_13 : decode cX9_holder 13 = .ok (.iconst 0, 1) := by decide +kernel
theorem dX9_holder_14 : decode cX9_holder 14 = .ok (.istore 8, 2) := by decide +kernel
theorem dX9_holder_16 : decode cX9_holder 16 = .ok (.iconst 0, 1) := by decide +kernel
theorem dX9_holder_17 : decode cX9_holder 17 = .ok (.istore 9, 2) := by decide +kernel
theorem dX9_holder_19 : decode cX9_holder 19 = .ok (.iload 9, 2) := by decide +kernel
theorem dX9_holder_21 : decode cX9_holder 21 = .ok (.aload_n 0, 1) := by decide +kernel
theorem dX9_holder_22 : decode cX9_holder 22 = .ok (.getfield 66, 3) := by decide +kernel
theorem dX9_holder_25 : decode cX9_holder 25 = .ok (.if_icmp .ge 94, 3) := by decide +kernel
theorem dX9_holder_28 : decode cX9_holder 28 = .ok (.aload_n 0, 1) := by decide +kernel
theorem dX9_holder_29 : decode cX9_holder 29 = .ok (.aload_n 1, 1) := by decide +kernel
theorem dX9_holder_30 : decode cX9_holder 30 = .ok (.iload_n 2, 1) := by decide +kernel
theorem dX9_holder_31 : decode cX9_holder 31 = .ok (.iload 9, 2) := by decide +kernel
theorem dX9_holder_33 : decode cX9_holder 33 = .ok (.iload 6, 2) := by decide +kernel
theorem dX9_holder_35 : decode cX9_holder 35 = .ok (.invokevirtual 133, 3) := by decide +kernel
theorem dX9_holder_38 : decode cX9_holder 38 = .ok (.ifCond .eq 75, 3) := by decide +kernel
theorem dX9_holder_41 : decode cX9_holder 41 = .ok (.iload 5, 2) := by decide +kernel
theorem dX9_holder_43 : decode cX9_holder 43 = .ok (.ifCond .ne 18, 3) := by decide +kernel
theorem dX9_holder_46 : decode cX9_holder 46 = .ok (.aload_n 0, 1) := by decide +kernel
theorem dX9_holder_47 : decode cX9_holder 47 = .ok (.getfield 13, 3) := by decide +kernel
theorem dX9_holder_50 : decode cX9_holder 50 = .ok (.iload 9, 2) := by decide +kernel
theorem dX9_holder_52 : decode cX9_holder 52 = .ok (.iaload, 1) := by decide +kernel
theorem dX9_holder_53 : decode cX9_holder 53 = .ok (.iload 6, 2) := by decide +kernel
theorem dX9_holder_55 : decode cX9_holder 55 = .ok (.invokestatic 123, 3) := by decide +kernel
theorem dX9_holder_58 : decode cX9_holder 58 = .ok (.goto 23, 3) := by decide +kernel
theorem dX9_holder_61 : decode cX9_holder 61 = .ok (.iload 5, 2) := by decide +kernel
theorem dX9_holder_63 : decode cX9_holder 63 = .ok (.iconst 1, 1) := by decide +kernel
theorem dX9_holder_64 : decode cX9_holder 64 = .ok (.if_icmp .ne 13, 3) := by decide +kernel
theorem dX9_holder_67 : decode cX9_holder 67 = .ok (.bipush 9, 2) := by decide +kernel
theorem dX9_holder_69 : decode cX9_holder 69 = .ok (.aload_n 1, 1) := by decide +kernel
theorem dX9_holder_70 : decode cX9_holder 70 = .ok (.iload 9, 2) := by decide +kernel
theorem dX9_holder_72 : decode cX9_holder 72 = .ok (.iaload, 1) := by decide +kernel
theorem dX9_holder_73 : decode cX9_holder 73 = .ok (.isub, 1) := by decide +kernel
theorem dX9_holder_74 : decode cX9_holder 74 = .ok (.goto 7, 3) := by decide +kernel
theorem dX9_holder_77 : decode cX9_holder 77 = .ok (.aload_n 1, 1) := by decide +kernel
theorem dX9_holder_78 : decode cX9_holder 78 = .ok (.iload 9, 2) := by decide +kernel
theorem dX9_holder_80 : decode cX9_holder 80 = .ok (.iaload, 1) := by decide +kernel
theorem dX9_holder_81 : decode cX9_holder 81 = .ok (.bipush 10, 2) := by decide +kernel
theorem dX9_holder_83 : decode cX9_holder 83 = .ok (.imul, 1) := by decide +kernel
theorem dX9_holder_84 : decode cX9_holder 84 = .ok (.aload_n 1, 1) := by decide +kernel
theorem dX9_holder_85 : decode cX9_holder 85 = .ok (.iload 9, 2) := by decide +kernel
theorem dX9_holder_87 : decode cX9_holder 87 = .ok (.iaload, 1) := by decide +kernel
theorem dX9_holder_88 : decode cX9_holder 88 = .ok (.iadd, 1) := by decide +kernel
theorem dX9_holder_89 : decode cX9_holder 89 = .ok (.istore 10, 2) := by decide +kernel
theorem dX9_holder_91 : decode cX9_holder 91 = .ok (.iload 7, 2) := by decide +kernel
theorem dX9_holder_93 : decode cX9_holder 93 = .ok (.bipush (-9), 2) := by decide +kernel
theorem dX9_holder_95 : decode cX9_holder 95 = .ok (.if_icmp .eq 10, 3) := by decide +kernel
theorem dX9_holder_98 : decode cX9_holder 98 = .ok (.iload 10, 2) := by decide +kernel
theorem dX9_holder_100 : decode cX9_holder 100 = .ok (.iload 8, 2) := by decide +kernel
theorem dX9_holder_102 : decode cX9_holder 102 = .ok (.if_icmp .ge 11, 3) := by decide +kernel
theorem dX9_holder_105 : decode cX9_holder 105 = .ok (.iload 9, 2) := by decide +kernel
theorem dX9_holder_107 : decode cX9_holder 107 = .ok (.istore 7, 2) := by decide +kernel
theorem dX9_holder_109 : decode cX9_holder 109 = .ok (.iload 10, 2) := by decide +kernel
theorem dX9_holder_111 : decode cX9_holder 111 = .ok (.istore 8, 2) := by decide +kernel
theorem dX9_holder_113 : decode cX9_holder 113 = .ok (.iinc 9 1, 3) := by decide +kernel
theorem dX9_holder_116 : decode cX9_holder 116 = .ok (.goto (-97), 3) := by decide +kernel
theorem dX9_holder_119 : decode cX9_holder 119 = .ok (.iload 7, 2) := by decide +kernel
theorem dX9_holder_121 : decode cX9_holder 121 = .ok (.ireturn, 1) := by decide +kernel
theorem dX9_pays_0 : decode cX9_pays 0 = .ok (.aload_n 0, 1) := by decide +kernel
theorem dX9_pays_1 : decode cX9_pays 1 = .ok (.getfield 22, 3) := by decide +kernel
theorem dX9_pays_4 : decode cX9_pays 4 = .ok (.iload_n 1, 1) := by decide +kernel
theorem dX9_pays_5 : decode cX9_pays 5 = .ok (.iaload, 1) := by decide +kernel
theorem dX9_pays_6 : decode cX9_pays 6 = .ok (.istore 5, 2) := by decide +kernel
theorem dX9_pays_8 : decode cX9_pays 8 = .ok (.iconst 0, 1) := by decide +kernel
theorem dX9_pays_9 : decode cX9_pays 9 = .ok (.istore 6, 2) := by decide +kernel
theorem dX9_pays_11 : decode cX9_pays 11 = .ok (.iload 6, 2) := by decide +kernel
theorem dX9_pays_13 : decode cX9_pays 13 = .ok (.aload_n 0, 1) := by decide +kernel
theorem dX9_pays_14 : decode cX9_pays 14 = .ok (.getfield 66, 3) := by decide +kernel
theorem dX9_pays_17 : decode cX9_pays 17 = .ok (.if_icmp .ge 51, 3) := by decide +kernel
theorem dX9_pays_20 : decode cX9_pays 20 = .ok (.iload 5, 2) := by decide +kernel
theorem dX9_pays_22 : decode cX9_pays 22 = .ok (.iload_n 2, 1) := by decide +kernel
theorem dX9_pays_23 : decode cX9_pays 23 = .ok (.iload_n 3, 1) := by decide +kernel
theorem dX9_pays_24 : decode cX9_pays 24 = .ok (.iand, 1) := by decide +kernel
theorem dX9_pays_25 : decode cX9_pays 25 = .ok (.iload 6, 2) := by decide +kernel
theorem dX9_pays_27 : decode cX9_pays 27 = .ok (.invokestatic 119, 3) := by decide +kernel
theorem dX9_pays_30 : decode cX9_pays 30 = .ok (.ifCond .eq 28, 3) := by decide +kernel
theorem dX9_pays_33 : decode cX9_pays 33 = .ok (.aload_n 0, 1) := by decide +kernel
theorem dX9_pays_34 : decode cX9_pays 34 = .ok (.getfield 13, 3) := by decide +kernel
theorem dX9_pays_37 : decode cX9_pays 37 = .ok (.iload 6, 2) := by decide +kernel
theorem dX9_pays_39 : decode cX9_pays 39 = .ok (.iaload, 1) := by decide +kernel
theorem dX9_pays_40 : decode cX9_pays 40 = .ok (.aload_n 0, 1) := by decide +kernel
theorem dX9_pays_41 : decode cX9_pays 41 = .ok (.getfield 13, 3) := by decide +kernel
theorem dX9_pays_44 : decode cX9_pays 44 = .ok (.iload 4, 2) := by decide +kernel
theorem dX9_pays_46 : decode cX9_pays 46 = .ok (.iaload, 1) := by decide +kernel
theorem dX9_pays_47 : decode cX9_pays 47 = .ok (.invokestatic 123, 3) := by decide +kernel
theorem dX9_pays_50 : decode cX9_pays 50 = .ok (.iconst 1, 1) := by decide +kernel
theorem dX9_pays_51 : decode cX9_pays 51 = .ok (.if_icmp .gt 7, 3) := by decide +kernel
theorem dX9_pays_54 : decode cX9_pays 54 = .ok (.iconst 1, 1) := by decide +kernel
theorem dX9_pays_55 : decode cX9_pays 55 = .ok (.goto 4, 3) := by decide +kernel
theorem dX9_pays_58 : decode cX9_pays 58 = .ok (.iconst 0, 1) := by decide +kernel
theorem dX9_pays_59 : decode cX9_pays 59 = .ok (.isub, 1) := by decide +kernel
theorem dX9_pays_60 : decode cX9_pays 60 = .ok (.istore 5, 2) := by decide +kernel
theorem dX9_pays_62 : decode cX9_pays 62 = .ok (.iinc 6 1, 3) := by decide +kernel
theorem dX9_pays_65 : decode cX9_pays 65 = .ok (.goto (-54), 3) := by decide +kernel
theorem dX9_pays_68 : decode cX9_pays 68 = .ok (.iload 5, 2) := by decide +kernel
theorem dX9_pays_70 : decode cX9_pays 70 = .ok (.ifCond .ge 7, 3) := by decide +kernel
theorem dX9_pays_73 : decode cX9_pays 73 = .ok (.iconst 0, 1) := by decide +kernel
theorem dX9_pays_74 : decode cX9_pays 74 = .ok (.goto 5, 3) := by decide +kernel
theorem dX9_pays_77 : decode cX9_pays 77 = .ok (.iload 5, 2) := by decide +kernel
theorem dX9_pays_79 : decode cX9_pays 79 = .ok (.ireturn, 1) := by decide +kernel
theorem dX9_rentsOf_0 : decode cX9_rentsOf 0 = .ok (.iconst 0, 1) := by decide +kernel
theorem dX9_rentsOf_1 : decode cX9_rentsOf 1 = .ok (.istore 7, 2) := by decide +kernel
theorem dX9_rentsOf_3 : decode cX9_rentsOf 3 = .ok (.iload_n 3, 1) := by decide +kernel
theorem dX9_rentsOf_4 : decode cX9_rentsOf 4 = .ok (.istore 8, 2) := by decide +kernel
theorem dX9_rentsOf_6 : decode cX9_rentsOf 6 = .ok (.iload 8, 2) := by decide +kernel
theorem dX9_rentsOf_8 : decode cX9_rentsOf 8 = .ok (.iload_n 3, 1) := by decide +kernel
theorem dX9_rentsOf_9 : decode cX9_rentsOf 9 = .ok (.iload 4, 2) := by decide +kernel
theorem dX9_rentsOf_11 : decode cX9_rentsOf 11 = .ok (.iadd, 1) := by decide +kernel
theorem dX9_rentsOf_12 : decode cX9_rentsOf 12 = .ok (.if_icmp .ge 90, 3) := by decide +kernel
theorem dX9_rentsOf_15 : decode cX9_rentsOf 15 = .ok (.aload_n 1, 1) := by decide +kernel
theorem dX9_rentsOf_16 : decode cX9_rentsOf 16 = .ok (.bipush 11, 2) := by decide +kernel
theorem dX9_rentsOf_18 : decode cX9_rentsOf 18 = .ok (.iaload, 1) := by decide +kernel
theorem dX9_rentsOf_19 : decode cX9_rentsOf 19 = .ok (.ifCond .ne 83, 3) := by decide +kernel
theorem dX9_rentsOf_22 : decode cX9_rentsOf 22 = .ok (.iconst 0, 1) := by decide +kernel
theorem dX9_rentsOf_23 : decode cX9_rentsOf 23 = .ok (.istore 9, 2) := by decide +kernel
theorem dX9_rentsOf_25 : decode cX9_rentsOf 25 = .ok (.iload 9, 2) := by decide +kernel
theorem dX9_rentsOf_27 : decode cX9_rentsOf 27 = .ok (.aload_n 0, 1) := by decide +kernel
theorem dX9_rentsOf_28 : decode cX9_rentsOf 28 = .ok (.getfield 73, 3) := by decide +kernel
theorem dX9_rentsOf_31 : decode cX9_rentsOf 31 = .ok (.if_icmp .ge 65, 3) := by decide +kernel
theorem dX9_rentsOf_34 : decode cX9_rentsOf 34 = .ok (.aload_n 0, 1) := by decide +kernel
theorem dX9_rentsOf_35 : decode cX9_rentsOf 35 = .ok (.aload_n 1, 1) := by decide +kernel
theorem dX9_rentsOf_36 : decode cX9_rentsOf 36 = .ok (.iload_n 2, 1) := by decide +kernel
theorem dX9_rentsOf_37 : decode cX9_rentsOf 37 = .ok (.iload 9, 2) := by decide +kernel
theorem dX9_rentsOf_39 : decode cX9_rentsOf 39 = .ok (.iload 8, 2) := by decide +kernel
theorem dX9_rentsOf_41 : decode cX9_rentsOf 41 = .ok (.iload 6, 2) := by decide +kernel
theorem dX9_rentsOf_43 : decode cX9_rentsOf 43 = .ok (.invokevirtual 137, 3) := by decide +kernel
theorem dX9_rentsOf_46 : decode cX9_rentsOf 46 = .ok (.istore 10, 2) := by decide +kernel
theorem dX9_rentsOf_48 : decode cX9_rentsOf 48 = .ok (.iload 10, 2) := by decide +kernel
theorem dX9_rentsOf_50 : decode cX9_rentsOf 50 = .ok (.bipush (-9), 2) := by decide +kernel
theorem dX9_rentsOf_52 : decode cX9_rentsOf 52 = .ok (.if_icmp .eq 38, 3) := by decide +kernel
theorem dX9_rentsOf_55 : decode cX9_rentsOf 55 = .ok (.iload 5, 2) := by decide +kernel
theorem dX9_rentsOf_57 : decode cX9_rentsOf 57 = .ok (.iconst 4, 1) := by decide +kernel
theorem dX9_rentsOf_58 : decode cX9_rentsOf 58 = .ok (.if_icmp .eq 15, 3) := by decide +kernel
theorem dX9_rentsOf_61 : decode cX9_rentsOf 61 = .ok (.aload_n 1, 1) := by decide +kernel
theorem dX9_rentsOf_62 : decode cX9_rentsOf 62 = .ok (.bipush 6, 2) := by decide +kernel
theorem dX9_rentsOf_64 : decode cX9_rentsOf 64 = .ok (.iload 10, 2) := by decide +kernel
theorem dX9_rentsOf_66 : decode cX9_rentsOf 66 = .ok (.iadd, 1) := by decide +kernel
theorem dX9_rentsOf_67 : decode cX9_rentsOf 67 = .ok (.iaload, 1) := by decide +kernel
theorem dX9_rentsOf_68 : decode cX9_rentsOf 68 = .ok (.iload 5, 2) := by decide +kernel
theorem dX9_rentsOf_70 : decode cX9_rentsOf 70 = .ok (.if_icmp .ne 20, 3) := by decide +kernel
theorem dX9_rentsOf_73 : decode cX9_rentsOf 73 = .ok (.iload 7, 2) := by decide +kernel
theorem dX9_rentsOf_75 : decode cX9_rentsOf 75 = .ok (.aload_n 0, 1) := by decide +kernel
theorem dX9_rentsOf_76 : decode cX9_rentsOf 76 = .ok (.iload 9, 2) := by decide +kernel
theorem dX9_rentsOf_78 : decode cX9_rentsOf 78 = .ok (.iload_n 2, 1) := by decide +kernel
theorem dX9_rentsOf_79 : decode cX9_rentsOf 79 = .ok (.aload_n 1, 1) := by decide +kernel
theorem dX9_rentsOf_80 : decode cX9_rentsOf 80 = .ok (.iconst 5, 1) := by decide +kernel
theorem dX9_rentsOf_81 : decode cX9_rentsOf 81 = .ok (.iaload, 1) := by decide +kernel
theorem dX9_rentsOf_82 : decode cX9_rentsOf 82 = .ok (.iload 10, 2) := by decide +kernel
theorem dX9_rentsOf_84 : decode cX9_rentsOf 84 = .ok (.invokevirtual 141, 3) := by decide +kernel
theorem dX9_rentsOf_87 : decode cX9_rentsOf 87 = .ok (.iadd, 1) := by decide +kernel
theorem dX9_rentsOf_88 : decode cX9_rentsOf 88 = .ok (.istore 7, 2) := by decide +kernel
theorem dX9_rentsOf_90 : decode cX9_rentsOf 90 = .ok (.iinc 9 1, 3) := by decide +kernel
theorem dX9_rentsOf_93 : decode cX9_rentsOf 93 = .ok (.goto (-68), 3) := by decide +kernel
theorem dX9_rentsOf_96 : decode cX9_rentsOf 96 = .ok (.iinc 8 1, 3) := by decide +kernel
theorem dX9_rentsOf_99 : decode cX9_rentsOf 99 = .ok (.goto (-93), 3) := by decide +kernel
theorem dX9_rentsOf_102 : decode cX9_rentsOf 102 = .ok (.iload 7, 2) := by decide +kernel
theorem dX9_rentsOf_104 : decode cX9_rentsOf 104 = .ok (.ireturn, 1) := by decide +kernel
theorem dX9_about_0 : decode cX9_about 0 = .ok (.aload_n 0, 1) := by decide +kernel
theorem dX9_about_1 : decode cX9_about 1 = .ok (.iconst 0, 1) := by decide +kernel
theorem dX9_about_2 : decode cX9_about 2 = .ok (.putfield 62, 3) := by decide +kernel
theorem dX9_about_5 : decode cX9_about 5 = .ok (.iconst 0, 1) := by decide +kernel
theorem dX9_about_6 : decode cX9_about 6 = .ok (.istore_n 2, 1) := by decide +kernel
theorem dX9_about_7 : decode cX9_about 7 = .ok (.iconst 0, 1) := by decide +kernel
theorem dX9_about_8 : decode cX9_about 8 = .ok (.istore_n 3, 1) := by decide +kernel
theorem dX9_about_9 : decode cX9_about 9 = .ok (.iload_n 3, 1) := by decide +kernel
theorem dX9_about_10 : decode cX9_about 10 = .ok (.aload_n 0, 1) := by decide +kernel
theorem dX9_about_11 : decode cX9_about 11 = .ok (.getfield 66, 3) := by decide +kernel
theorem dX9_about_14 : decode cX9_about 14 = .ok (.if_icmp .ge 35, 3) := by decide +kernel
theorem dX9_about_17 : decode cX9_about 17 = .ok (.iload_n 2, 1) := by decide +kernel
theorem dX9_about_18 : decode cX9_about 18 = .ok (.aload_n 0, 1) := by decide +kernel
theorem dX9_about_19 : decode cX9_about 19 = .ok (.aload_n 0, 1) := by decide +kernel
theorem dX9_about_20 : decode cX9_about 20 = .ok (.getfield 31, 3) := by decide +kernel
theorem dX9_about_23 : decode cX9_about 23 = .ok (.aload_n 0, 1) := by decide +kernel
theorem dX9_about_24 : decode cX9_about 24 = .ok (.invokevirtual 145, 3) := by decide +kernel
theorem dX9_about_27 : decode cX9_about 27 = .ok (.iload_n 3, 1) := by decide +kernel
theorem dX9_about_28 : decode cX9_about 28 = .ok (.invokevirtual 126, 3) := by decide +kernel
theorem dX9_about_31 : decode cX9_about 31 = .ok (.ifCond .eq 9, 3) := by decide +kernel
theorem dX9_about_34 : decode cX9_about 34 = .ok (.iconst 1, 1) := by decide +kernel
theorem dX9_about_35 : decode cX9_about 35 = .ok (.iload_n 3, 1) := by decide +kernel
theorem dX9_about_36 : decode cX9_about 36 = .ok (.ishl, 1) := by decide +kernel
theorem dX9_about_37 : decode cX9_about 37 = .ok (.goto 4, 3) := by decide +kernel
theorem dX9_about_40 : decode cX9_about 40 = .ok (.iconst 0, 1) := by decide +kernel
theorem dX9_about_41 : decode cX9_about 41 = .ok (.ior, 1) := by decide +kernel
theorem dX9_about_42 : decode cX9_about 42 = .ok (.istore_n 2, 1) := by decide +kernel
theorem dX9_about_43 : decode cX9_about 43 = .ok (.iinc 3 1, 3) := by decide +kernel
theorem dX9_about_46 : decode cX9_about 46 = .ok (.goto (-37), 3) := by decide +kernel
theorem dX9_about_49 : decode cX9_about 49 = .ok (.iload_n 1, 1) := by decide +kernel
theorem dX9_about_50 : decode cX9_about 50 = .ok (.tableswitch 109 0 9 #[54, 59, 64, 69, 77, 85, 92, 94, 99, 104], 54) := by decide +kernel
theorem dX9_about_104 : decode cX9_about 104 = .ok (.aload_n 0, 1) := by decide +kernel
theorem dX9_about_105 : decode cX9_about 105 = .ok (.getfield 66, 3) := by decide +kernel
theorem dX9_about_108 : decode cX9_about 108 = .ok (.ireturn, 1) := by decide +kernel
theorem dX9_about_109 : decode cX9_about 109 = .ok (.aload_n 0, 1) := by decide +kernel
theorem dX9_about_110 : decode cX9_about 110 = .ok (.getfield 73, 3) := by decide +kernel
theorem dX9_about_113 : decode cX9_about 113 = .ok (.ireturn, 1) := by decide +kernel
theorem dX9_about_114 : decode cX9_about 114 = .ok (.aload_n 0, 1) := by decide +kernel
theorem dX9_about_115 : decode cX9_about 115 = .ok (.getfield 113, 3) := by decide +kernel
theorem dX9_about_118 : decode cX9_about 118 = .ok (.ireturn, 1) := by decide +kernel
theorem dX9_about_119 : decode cX9_about 119 = .ok (.aload_n 0, 1) := by decide +kernel
theorem dX9_about_120 : decode cX9_about 120 = .ok (.getfield 31, 3) := by decide +kernel
theorem dX9_about_123 : decode cX9_about 123 = .ok (.bipush 16, 2) := by decide +kernel
theorem dX9_about_125 : decode cX9_about 125 = .ok (.iaload, 1) := by decide +kernel
theorem dX9_about_126 : decode cX9_about 126 = .ok (.ireturn, 1) := by decide +kernel
theorem dX9_about_127 : decode cX9_about 127 = .ok (.aload_n 0, 1) := by decide +kernel
theorem dX9_about_128 : decode cX9_about 128 = .ok (.getfield 31, 3) := by decide +kernel
theorem dX9_about_131 : decode cX9_about 131 = .ok (.bipush 11, 2) := by decide +kernel
theorem dX9_about_133 : decode cX9_about 133 = .ok (.iaload, 1) := by decide +kernel
theorem dX9_about_134 : decode cX9_about 134 = .ok (.ireturn, 1) := by decide +kernel
theorem dX9_about_135 : decode cX9_about 135 = .ok (.aload_n 0, 1) := by decide +kernel
theorem dX9_about_136 : decode cX9_about 136 = .ok (.getfield 31, 3) := by decide +kernel
theorem dX9_about_139 : decode cX9_about 139 = .ok (.iconst 5, 1) := by decide +kernel
theorem dX9_about_140 : decode cX9_about 140 = .ok (.iaload, 1) := by decide +kernel
theorem dX9_about_141 : decode cX9_about 141 = .ok (.ireturn, 1) := by decide +kernel
theorem dX9_about_142 : decode cX9_about 142 = .ok (.iload_n 2, 1) := by decide +kernel
theorem dX9_about_143 : decode cX9_about 143 = .ok (.ireturn, 1) := by decide +kernel
theorem dX9_about_144 : decode cX9_about 144 = .ok (.aload_n 0, 1) := by decide +kernel
theorem dX9_about_145 : decode cX9_about 145 = .ok (.getfield 116, 3) := by decide +kernel
theorem dX9_about_148 : decode cX9_about 148 = .ok (.ireturn, 1) := by decide +kernel
theorem dX9_about_149 : decode cX9_about 149 = .ok (.aload_n 0, 1) := by decide +kernel
theorem dX9_about_150 : decode cX9_about 150 = .ok (.getfield 148, 3) := by decide +kernel
theorem dX9_about_153 : decode cX9_about 153 = .ok (.ireturn, 1) := by decide +kernel
theorem dX9_about_154 : decode cX9_about 154 = .ok (.aload_n 0, 1) := by decide +kernel
theorem dX9_about_155 : decode cX9_about 155 = .ok (.getfield 78, 3) := by decide +kernel
theorem dX9_about_158 : decode cX9_about 158 = .ok (.ireturn, 1) := by decide +kernel
theorem dX9_about_159 : decode cX9_about 159 = .ok (.bipush (-2), 2) := by decide +kernel
theorem dX9_about_161 : decode cX9_about 161 = .ok (.ireturn, 1) := by decide +kernel
theorem dX9_roof_0 : decode cX9_roof 0 = .ok (.aload_n 0, 1) := by decide +kernel
theorem dX9_roof_1 : decode cX9_roof 1 = .ok (.iconst 0, 1) := by decide +kernel
theorem dX9_roof_2 : decode cX9_roof 2 = .ok (.putfield 62, 3) := by decide +kernel
theorem dX9_roof_5 : decode cX9_roof 5 = .ok (.aload_n 0, 1) := by decide +kernel
theorem dX9_roof_6 : decode cX9_roof 6 = .ok (.iload_n 1, 1) := by decide +kernel
theorem dX9_roof_7 : decode cX9_roof 7 = .ok (.invokevirtual 151, 3) := by decide +kernel
theorem dX9_roof_10 : decode cX9_roof 10 = .ok (.ifCond .eq 5, 3) := by decide +kernel
theorem dX9_roof_13 : decode cX9_roof 13 = .ok (.iconst (-1), 1) := by decide +kernel
theorem dX9_roof_14 : decode cX9_roof 14 = .ok (.ireturn, 1) := by decide +kernel
theorem dX9_roof_15 : decode cX9_roof 15 = .ok (.iconst 0, 1) := by decide +kernel
theorem dX9_roof_16 : decode cX9_roof 16 = .ok (.istore_n 3, 1) := by decide +kernel
theorem dX9_roof_17 : decode cX9_roof 17 = .ok (.iload_n 2, 1) := by decide +kernel
theorem dX9_roof_18 : decode cX9_roof 18 = .ok (.tableswitch 165 0 4 #[34, 41, 48, 58, 105], 34) := by decide +kernel
theorem dX9_roof_52 : decode cX9_roof 52 = .ok (.aload_n 0, 1) := by decide +kernel
theorem dX9_roof_53 : decode cX9_roof 53 = .ok (.getfield 13, 3) := by decide +kernel
theorem dX9_roof_56 : decode cX9_roof 56 = .ok (.iload_n 1, 1) := by decide +kernel
theorem dX9_roof_57 : decode cX9_roof 57 = .ok (.iaload, 1) := by decide +kernel
theorem dX9_roof_58 : decode cX9_roof 58 = .ok (.ireturn, 1) := by decide +kernel
theorem dX9_roof_59 : decode cX9_roof 59 = .ok (.aload_n 0, 1) := by decide +kernel
theorem dX9_roof_60 : decode cX9_roof 60 = .ok (.getfield 31, 3) := by decide +kernel
theorem dX9_roof_63 : decode cX9_roof 63 = .ok (.iload_n 1, 1) := by decide +kernel
theorem dX9_roof_64 : decode cX9_roof 64 = .ok (.iaload, 1) := by decide +kernel
theorem dX9_roof_65 : decode cX9_roof 65 = .ok (.ireturn, 1) := by decide +kernel
theorem dX9_roof_66 : decode cX9_roof 66 = .ok (.aload_n 0, 1) := by decide +kernel
theorem dX9_roof_67 : decode cX9_roof 67 = .ok (.getfield 31, 3) := by decide +kernel
theorem dX9_roof_70 : decode cX9_roof 70 = .ok (.bipush 6, 2) := by decide +kernel
theorem dX9_roof_72 : decode cX9_roof 72 = .ok (.iload_n 1, 1) := by decide +kernel
theorem dX9_roof_73 : decode cX9_roof 73 = .ok (.iadd, 1) := by decide +kernel
theorem dX9_roof_74 : decode cX9_roof 74 = .ok (.iaload, 1) := by decide +kernel
theorem dX9_roof_75 : decode cX9_roof 75 = .ok (.ireturn, 1) := by decide +kernel
theorem dX9_roof_76 : decode cX9_roof 76 = .ok (.iconst 0, 1) := by decide +kernel
theorem dX9_roof_77 : decode cX9_roof 77 = .ok (.istore 4, 2) := by decide +kernel
theorem dX9_roof_79 : decode cX9_roof 79 = .ok (.iload 4, 2) := by decide +kernel
theorem dX9_roof_81 : decode cX9_roof 81 = .ok (.bipush 10, 2) := by decide +kernel
theorem dX9_roof_83 : decode cX9_roof 83 = .ok (.if_icmp .ge 38, 3) := by decide +kernel
theorem dX9_roof_86 : decode cX9_roof 86 = .ok (.iload_n 3, 1) := by decide +kernel
theorem dX9_roof_87 : decode cX9_roof 87 = .ok (.aload_n 0, 1) := by decide +kernel
theorem dX9_roof_88 : decode cX9_roof 88 = .ok (.aload_n 0, 1) := by decide +kernel
theorem dX9_roof_89 : decode cX9_roof 89 = .ok (.getfield 31, 3) := by decide +kernel
theorem dX9_roof_92 : decode cX9_roof 92 = .ok (.aload_n 0, 1) := by decide +kernel
theorem dX9_roof_93 : decode cX9_roof 93 = .ok (.invokevirtual 145, 3) := by decide +kernel
theorem dX9_roof_96 : decode cX9_roof 96 = .ok (.iload_n 1, 1) := by decide +kernel
theorem dX9_roof_97 : decode cX9_roof 97 = .ok (.iload 4, 2) := by decide +kernel
theorem dX9_roof_99 : decode cX9_roof 99 = .ok (.invokevirtual 133, 3) := by decide +kernel
theorem dX9_roof_102 : decode cX9_roof 102 = .ok (.ifCond .eq 10, 3) := by decide +kernel
theorem dX9_roof_105 : decode cX9_roof 105 = .ok (.iconst 1, 1) := by decide +kernel
theorem dX9_roof_106 : decode cX9_roof 106 = .ok (.iload 4, 2) := by decide +kernel
theorem dX9_roof_108 : decode cX9_roof 108 = .ok (.ishl, 1) := by decide +kernel
theorem dX9_roof_109 : decode cX9_roof 109 = .ok (.goto 4, 3) := by decide +kernel
theorem dX9_roof_112 : decode cX9_roof 112 = .ok (.iconst 0, 1) := by decide +kernel
theorem dX9_roof_113 : decode cX9_roof 113 = .ok (.ior, 1) := by decide +kernel
theorem dX9_roof_114 : decode cX9_roof 114 = .ok (.istore_n 3, 1) := by decide +kernel
theorem dX9_roof_115 : decode cX9_roof 115 = .ok (.iinc 4 1, 3) := by decide +kernel
theorem dX9_roof_118 : decode cX9_roof 118 = .ok (.goto (-39), 3) := by decide +kernel
theorem dX9_roof_121 : decode cX9_roof 121 = .ok (.iload_n 3, 1) := by decide +kernel
theorem dX9_roof_122 : decode cX9_roof 122 = .ok (.ireturn, 1) := by decide +kernel
theorem dX9_roof_123 : decode cX9_roof 123 = .ok (.iconst 0, 1) := by decide +kernel
theorem dX9_roof_124 : decode cX9_roof 124 = .ok (.istore 4, 2) := by decide +kernel
theorem dX9_roof_126 : decode cX9_roof 126 = .ok (.iload 4, 2) := by decide +kernel
theorem dX9_roof_128 : decode cX9_roof 128 = .ok (.aload_n 0, 1) := by decide +kernel
theorem dX9_roof_129 : decode cX9_roof 129 = .ok (.getfield 73, 3) := by decide +kernel
theorem dX9_roof_132 : decode cX9_roof 132 = .ok (.if_icmp .ge 49, 3) := by decide +kernel
theorem dX9_roof_135 : decode cX9_roof 135 = .ok (.iload_n 3, 1) := by decide +kernel
theorem dX9_roof_136 : decode cX9_roof 136 = .ok (.aload_n 0, 1) := by decide +kernel
theorem dX9_roof_137 : decode cX9_roof 137 = .ok (.aload_n 0, 1) := by decide +kernel
theorem dX9_roof_138 : decode cX9_roof 138 = .ok (.getfield 31, 3) := by decide +kernel
theorem dX9_roof_141 : decode cX9_roof 141 = .ok (.aload_n 0, 1) := by decide +kernel
theorem dX9_roof_142 : decode cX9_roof 142 = .ok (.invokevirtual 145, 3) := by decide +kernel
theorem dX9_roof_145 : decode cX9_roof 145 = .ok (.iload 4, 2) := by decide +kernel
theorem dX9_roof_147 : decode cX9_roof 147 = .ok (.aload_n 0, 1) := by decide +kernel
theorem dX9_roof_148 : decode cX9_roof 148 = .ok (.getfield 31, 3) := by decide +kernel
theorem dX9_roof_151 : decode cX9_roof 151 = .ok (.bipush 16, 2) := by decide +kernel
theorem dX9_roof_153 : decode cX9_roof 153 = .ok (.iaload, 1) := by decide +kernel
theorem dX9_roof_154 : decode cX9_roof 154 = .ok (.aload_n 0, 1) := by decide +kernel
theorem dX9_roof_155 : decode cX9_roof 155 = .ok (.getfield 113, 3) := by decide +kernel
theorem dX9_roof_158 : decode cX9_roof 158 = .ok (.invokevirtual 137, 3) := by decide +kernel
theorem dX9_roof_161 : decode cX9_roof 161 = .ok (.iload_n 1, 1) := by decide +kernel
theorem dX9_roof_162 : decode cX9_roof 162 = .ok (.if_icmp .ne 10, 3) := by decide +kernel
theorem dX9_roof_165 : decode cX9_roof 165 = .ok (.iconst 1, 1) := by decide +kernel
theorem dX9_roof_166 : decode cX9_roof 166 = .ok (.iload 4, 2) := by decide +kernel
theorem dX9_roof_168 : decode cX9_roof 168 = .ok (.ishl, 1) := by decide +kernel
theorem dX9_roof_169 : decode cX9_roof 169 = .ok (.goto 4, 3) := by decide +kernel
theorem dX9_roof_172 : decode cX9_roof 172 = .ok (.iconst 0, 1) := by decide +kernel
theorem dX9_roof_173 : decode cX9_roof 173 = .ok (.ior, 1) := by decide +kernel
theorem dX9_roof_174 : decode cX9_roof 174 = .ok (.istore_n 3, 1) := by decide +kernel
theorem dX9_roof_175 : decode cX9_roof 175 = .ok (.iinc 4 1, 3) := by decide +kernel
theorem dX9_roof_178 : decode cX9_roof 178 = .ok (.goto (-52), 3) := by decide +kernel
theorem dX9_roof_181 : decode cX9_roof 181 = .ok (.iload_n 3, 1) := by decide +kernel
theorem dX9_roof_182 : decode cX9_roof 182 = .ok (.ireturn, 1) := by decide +kernel
theorem dX9_roof_183 : decode cX9_roof 183 = .ok (.bipush (-2), 2) := by decide +kernel
theorem dX9_roof_185 : decode cX9_roof 185 = .ok (.ireturn, 1) := by decide +kernel
theorem dX9_star_0 : decode cX9_star 0 = .ok (.aload_n 0, 1) := by decide +kernel
theorem dX9_star_1 : decode cX9_star 1 = .ok (.iconst 0, 1) := by decide +kernel
theorem dX9_star_2 : decode cX9_star 2 = .ok (.putfield 62, 3) := by decide +kernel
theorem dX9_star_5 : decode cX9_star 5 = .ok (.aload_n 0, 1) := by decide +kernel
theorem dX9_star_6 : decode cX9_star 6 = .ok (.iload_n 1, 1) := by decide +kernel
theorem dX9_star_7 : decode cX9_star 7 = .ok (.invokevirtual 154, 3) := by decide +kernel
theorem dX9_star_10 : decode cX9_star 10 = .ok (.ifCond .eq 5, 3) := by decide +kernel
theorem dX9_star_13 : decode cX9_star 13 = .ok (.iconst (-1), 1) := by decide +kernel
theorem dX9_star_14 : decode cX9_star 14 = .ok (.ireturn, 1) := by decide +kernel
theorem dX9_star_15 : decode cX9_star 15 = .ok (.aload_n 0, 1) := by decide +kernel
theorem dX9_star_16 : decode cX9_star 16 = .ok (.aload_n 0, 1) := by decide +kernel
theorem dX9_star_17 : decode cX9_star 17 = .ok (.getfield 31, 3) := by decide +kernel
theorem dX9_star_20 : decode cX9_star 20 = .ok (.aload_n 0, 1) := by decide +kernel
theorem dX9_star_21 : decode cX9_star 21 = .ok (.invokevirtual 145, 3) := by decide +kernel
theorem dX9_star_24 : decode cX9_star 24 = .ok (.iload_n 1, 1) := by decide +kernel
theorem dX9_star_25 : decode cX9_star 25 = .ok (.aload_n 0, 1) := by decide +kernel
theorem dX9_star_26 : decode cX9_star 26 = .ok (.getfield 31, 3) := by decide +kernel
theorem dX9_star_29 : decode cX9_star 29 = .ok (.bipush 16, 2) := by decide +kernel
theorem dX9_star_31 : decode cX9_star 31 = .ok (.iaload, 1) := by decide +kernel
theorem dX9_star_32 : decode cX9_star 32 = .ok (.aload_n 0, 1) := by decide +kernel
theorem dX9_star_33 : decode cX9_star 33 = .ok (.getfield 113, 3) := by decide +kernel
theorem dX9_star_36 : decode cX9_star 36 = .ok (.invokevirtual 137, 3) := by decide +kernel
theorem dX9_star_39 : decode cX9_star 39 = .ok (.istore_n 3, 1) := by decide +kernel
theorem dX9_star_40 : decode cX9_star 40 = .ok (.iload_n 2, 1) := by decide +kernel
theorem dX9_star_41 : decode cX9_star 41 = .ok (.tableswitch 102 0 4 #[35, 48, 55, 62, 64], 35) := by decide +kernel
theorem dX9_star_76 : decode cX9_star 76 = .ok (.aload_n 0, 1) := by decide +kernel
theorem dX9_star_77 : decode cX9_star 77 = .ok (.iload_n 1, 1) := by decide +kernel
theorem dX9_star_78 : decode cX9_star 78 = .ok (.aload_n 0, 1) := by decide +kernel
theorem dX9_star_79 : decode cX9_star 79 = .ok (.getfield 31, 3) := by decide +kernel
theorem dX9_star_82 : decode cX9_star 82 = .ok (.bipush 16, 2) := by decide +kernel
theorem dX9_star_84 : decode cX9_star 84 = .ok (.iaload, 1) := by decide +kernel
theorem dX9_star_85 : decode cX9_star 85 = .ok (.invokevirtual 130, 3) := by decide +kernel
theorem dX9_star_88 : decode cX9_star 88 = .ok (.ireturn, 1) := by decide +kernel
theorem dX9_star_89 : decode cX9_star 89 = .ok (.aload_n 0, 1) := by decide +kernel
theorem dX9_star_90 : decode cX9_star 90 = .ok (.getfield 19, 3) := by decide +kernel
theorem dX9_star_93 : decode cX9_star 93 = .ok (.iload_n 1, 1) := by decide +kernel
theorem dX9_star_94 : decode cX9_star 94 = .ok (.iaload, 1) := by decide +kernel
theorem dX9_star_95 : decode cX9_star 95 = .ok (.ireturn, 1) := by decide +kernel
theorem dX9_star_96 : decode cX9_star 96 = .ok (.aload_n 0, 1) := by decide +kernel
theorem dX9_star_97 : decode cX9_star 97 = .ok (.getfield 22, 3) := by decide +kernel
theorem dX9_star_100 : decode cX9_star 100 = .ok (.iload_n 1, 1) := by decide +kernel
theorem dX9_star_101 : decode cX9_star 101 = .ok (.iaload, 1) := by decide +kernel
theorem dX9_star_102 : decode cX9_star 102 = .ok (.ireturn, 1) := by decide +kernel
theorem dX9_star_103 : decode cX9_star 103 = .ok (.iload_n 3, 1) := by decide +kernel
theorem dX9_star_104 : decode cX9_star 104 = .ok (.ireturn, 1) := by decide +kernel
theorem dX9_star_105 : decode cX9_star 105 = .ok (.iload_n 3, 1) := by decide +kernel
theorem dX9_star_106 : decode cX9_star 106 = .ok (.bipush (-9), 2) := by decide +kernel
theorem dX9_star_108 : decode cX9_star 108 = .ok (.if_icmp .eq 14, 3) := by decide +kernel
theorem dX9_star_111 : decode cX9_star 111 = .ok (.aload_n 0, 1) := by decide +kernel
theorem dX9_star_112 : decode cX9_star 112 = .ok (.getfield 31, 3) := by decide +kernel
theorem dX9_star_115 : decode cX9_star 115 = .ok (.bipush 11, 2) := by decide +kernel
theorem dX9_star_117 : decode cX9_star 117 = .ok (.iaload, 1) := by decide +kernel
theorem dX9_star_118 : decode cX9_star 118 = .ok (.iconst 1, 1) := by decide +kernel
theorem dX9_star_119 : decode cX9_star 119 = .ok (.if_icmp .ne 7, 3) := by decide +kernel
theorem dX9_star_122 : decode cX9_star 122 = .ok (.iconst 0, 1) := by decide +kernel
theorem dX9_star_123 : decode cX9_star 123 = .ok (.goto 19, 3) := by decide +kernel
theorem dX9_star_126 : decode cX9_star 126 = .ok (.aload_n 0, 1) := by decide +kernel
theorem dX9_star_127 : decode cX9_star 127 = .ok (.iload_n 1, 1) := by decide +kernel
theorem dX9_star_128 : decode cX9_star 128 = .ok (.aload_n 0, 1) := by decide +kernel
theorem dX9_star_129 : decode cX9_star 129 = .ok (.invokevirtual 145, 3) := by decide +kernel
theorem dX9_star_132 : decode cX9_star 132 = .ok (.aload_n 0, 1) := by decide +kernel
theorem dX9_star_133 : decode cX9_star 133 = .ok (.getfield 31, 3) := by decide +kernel
theorem dX9_star_136 : decode cX9_star 136 = .ok (.iconst 5, 1) := by decide +kernel
theorem dX9_star_137 : decode cX9_star 137 = .ok (.iaload, 1) := by decide +kernel
theorem dX9_star_138 : decode cX9_star 138 = .ok (.iload_n 3, 1) := by decide +kernel
theorem dX9_star_139 : decode cX9_star 139 = .ok (.invokevirtual 141, 3) := by decide +kernel
theorem dX9_star_142 : decode cX9_star 142 = .ok (.ireturn, 1) := by decide +kernel
theorem dX9_star_143 : decode cX9_star 143 = .ok (.bipush (-2), 2) := by decide +kernel
theorem dX9_star_145 : decode cX9_star 145 = .ok (.ireturn, 1) := by decide +kernel
theorem dX9_purse_0 : decode cX9_purse 0 = .ok (.aload_n 0, 1) := by decide +kernel
theorem dX9_purse_1 : decode cX9_purse 1 = .ok (.iconst 0, 1) := by decide +kernel
theorem dX9_purse_2 : decode cX9_purse 2 = .ok (.putfield 62, 3) := by decide +kernel
theorem dX9_purse_5 : decode cX9_purse 5 = .ok (.iload_n 1, 1) := by decide +kernel
theorem dX9_purse_6 : decode cX9_purse 6 = .ok (.i2l, 1) := by decide +kernel
theorem dX9_purse_7 : decode cX9_purse 7 = .ok (.lconst 0, 1) := by decide +kernel
theorem dX9_purse_8 : decode cX9_purse 8 = .ok (.ldc2_w 157, 3) := by decide +kernel
theorem dX9_purse_11 : decode cX9_purse 11 = .ok (.invokestatic 69, 3) := by decide +kernel
theorem dX9_purse_14 : decode cX9_purse 14 = .ok (.ifCond .eq 15, 3) := by decide +kernel
theorem dX9_purse_17 : decode cX9_purse 17 = .ok (.aload_n 0, 1) := by decide +kernel
theorem dX9_purse_18 : decode cX9_purse 18 = .ok (.getfield 31, 3) := by decide +kernel
theorem dX9_purse_21 : decode cX9_purse 21 = .ok (.bipush 12, 2) := by decide +kernel
theorem dX9_purse_23 : decode cX9_purse 23 = .ok (.iload_n 1, 1) := by decide +kernel
theorem dX9_purse_24 : decode cX9_purse 24 = .ok (.iadd, 1) := by decide +kernel
theorem dX9_purse_25 : decode cX9_purse 25 = .ok (.iaload, 1) := by decide +kernel
theorem dX9_purse_26 : decode cX9_purse 26 = .ok (.goto 4, 3) := by decide +kernel
theorem dX9_purse_29 : decode cX9_purse 29 = .ok (.iconst (-1), 1) := by decide +kernel
theorem dX9_purse_30 : decode cX9_purse 30 = .ok (.ireturn, 1) := by decide +kernel
theorem dX9_note_0 : decode cX9_note 0 = .ok (.aload_n 0, 1) := by decide +kernel
theorem dX9_note_1 : decode cX9_note 1 = .ok (.getfield 116, 3) := by decide +kernel
theorem dX9_note_4 : decode cX9_note 4 = .ok (.bipush 14, 2) := by decide +kernel
theorem dX9_note_6 : decode cX9_note 6 = .ok (.if_icmp .ne 43, 3) := by decide +kernel
theorem dX9_note_9 : decode cX9_note 9 = .ok (.iconst 0, 1) := by decide +kernel
theorem dX9_note_10 : decode cX9_note 10 = .ok (.istore_n 1, 1) := by decide +kernel
theorem dX9_note_11 : decode cX9_note 11 = .ok (.iload_n 1, 1) := by decide +kernel
theorem dX9_note_12 : decode cX9_note 12 = .ok (.sipush 221, 3) := by decide +kernel
theorem dX9_note_15 : decode cX9_note 15 = .ok (.if_icmp .ge 24, 3) := by decide +kernel
theorem dX9_note_18 : decode cX9_note 18 = .ok (.aload_n 0, 1) := by decide +kernel
theorem dX9_note_19 : decode cX9_note 19 = .ok (.getfield 37, 3) := by decide +kernel
theorem dX9_note_22 : decode cX9_note 22 = .ok (.iload_n 1, 1) := by decide +kernel
theorem dX9_note_23 : decode cX9_note 23 = .ok (.aload_n 0, 1) := by decide +kernel
theorem dX9_note_24 : decode cX9_note 24 = .ok (.getfield 37, 3) := by decide +kernel
theorem dX9_note_27 : decode cX9_note 27 = .ok (.iload_n 1, 1) := by decide +kernel
theorem dX9_note_28 : decode cX9_note 28 = .ok (.bipush 17, 2) := by decide +kernel
theorem dX9_note_30 : decode cX9_note 30 = .ok (.iadd, 1) := by decide +kernel
theorem dX9_note_31 : decode cX9_note 31 = .ok (.iaload, 1) := by decide +kernel
theorem dX9_note_32 : decode cX9_note 32 = .ok (.iastore, 1) := by decide +kernel
theorem dX9_note_33 : decode cX9_note 33 = .ok (.iinc 1 1, 3) := by decide +kernel
theorem dX9_note_36 : decode cX9_note 36 = .ok (.goto (-25), 3) := by decide +kernel
theorem dX9_note_39 : decode cX9_note 39 = .ok (.aload_n 0, 1) := by decide +kernel
theorem dX9_note_40 : decode cX9_note 40 = .ok (.dup, 1) := by decide +kernel
theorem dX9_note_41 : decode cX9_note 41 = .ok (.getfield 116, 3) := by decide +kernel
theorem dX9_note_44 : decode cX9_note 44 = .ok (.iconst 1, 1) := by decide +kernel
theorem dX9_note_45 : decode cX9_note 45 = .ok (.isub, 1) := by decide +kernel
theorem dX9_note_46 : decode cX9_note 46 = .ok (.putfield 116, 3) := by decide +kernel
theorem dX9_note_49 : decode cX9_note 49 = .ok (.iconst 0, 1) := by decide +kernel
theorem dX9_note_50 : decode cX9_note 50 = .ok (.istore_n 1, 1) := by decide +kernel
theorem dX9_note_51 : decode cX9_note 51 = .ok (.iload_n 1, 1) := by decide +kernel
theorem dX9_note_52 : decode cX9_note 52 = .ok (.bipush 17, 2) := by decide +kernel
theorem dX9_note_54 : decode cX9_note 54 = .ok (.if_icmp .ge 29, 3) := by decide +kernel
theorem dX9_note_57 : decode cX9_note 57 = .ok (.aload_n 0, 1) := by decide +kernel
theorem dX9_note_58 : decode cX9_note 58 = .ok (.getfield 37, 3) := by decide +kernel
theorem dX9_note_61 : decode cX9_note 61 = .ok (.bipush 17, 2) := by decide +kernel
theorem dX9_note_63 : decode cX9_note 63 = .ok (.aload_n 0, 1) := by decide +kernel
theorem dX9_note_64 : decode cX9_note 64 = .ok (.getfield 116, 3) := by decide +kernel
theorem dX9_note_67 : decode cX9_note 67 = .ok (.imul, 1) := by decide +kernel
theorem dX9_note_68 : decode cX9_note 68 = .ok (.iload_n 1, 1) := by decide +kernel
theorem dX9_note_69 : decode cX9_note 69 = .ok (.iadd, 1) := by decide +kernel
theorem dX9_note_70 : decode cX9_note 70 = .ok (.aload_n 0, 1) := by decide +kernel
theorem dX9_note_71 : decode cX9_note 71 = .ok (.getfield 31, 3) := by decide +kernel
theorem dX9_note_74 : decode cX9_note 74 = .ok (.iload_n 1, 1) := by decide +kernel
theorem dX9_note_75 : decode cX9_note 75 = .ok (.iaload, 1) := by decide +kernel
theorem dX9_note_76 : decode cX9_note 76 = .ok (.iastore, 1) := by decide +kernel
theorem dX9_note_77 : decode cX9_note 77 = .ok (.iinc 1 1, 3) := by decide +kernel
theorem dX9_note_80 : decode cX9_note 80 = .ok (.goto (-29), 3) := by decide +kernel
theorem dX9_note_83 : decode cX9_note 83 = .ok (.aload_n 0, 1) := by decide +kernel
theorem dX9_note_84 : decode cX9_note 84 = .ok (.dup, 1) := by decide +kernel
theorem dX9_note_85 : decode cX9_note 85 = .ok (.getfield 116, 3) := by decide +kernel
theorem dX9_note_88 : decode cX9_note 88 = .ok (.iconst 1, 1) := by decide +kernel
theorem dX9_note_89 : decode cX9_note 89 = .ok (.iadd, 1) := by decide +kernel
theorem dX9_note_90 : decode cX9_note 90 = .ok (.putfield 116, 3) := by decide +kernel
theorem dX9_note_93 : decode cX9_note 93 = .ok (.return_, 1) := by decide +kernel
theorem dX9_build_0 : decode cX9_build 0 = .ok (.aload_n 0, 1) := by decide +kernel
theorem dX9_build_1 : decode cX9_build 1 = .ok (.iconst 0, 1) := by decide +kernel
theorem dX9_build_2 : decode cX9_build 2 = .ok (.putfield 62, 3) := by decide +kernel
theorem dX9_build_5 : decode cX9_build 5 = .ok (.aload_n 0, 1) := by decide +kernel
theorem dX9_build_6 : decode cX9_build 6 = .ok (.iload_n 1, 1) := by decide +kernel
theorem dX9_build_7 : decode cX9_build 7 = .ok (.invokevirtual 151, 3) := by decide +kernel
theorem dX9_build_10 : decode cX9_build 10 = .ok (.ifCond .eq 5, 3) := by decide +kernel
theorem dX9_build_13 : decode cX9_build 13 = .ok (.iconst (-1), 1) := by decide +kernel
theorem dX9_build_14 : decode cX9_build 14 = .ok (.ireturn, 1) := by decide +kernel
theorem dX9_build_15 : decode cX9_build 15 = .ok (.iload_n 2, 1) := by decide +kernel
theorem dX9_build_16 : decode cX9_build 16 = .ok (.i2l, 1) := by decide +kernel
theorem dX9_build_17 : decode cX9_build 17 = .ok (.lconst 0, 1) := by decide +kernel
theorem dX9_build_18 : decode cX9_build 18 = .ok (.ldc2_w 159, 3) := by decide +kernel
theorem dX9_build_21 : decode cX9_build 21 = .ok (.invokestatic 69, 3) := by decide +kernel
theorem dX9_build_24 : decode cX9_build 24 = .ok (.ifCond .ne 6, 3) := by decide +kernel
theorem dX9_build_27 : decode cX9_build 27 = .ok (.bipush (-2), 2) := by decide +kernel
theorem dX9_build_29 : decode cX9_build 29 = .ok (.ireturn, 1) := by decide +kernel
theorem dX9_build_30 : decode cX9_build 30 = .ok (.aload_n 0, 1) := by decide +kernel
theorem dX9_build_31 : decode cX9_build 31 = .ok (.getfield 31, 3) := by decide +kernel
theorem dX9_build_34 : decode cX9_build 34 = .ok (.iload_n 1, 1) := by decide +kernel
theorem dX9_build_35 : decode cX9_build 35 = .ok (.iaload, 1) := by decide +kernel
theorem dX9_build_36 : decode cX9_build 36 = .ok (.istore_n 3, 1) := by decide +kernel
theorem dX9_build_37 : decode cX9_build 37 = .ok (.iload_n 3, 1) := by decide +kernel
theorem dX9_build_38 : decode cX9_build 38 = .ok (.iload_n 2, 1) := by decide +kernel
theorem dX9_build_39 : decode cX9_build 39 = .ok (.if_icmp .ne 6, 3) := by decide +kernel
theorem dX9_build_42 : decode cX9_build 42 = .ok (.bipush (-3), 2) := by decide +kernel
theorem dX9_build_44 : decode cX9_build 44 = .ok (.ireturn, 1) := by decide +kernel
theorem dX9_build_45 : decode cX9_build 45 = .ok (.aload_n 0, 1) := by decide +kernel
theorem dX9_build_46 : decode cX9_build 46 = .ok (.invokevirtual 161, 3) := by decide +kernel
theorem dX9_build_49 : decode cX9_build 49 = .ok (.aload_n 0, 1) := by decide +kernel
theorem dX9_build_50 : decode cX9_build 50 = .ok (.getfield 31, 3) := by decide +kernel
theorem dX9_build_53 : decode cX9_build 53 = .ok (.iload_n 1, 1) := by decide +kernel
theorem dX9_build_54 : decode cX9_build 54 = .ok (.iload_n 2, 1) := by decide +kernel
theorem dX9_build_55 : decode cX9_build 55 = .ok (.iastore, 1) := by decide +kernel
theorem dX9_build_56 : decode cX9_build 56 = .ok (.iload_n 3, 1) := by decide +kernel
theorem dX9_build_57 : decode cX9_build 57 = .ok (.ireturn, 1) := by decide +kernel
theorem dX9_light_0 : decode cX9_light 0 = .ok (.aload_n 0, 1) := by decide +kernel
theorem dX9_light_1 : decode cX9_light 1 = .ok (.iconst 0, 1) := by decide +kernel
theorem dX9_light_2 : decode cX9_light 2 = .ok (.putfield 62, 3) := by decide +kernel
theorem dX9_light_5 : decode cX9_light 5 = .ok (.aload_n 0, 1) := by decide +kernel
theorem dX9_light_6 : decode cX9_light 6 = .ok (.iload_n 1, 1) := by decide +kernel
theorem dX9_light_7 : decode cX9_light 7 = .ok (.invokevirtual 151, 3) := by decide +kernel
theorem dX9_light_10 : decode cX9_light 10 = .ok (.ifCond .eq 5, 3) := by decide +kernel
theorem dX9_light_13 : decode cX9_light 13 = .ok (.iconst (-1), 1) := by decide +kernel
theorem dX9_light_14 : decode cX9_light 14 = .ok (.ireturn, 1) := by decide +kernel
theorem dX9_light_15 : decode cX9_light 15 = .ok (.aload_n 0, 1) := by decide +kernel
theorem dX9_light_16 : decode cX9_light 16 = .ok (.invokevirtual 161, 3) := by decide +kernel
theorem dX9_light_19 : decode cX9_light 19 = .ok (.aload_n 0, 1) := by decide +kernel
theorem dX9_light_20 : decode cX9_light 20 = .ok (.getfield 31, 3) := by decide +kernel
theorem dX9_light_23 : decode cX9_light 23 = .ok (.iconst 5, 1) := by decide +kernel
theorem dX9_light_24 : decode cX9_light 24 = .ok (.dup2, 1) := by decide +kernel
theorem dX9_light_25 : decode cX9_light 25 = .ok (.iaload, 1) := by decide +kernel
theorem dX9_light_26 : decode cX9_light 26 = .ok (.iconst 1, 1) := by decide +kernel
theorem dX9_light_27 : decode cX9_light 27 = .ok (.iload_n 1, 1) := by decide +kernel
theorem dX9_light_28 : decode cX9_light 28 = .ok (.ishl, 1) := by decide +kernel
theorem dX9_light_29 : decode cX9_light 29 = .ok (.ixor, 1) := by decide +kernel
theorem dX9_light_30 : decode cX9_light 30 = .ok (.iastore, 1) := by decide +kernel
theorem dX9_light_31 : decode cX9_light 31 = .ok (.aload_n 0, 1) := by decide +kernel
theorem dX9_light_32 : decode cX9_light 32 = .ok (.getfield 31, 3) := by decide +kernel
theorem dX9_light_35 : decode cX9_light 35 = .ok (.iconst 5, 1) := by decide +kernel
theorem dX9_light_36 : decode cX9_light 36 = .ok (.iaload, 1) := by decide +kernel
theorem dX9_light_37 : decode cX9_light 37 = .ok (.iload_n 1, 1) := by decide +kernel
theorem dX9_light_38 : decode cX9_light 38 = .ok (.ishr, 1) := by decide +kernel
theorem dX9_light_39 : decode cX9_light 39 = .ok (.iconst 1, 1) := by decide +kernel
theorem dX9_light_40 : decode cX9_light 40 = .ok (.iand, 1) := by decide +kernel
theorem dX9_light_41 : decode cX9_light 41 = .ok (.ireturn, 1) := by decide +kernel
theorem dX9_sell_0 : decode cX9_sell 0 = .ok (.aload_n 0, 1) := by decide +kernel
theorem dX9_sell_1 : decode cX9_sell 1 = .ok (.iconst 0, 1) := by decide +kernel
theorem dX9_sell_2 : decode cX9_sell 2 = .ok (.putfield 62, 3) := by decide +kernel
theorem dX9_sell_5 : decode cX9_sell 5 = .ok (.aload_n 0, 1) := by decide +kernel
theorem dX9_sell_6 : decode cX9_sell 6 = .ok (.iload_n 1, 1) := by decide +kernel
theorem dX9_sell_7 : decode cX9_sell 7 = .ok (.invokevirtual 151, 3) := by decide +kernel
theorem dX9_sell_10 : decode cX9_sell 10 = .ok (.ifCond .ne 15, 3) := by decide +kernel
theorem dX9_sell_13 : decode cX9_sell 13 = .ok (.iload_n 2, 1) := by decide +kernel
theorem dX9_sell_14 : decode cX9_sell 14 = .ok (.i2l, 1) := by decide +kernel
theorem dX9_sell_15 : decode cX9_sell 15 = .ok (.lconst 0, 1) := by decide +kernel
theorem dX9_sell_16 : decode cX9_sell 16 = .ok (.ldc2_w 157, 3) := by decide +kernel
theorem dX9_sell_19 : decode cX9_sell 19 = .ok (.invokestatic 69, 3) := by decide +kernel
theorem dX9_sell_22 : decode cX9_sell 22 = .ok (.ifCond .ne 5, 3) := by decide +kernel
theorem dX9_sell_25 : decode cX9_sell 25 = .ok (.iconst (-1), 1) := by decide +kernel
theorem dX9_sell_26 : decode cX9_sell 26 = .ok (.ireturn, 1) := by decide +kernel
theorem dX9_sell_27 : decode cX9_sell 27 = .ok (.aload_n 0, 1) := by decide +kernel
theorem dX9_sell_28 : decode cX9_sell 28 = .ok (.getfield 31, 3) := by decide +kernel
theorem dX9_sell_31 : decode cX9_sell 31 = .ok (.bipush 6, 2) := by decide +kernel
theorem dX9_sell_33 : decode cX9_sell 33 = .ok (.iload_n 1, 1) := by decide +kernel
theorem dX9_sell_34 : decode cX9_sell 34 = .ok (.iadd, 1) := by decide +kernel
theorem dX9_sell_35 : decode cX9_sell 35 = .ok (.iaload, 1) := by decide +kernel
theorem dX9_sell_36 : decode cX9_sell 36 = .ok (.istore_n 3, 1) := by decide +kernel
theorem dX9_sell_37 : decode cX9_sell 37 = .ok (.iload_n 3, 1) := by decide +kernel
theorem dX9_sell_38 : decode cX9_sell 38 = .ok (.iload_n 2, 1) := by decide +kernel
theorem dX9_sell_39 : decode cX9_sell 39 = .ok (.if_icmp .ne 6, 3) := by decide +kernel
theorem dX9_sell_42 : decode cX9_sell 42 = .ok (.bipush (-3), 2) := by decide +kernel
theorem dX9_sell_44 : decode cX9_sell 44 = .ok (.ireturn, 1) := by decide +kernel
theorem dX9_sell_45 : decode cX9_sell 45 = .ok (.aload_n 0, 1) := by decide +kernel
theorem dX9_sell_46 : decode cX9_sell 46 = .ok (.invokevirtual 161, 3) := by decide +kernel
theorem dX9_sell_49 : decode cX9_sell 49 = .ok (.aload_n 0, 1) := by decide +kernel
theorem dX9_sell_50 : decode cX9_sell 50 = .ok (.getfield 31, 3) := by decide +kernel
theorem dX9_sell_53 : decode cX9_sell 53 = .ok (.bipush 6, 2) := by decide +kernel
theorem dX9_sell_55 : decode cX9_sell 55 = .ok (.iload_n 1, 1) := by decide +kernel
theorem dX9_sell_56 : decode cX9_sell 56 = .ok (.iadd, 1) := by decide +kernel
theorem dX9_sell_57 : decode cX9_sell 57 = .ok (.iload_n 2, 1) := by decide +kernel
theorem dX9_sell_58 : decode cX9_sell 58 = .ok (.iastore, 1) := by decide +kernel
theorem dX9_sell_59 : decode cX9_sell 59 = .ok (.iload_n 3, 1) := by decide +kernel
theorem dX9_sell_60 : decode cX9_sell 60 = .ok (.ireturn, 1) := by decide +kernel
theorem dX9_clouds_0 : decode cX9_clouds 0 = .ok (.aload_n 0, 1) := by decide +kernel
theorem dX9_clouds_1 : decode cX9_clouds 1 = .ok (.iconst 0, 1) := by decide +kernel
theorem dX9_clouds_2 : decode cX9_clouds 2 = .ok (.putfield 62, 3) := by decide +kernel
theorem dX9_clouds_5 : decode cX9_clouds 5 = .ok (.aload_n 0, 1) := by decide +kernel
theorem dX9_clouds_6 : decode cX9_clouds 6 = .ok (.invokevirtual 161, 3) := by decide +kernel
theorem dX9_clouds_9 : decode cX9_clouds 9 = .ok (.aload_n 0, 1) := by decide +kernel
theorem dX9_clouds_10 : decode cX9_clouds 10 = .ok (.getfield 31, 3) := by decide +kernel
theorem dX9_clouds_13 : decode cX9_clouds 13 = .ok (.bipush 11, 2) := by decide +kernel
theorem dX9_clouds_15 : decode cX9_clouds 15 = .ok (.iconst 1, 1) := by decide +kernel
theorem dX9_clouds_16 : decode cX9_clouds 16 = .ok (.aload_n 0, 1) := by decide +kernel
theorem dX9_clouds_17 : decode cX9_clouds 17 = .ok (.getfield 31, 3) := by decide +kernel
theorem dX9_clouds_20 : decode cX9_clouds 20 = .ok (.bipush 11, 2) := by decide +kernel
theorem dX9_clouds_22 : decode cX9_clouds 22 = .ok (.iaload, 1) := by decide +kernel
theorem dX9_clouds_23 : decode cX9_clouds 23 = .ok (.isub, 1) := by decide +kernel
theorem dX9_clouds_24 : decode cX9_clouds 24 = .ok (.iastore, 1) := by decide +kernel
theorem dX9_clouds_25 : decode cX9_clouds 25 = .ok (.aload_n 0, 1) := by decide +kernel
theorem dX9_clouds_26 : decode cX9_clouds 26 = .ok (.getfield 31, 3) := by decide +kernel
theorem dX9_clouds_29 : decode cX9_clouds 29 = .ok (.bipush 11, 2) := by decide +kernel
theorem dX9_clouds_31 : decode cX9_clouds 31 = .ok (.iaload, 1) := by decide +kernel
theorem dX9_clouds_32 : decode cX9_clouds 32 = .ok (.ireturn, 1) := by decide +kernel
theorem dX9_hour_0 : decode cX9_hour 0 = .ok (.aload_n 0, 1) := by decide +kernel
theorem dX9_hour_1 : decode cX9_hour 1 = .ok (.iconst 0, 1) := by decide +kernel
theorem dX9_hour_2 : decode cX9_hour 2 = .ok (.putfield 62, 3) := by decide +kernel
theorem dX9_hour_5 : decode cX9_hour 5 = .ok (.aload_n 0, 1) := by decide +kernel
theorem dX9_hour_6 : decode cX9_hour 6 = .ok (.invokevirtual 161, 3) := by decide +kernel
theorem dX9_hour_9 : decode cX9_hour 9 = .ok (.iconst 0, 1) := by decide +kernel
theorem dX9_hour_10 : decode cX9_hour 10 = .ok (.istore_n 1, 1) := by decide +kernel
theorem dX9_hour_11 : decode cX9_hour 11 = .ok (.iconst 0, 1) := by decide +kernel
theorem dX9_hour_12 : decode cX9_hour 12 = .ok (.istore_n 2, 1) := by decide +kernel
theorem dX9_hour_13 : decode cX9_hour 13 = .ok (.iload_n 2, 1) := by decide +kernel
theorem dX9_hour_14 : decode cX9_hour 14 = .ok (.iconst 4, 1) := by decide +kernel
theorem dX9_hour_15 : decode cX9_hour 15 = .ok (.if_icmp .ge 52, 3) := by decide +kernel
theorem dX9_hour_18 : decode cX9_hour 18 = .ok (.aload_n 0, 1) := by decide +kernel
theorem dX9_hour_19 : decode cX9_hour 19 = .ok (.aload_n 0, 1) := by decide +kernel
theorem dX9_hour_20 : decode cX9_hour 20 = .ok (.getfield 31, 3) := by decide +kernel
theorem dX9_hour_23 : decode cX9_hour 23 = .ok (.aload_n 0, 1) := by decide +kernel
theorem dX9_hour_24 : decode cX9_hour 24 = .ok (.invokevirtual 145, 3) := by decide +kernel
theorem dX9_hour_27 : decode cX9_hour 27 = .ok (.aload_n 0, 1) := by decide +kernel
theorem dX9_hour_28 : decode cX9_hour 28 = .ok (.getfield 31, 3) := by decide +kernel
theorem dX9_hour_31 : decode cX9_hour 31 = .ok (.bipush 16, 2) := by decide +kernel
theorem dX9_hour_33 : decode cX9_hour 33 = .ok (.iaload, 1) := by decide +kernel
theorem dX9_hour_34 : decode cX9_hour 34 = .ok (.iconst 1, 1) := by decide +kernel
theorem dX9_hour_35 : decode cX9_hour 35 = .ok (.iload_n 2, 1) := by decide +kernel
theorem dX9_hour_36 : decode cX9_hour 36 = .ok (.aload_n 0, 1) := by decide +kernel
theorem dX9_hour_37 : decode cX9_hour 37 = .ok (.getfield 113, 3) := by decide +kernel
theorem dX9_hour_40 : decode cX9_hour 40 = .ok (.invokevirtual 164, 3) := by decide +kernel
theorem dX9_hour_43 : decode cX9_hour 43 = .ok (.istore_n 3, 1) := by decide +kernel
theorem dX9_hour_44 : decode cX9_hour 44 = .ok (.aload_n 0, 1) := by decide +kernel
theorem dX9_hour_45 : decode cX9_hour 45 = .ok (.getfield 31, 3) := by decide +kernel
theorem dX9_hour_48 : decode cX9_hour 48 = .ok (.bipush 12, 2) := by decide +kernel
theorem dX9_hour_50 : decode cX9_hour 50 = .ok (.iload_n 2, 1) := by decide +kernel
theorem dX9_hour_51 : decode cX9_hour 51 = .ok (.iadd, 1) := by decide +kernel
theorem dX9_hour_52 : decode cX9_hour 52 = .ok (.dup2, 1) := by decide +kernel
theorem dX9_hour_53 : decode cX9_hour 53 = .ok (.iaload, 1) := by decide +kernel
theorem dX9_hour_54 : decode cX9_hour 54 = .ok (.iload_n 3, 1) := by decide +kernel
theorem dX9_hour_55 : decode cX9_hour 55 = .ok (.iadd, 1) := by decide +kernel
theorem dX9_hour_56 : decode cX9_hour 56 = .ok (.iastore, 1) := by decide +kernel
theorem dX9_hour_57 : decode cX9_hour 57 = .ok (.iload_n 1, 1) := by decide +kernel
theorem dX9_hour_58 : decode cX9_hour 58 = .ok (.iload_n 3, 1) := by decide +kernel
theorem dX9_hour_59 : decode cX9_hour 59 = .ok (.iadd, 1) := by decide +kernel
theorem dX9_hour_60 : decode cX9_hour 60 = .ok (.istore_n 1, 1) := by decide +kernel
theorem dX9_hour_61 : decode cX9_hour 61 = .ok (.iinc 2 1, 3) := by decide +kernel
theorem dX9_hour_64 : decode cX9_hour 64 = .ok (.goto (-51), 3) := by decide +kernel
theorem dX9_hour_67 : decode cX9_hour 67 = .ok (.aload_n 0, 1) := by decide +kernel
theorem dX9_hour_68 : decode cX9_hour 68 = .ok (.getfield 31, 3) := by decide +kernel
theorem dX9_hour_71 : decode cX9_hour 71 = .ok (.bipush 16, 2) := by decide +kernel
theorem dX9_hour_73 : decode cX9_hour 73 = .ok (.dup2, 1) := by decide +kernel
theorem dX9_hour_74 : decode cX9_hour 74 = .ok (.iaload, 1) := by decide +kernel
theorem dX9_hour_75 : decode cX9_hour 75 = .ok (.iconst 1, 1) := by decide +kernel
theorem dX9_hour_76 : decode cX9_hour 76 = .ok (.iadd, 1) := by decide +kernel
theorem dX9_hour_77 : decode cX9_hour 77 = .ok (.iastore, 1) := by decide +kernel
theorem dX9_hour_78 : decode cX9_hour 78 = .ok (.iload_n 1, 1) := by decide +kernel
theorem dX9_hour_79 : decode cX9_hour 79 = .ok (.ireturn, 1) := by decide +kernel
theorem dX9_undo_0 : decode cX9_undo 0 = .ok (.aload_n 0, 1) := by decide +kernel
theorem dX9_undo_1 : decode cX9_undo 1 = .ok (.iconst 0, 1) := by decide +kernel
theorem dX9_undo_2 : decode cX9_undo 2 = .ok (.putfield 62, 3) := by decide +kernel
theorem dX9_undo_5 : decode cX9_undo 5 = .ok (.aload_n 0, 1) := by decide +kernel
theorem dX9_undo_6 : decode cX9_undo 6 = .ok (.getfield 116, 3) := by decide +kernel
theorem dX9_undo_9 : decode cX9_undo 9 = .ok (.ifCond .ne 6, 3) := by decide +kernel
theorem dX9_undo_12 : decode cX9_undo 12 = .ok (.bipush (-3), 2) := by decide +kernel
theorem dX9_undo_14 : decode cX9_undo 14 = .ok (.ireturn, 1) := by decide +kernel
theorem dX9_undo_15 : decode cX9_undo 15 = .ok (.aload_n 0, 1) := by decide +kernel
theorem dX9_undo_16 : decode cX9_undo 16 = .ok (.dup, 1) := by decide +kernel
theorem dX9_undo_17 : decode cX9_undo 17 = .ok (.getfield 116, 3) := by decide +kernel
theorem dX9_undo_20 : decode cX9_undo 20 = .ok (.iconst 1, 1) := by decide +kernel
theorem dX9_undo_21 : decode cX9_undo 21 = .ok (.isub, 1) := by decide +kernel
theorem dX9_undo_22 : decode cX9_undo 22 = .ok (.putfield 116, 3) := by decide +kernel
theorem dX9_undo_25 : decode cX9_undo 25 = .ok (.iconst 0, 1) := by decide +kernel
theorem dX9_undo_26 : decode cX9_undo 26 = .ok (.istore_n 1, 1) := by decide +kernel
theorem dX9_undo_27 : decode cX9_undo 27 = .ok (.iload_n 1, 1) := by decide +kernel
theorem dX9_undo_28 : decode cX9_undo 28 = .ok (.bipush 17, 2) := by decide +kernel
theorem dX9_undo_30 : decode cX9_undo 30 = .ok (.if_icmp .ge 29, 3) := by decide +kernel
theorem dX9_undo_33 : decode cX9_undo 33 = .ok (.aload_n 0, 1) := by decide +kernel
theorem dX9_undo_34 : decode cX9_undo 34 = .ok (.getfield 31, 3) := by decide +kernel
theorem dX9_undo_37 : decode cX9_undo 37 = .ok (.iload_n 1, 1) := by decide +kernel
theorem dX9_undo_38 : decode cX9_undo 38 = .ok (.aload_n 0, 1) := by decide +kernel
theorem dX9_undo_39 : decode cX9_undo 39 = .ok (.getfield 37, 3) := by decide +kernel
theorem dX9_undo_42 : decode cX9_undo 42 = .ok (.bipush 17, 2) := by decide +kernel
theorem dX9_undo_44 : decode cX9_undo 44 = .ok (.aload_n 0, 1) := by decide +kernel
theorem dX9_undo_45 : decode cX9_undo 45 = .ok (.getfield 116, 3) := by decide +kernel
theorem dX9_undo_48 : decode cX9_undo 48 = .ok (.imul, 1) := by decide +kernel
theorem dX9_undo_49 : decode cX9_undo 49 = .ok (.iload_n 1, 1) := by decide +kernel
theorem dX9_undo_50 : decode cX9_undo 50 = .ok (.iadd, 1) := by decide +kernel
theorem dX9_undo_51 : decode cX9_undo 51 = .ok (.iaload, 1) := by decide +kernel
theorem dX9_undo_52 : decode cX9_undo 52 = .ok (.iastore, 1) := by decide +kernel
theorem dX9_undo_53 : decode cX9_undo 53 = .ok (.iinc 1 1, 3) := by decide +kernel
theorem dX9_undo_56 : decode cX9_undo 56 = .ok (.goto (-29), 3) := by decide +kernel
theorem dX9_undo_59 : decode cX9_undo 59 = .ok (.aload_n 0, 1) := by decide +kernel
theorem dX9_undo_60 : decode cX9_undo 60 = .ok (.getfield 116, 3) := by decide +kernel
theorem dX9_undo_63 : decode cX9_undo 63 = .ok (.ireturn, 1) := by decide +kernel
theorem dX9_begin_0 : decode cX9_begin 0 = .ok (.iconst 0, 1) := by decide +kernel
theorem dX9_begin_1 : decode cX9_begin 1 = .ok (.istore_n 1, 1) := by decide +kernel
theorem dX9_begin_2 : decode cX9_begin 2 = .ok (.iload_n 1, 1) := by decide +kernel
theorem dX9_begin_3 : decode cX9_begin 3 = .ok (.bipush 17, 2) := by decide +kernel
theorem dX9_begin_5 : decode cX9_begin 5 = .ok (.if_icmp .ge 21, 3) := by decide +kernel
theorem dX9_begin_8 : decode cX9_begin 8 = .ok (.aload_n 0, 1) := by decide +kernel
theorem dX9_begin_9 : decode cX9_begin 9 = .ok (.getfield 34, 3) := by decide +kernel
theorem dX9_begin_12 : decode cX9_begin 12 = .ok (.iload_n 1, 1) := by decide +kernel
theorem dX9_begin_13 : decode cX9_begin 13 = .ok (.aload_n 0, 1) := by decide +kernel
theorem dX9_begin_14 : decode cX9_begin 14 = .ok (.getfield 31, 3) := by decide +kernel
theorem dX9_begin_17 : decode cX9_begin 17 = .ok (.iload_n 1, 1) := by decide +kernel
theorem dX9_begin_18 : decode cX9_begin 18 = .ok (.iaload, 1) := by decide +kernel
theorem dX9_begin_19 : decode cX9_begin 19 = .ok (.iastore, 1) := by decide +kernel
theorem dX9_begin_20 : decode cX9_begin 20 = .ok (.iinc 1 1, 3) := by decide +kernel
theorem dX9_begin_23 : decode cX9_begin 23 = .ok (.goto (-21), 3) := by decide +kernel
theorem dX9_begin_26 : decode cX9_begin 26 = .ok (.return_, 1) := by decide +kernel
theorem dX9_rents_0 : decode cX9_rents 0 = .ok (.aload_n 0, 1) := by decide +kernel
theorem dX9_rents_1 : decode cX9_rents 1 = .ok (.iconst 0, 1) := by decide +kernel
theorem dX9_rents_2 : decode cX9_rents 2 = .ok (.putfield 62, 3) := by decide +kernel
theorem dX9_rents_5 : decode cX9_rents 5 = .ok (.iload_n 1, 1) := by decide +kernel
theorem dX9_rents_6 : decode cX9_rents 6 = .ok (.i2l, 1) := by decide +kernel
theorem dX9_rents_7 : decode cX9_rents 7 = .ok (.lconst 0, 1) := by decide +kernel
theorem dX9_rents_8 : decode cX9_rents 8 = .ok (.ldc2_w 168, 3) := by decide +kernel
theorem dX9_rents_11 : decode cX9_rents 11 = .ok (.invokestatic 69, 3) := by decide +kernel
theorem dX9_rents_14 : decode cX9_rents 14 = .ok (.ifCond .ne 5, 3) := by decide +kernel
theorem dX9_rents_17 : decode cX9_rents 17 = .ok (.iconst (-1), 1) := by decide +kernel
theorem dX9_rents_18 : decode cX9_rents 18 = .ok (.ireturn, 1) := by decide +kernel
theorem dX9_rents_19 : decode cX9_rents 19 = .ok (.iload_n 2, 1) := by decide +kernel
theorem dX9_rents_20 : decode cX9_rents 20 = .ok (.i2l, 1) := by decide +kernel
theorem dX9_rents_21 : decode cX9_rents 21 = .ok (.lconst 0, 1) := by decide +kernel
theorem dX9_rents_22 : decode cX9_rents 22 = .ok (.ldc2_w 170, 3) := by decide +kernel
theorem dX9_rents_25 : decode cX9_rents 25 = .ok (.invokestatic 69, 3) := by decide +kernel
theorem dX9_rents_28 : decode cX9_rents 28 = .ok (.ifCond .eq 31, 3) := by decide +kernel
theorem dX9_rents_31 : decode cX9_rents 31 = .ok (.aload_n 0, 1) := by decide +kernel
theorem dX9_rents_32 : decode cX9_rents 32 = .ok (.aload_n 0, 1) := by decide +kernel
theorem dX9_rents_33 : decode cX9_rents 33 = .ok (.getfield 31, 3) := by decide +kernel
theorem dX9_rents_36 : decode cX9_rents 36 = .ok (.aload_n 0, 1) := by decide +kernel
theorem dX9_rents_37 : decode cX9_rents 37 = .ok (.invokevirtual 145, 3) := by decide +kernel
theorem dX9_rents_40 : decode cX9_rents 40 = .ok (.aload_n 0, 1) := by decide +kernel
theorem dX9_rents_41 : decode cX9_rents 41 = .ok (.getfield 31, 3) := by decide +kernel
theorem dX9_rents_44 : decode cX9_rents 44 = .ok (.bipush 16, 2) := by decide +kernel
theorem dX9_rents_46 : decode cX9_rents 46 = .ok (.iaload, 1) := by decide +kernel
theorem dX9_rents_47 : decode cX9_rents 47 = .ok (.iload_n 2, 1) := by decide +kernel
theorem dX9_rents_48 : decode cX9_rents 48 = .ok (.iload_n 1, 1) := by decide +kernel
theorem dX9_rents_49 : decode cX9_rents 49 = .ok (.aload_n 0, 1) := by decide +kernel
theorem dX9_rents_50 : decode cX9_rents 50 = .ok (.getfield 113, 3) := by decide +kernel
theorem dX9_rents_53 : decode cX9_rents 53 = .ok (.invokevirtual 164, 3) := by decide +kernel
theorem dX9_rents_56 : decode cX9_rents 56 = .ok (.goto 5, 3) := by decide +kernel
theorem dX9_rents_59 : decode cX9_rents 59 = .ok (.bipush (-2), 2) := by decide +kernel
theorem dX9_rents_61 : decode cX9_rents 61 = .ok (.ireturn, 1) := by decide +kernel
theorem dX9_hold_0 : decode cX9_hold 0 = .ok (.aload_n 0, 1) := by decide +kernel
theorem dX9_hold_1 : decode cX9_hold 1 = .ok (.iconst 0, 1) := by decide +kernel
theorem dX9_hold_2 : decode cX9_hold 2 = .ok (.putfield 62, 3) := by decide +kernel
theorem dX9_hold_5 : decode cX9_hold 5 = .ok (.aload_n 0, 1) := by decide +kernel
theorem dX9_hold_6 : decode cX9_hold 6 = .ok (.iload_n 1, 1) := by decide +kernel
theorem dX9_hold_7 : decode cX9_hold 7 = .ok (.invokevirtual 154, 3) := by decide +kernel
theorem dX9_hold_10 : decode cX9_hold 10 = .ok (.ifCond .eq 5, 3) := by decide +kernel
theorem dX9_hold_13 : decode cX9_hold 13 = .ok (.iconst (-1), 1) := by decide +kernel
theorem dX9_hold_14 : decode cX9_hold 14 = .ok (.ireturn, 1) := by decide +kernel
theorem dX9_hold_15 : decode cX9_hold 15 = .ok (.iload_n 2, 1) := by decide +kernel
theorem dX9_hold_16 : decode cX9_hold 16 = .ok (.i2l, 1) := by decide +kernel
theorem dX9_hold_17 : decode cX9_hold 17 = .ok (.lconst 1, 1) := by decide +kernel
theorem dX9_hold_18 : decode cX9_hold 18 = .ok (.ldc2_w 172, 3) := by decide +kernel
theorem dX9_hold_21 : decode cX9_hold 21 = .ok (.invokestatic 69, 3) := by decide +kernel
theorem dX9_hold_24 : decode cX9_hold 24 = .ok (.ifCond .ne 6, 3) := by decide +kernel
theorem dX9_hold_27 : decode cX9_hold 27 = .ok (.bipush (-2), 2) := by decide +kernel
theorem dX9_hold_29 : decode cX9_hold 29 = .ok (.ireturn, 1) := by decide +kernel
theorem dX9_hold_30 : decode cX9_hold 30 = .ok (.bipush (-9), 2) := by decide +kernel
theorem dX9_hold_32 : decode cX9_hold 32 = .ok (.istore_n 3, 1) := by decide +kernel
theorem dX9_hold_33 : decode cX9_hold 33 = .ok (.iconst 0, 1) := by decide +kernel
theorem dX9_hold_34 : decode cX9_hold 34 = .ok (.istore 4, 2) := by decide +kernel
theorem dX9_hold_36 : decode cX9_hold 36 = .ok (.iload 4, 2) := by decide +kernel
theorem dX9_hold_38 : decode cX9_hold 38 = .ok (.aload_n 0, 1) := by decide +kernel
theorem dX9_hold_39 : decode cX9_hold 39 = .ok (.invokevirtual 145, 3) := by decide +kernel
theorem dX9_hold_42 : decode cX9_hold 42 = .ok (.if_icmp .gt 151, 3) := by decide +kernel
theorem dX9_hold_45 : decode cX9_hold 45 = .ok (.iload_n 3, 1) := by decide +kernel
theorem dX9_hold_46 : decode cX9_hold 46 = .ok (.bipush (-9), 2) := by decide +kernel
theorem dX9_hold_48 : decode cX9_hold 48 = .ok (.if_icmp .eq 15, 3) := by decide +kernel
theorem dX9_hold_51 : decode cX9_hold 51 = .ok (.iload 4, 2) := by decide +kernel
theorem dX9_hold_53 : decode cX9_hold 53 = .ok (.invokestatic 174, 3) := by decide +kernel
theorem dX9_hold_56 : decode cX9_hold 56 = .ok (.iload_n 3, 1) := by decide +kernel
theorem dX9_hold_57 : decode cX9_hold 57 = .ok (.invokestatic 174, 3) := by decide +kernel
theorem dX9_hold_60 : decode cX9_hold 60 = .ok (.if_icmp .ge 7, 3) := by decide +kernel
theorem dX9_hold_63 : decode cX9_hold 63 = .ok (.iconst 1, 1) := by decide +kernel
theorem dX9_hold_64 : decode cX9_hold 64 = .ok (.goto 4, 3) := by decide +kernel
theorem dX9_hold_67 : decode cX9_hold 67 = .ok (.iconst 0, 1) := by decide +kernel
theorem dX9_hold_68 : decode cX9_hold 68 = .ok (.istore 5, 2) := by decide +kernel
theorem dX9_hold_70 : decode cX9_hold 70 = .ok (.aload_n 0, 1) := by decide +kernel
theorem dX9_hold_71 : decode cX9_hold 71 = .ok (.getfield 31, 3) := by decide +kernel
theorem dX9_hold_74 : decode cX9_hold 74 = .ok (.bipush 16, 2) := by decide +kernel
theorem dX9_hold_76 : decode cX9_hold 76 = .ok (.iaload, 1) := by decide +kernel
theorem dX9_hold_77 : decode cX9_hold 77 = .ok (.istore 6, 2) := by decide +kernel
theorem dX9_hold_79 : decode cX9_hold 79 = .ok (.iload 6, 2) := by decide +kernel
theorem dX9_hold_81 : decode cX9_hold 81 = .ok (.aload_n 0, 1) := by decide +kernel
theorem dX9_hold_82 : decode cX9_hold 82 = .ok (.getfield 31, 3) := by decide +kernel
theorem dX9_hold_85 : decode cX9_hold 85 = .ok (.bipush 16, 2) := by decide +kernel
theorem dX9_hold_87 : decode cX9_hold 87 = .ok (.iaload, 1) := by decide +kernel
theorem dX9_hold_88 : decode cX9_hold 88 = .ok (.iload_n 2, 1) := by decide +kernel
theorem dX9_hold_89 : decode cX9_hold 89 = .ok (.iadd, 1) := by decide +kernel
theorem dX9_hold_90 : decode cX9_hold 90 = .ok (.if_icmp .ge 85, 3) := by decide +kernel
theorem dX9_hold_93 : decode cX9_hold 93 = .ok (.iload 5, 2) := by decide +kernel
theorem dX9_hold_95 : decode cX9_hold 95 = .ok (.ifCond .eq 80, 3) := by decide +kernel
theorem dX9_hold_98 : decode cX9_hold 98 = .ok (.iconst 0, 1) := by decide +kernel
theorem dX9_hold_99 : decode cX9_hold 99 = .ok (.istore 7, 2) := by decide +kernel
theorem dX9_hold_101 : decode cX9_hold 101 = .ok (.iconst 0, 1) := by decide +kernel
theorem dX9_hold_102 : decode cX9_hold 102 = .ok (.istore 8, 2) := by decide +kernel
theorem dX9_hold_104 : decode cX9_hold 104 = .ok (.iload 8, 2) := by decide +kernel
theorem dX9_hold_106 : decode cX9_hold 106 = .ok (.aload_n 0, 1) := by decide +kernel
theorem dX9_hold_107 : decode cX9_hold 107 = .ok (.getfield 66, 3) := by decide +kernel
theorem dX9_hold_110 : decode cX9_hold 110 = .ok (.if_icmp .ge 55, 3) := by decide +kernel
theorem dX9_hold_113 : decode cX9_hold 113 = .ok (.iload 7, 2) := by decide +kernel
theorem dX9_hold_115 : decode cX9_hold 115 = .ok (.ifCond .ne 37, 3) := by decide +kernel
theorem dX9_hold_118 : decode cX9_hold 118 = .ok (.iload 4, 2) := by decide +kernel
theorem dX9_hold_120 : decode cX9_hold 120 = .ok (.iload 8, 2) := by decide +kernel
theorem dX9_hold_122 : decode cX9_hold 122 = .ok (.invokestatic 119, 3) := by decide +kernel
theorem dX9_hold_125 : decode cX9_hold 125 = .ok (.ifCond .eq 31, 3) := by decide +kernel
theorem dX9_hold_128 : decode cX9_hold 128 = .ok (.aload_n 0, 1) := by decide +kernel
theorem dX9_hold_129 : decode cX9_hold 129 = .ok (.aload_n 0, 1) := by decide +kernel
theorem dX9_hold_130 : decode cX9_hold 130 = .ok (.getfield 31, 3) := by decide +kernel
theorem dX9_hold_133 : decode cX9_hold 133 = .ok (.aload_n 0, 1) := by decide +kernel
theorem dX9_hold_134 : decode cX9_hold 134 = .ok (.invokevirtual 145, 3) := by decide +kernel
theorem dX9_hold_137 : decode cX9_hold 137 = .ok (.iload 8, 2) := by decide +kernel
theorem dX9_hold_139 : decode cX9_hold 139 = .ok (.aload_n 0, 1) := by decide +kernel
theorem dX9_hold_140 : decode cX9_hold 140 = .ok (.iload_n 1, 1) := by decide +kernel
theorem dX9_hold_141 : decode cX9_hold 141 = .ok (.iload 6, 2) := by decide +kernel
theorem dX9_hold_143 : decode cX9_hold 143 = .ok (.invokevirtual 130, 3) := by decide +kernel
theorem dX9_hold_146 : decode cX9_hold 146 = .ok (.invokevirtual 133, 3) := by decide +kernel
theorem dX9_hold_149 : decode cX9_hold 149 = .ok (.ifCond .eq 7, 3) := by decide +kernel
theorem dX9_hold_152 : decode cX9_hold 152 = .ok (.iconst 1, 1) := by decide +kernel
theorem dX9_hold_153 : decode cX9_hold 153 = .ok (.goto 4, 3) := by decide +kernel
theorem dX9_hold_156 : decode cX9_hold 156 = .ok (.iconst 0, 1) := by decide +kernel
theorem dX9_hold_157 : decode cX9_hold 157 = .ok (.istore 7, 2) := by decide +kernel
theorem dX9_hold_159 : decode cX9_hold 159 = .ok (.iinc 8 1, 3) := by decide +kernel
theorem dX9_hold_162 : decode cX9_hold 162 = .ok (.goto (-58), 3) := by decide +kernel
theorem dX9_hold_165 : decode cX9_hold 165 = .ok (.iload 7, 2) := by decide +kernel
theorem dX9_hold_167 : decode cX9_hold 167 = .ok (.istore 5, 2) := by decide +kernel
theorem dX9_hold_169 : decode cX9_hold 169 = .ok (.iinc 6 1, 3) := by decide +kernel
theorem dX9_hold_172 : decode cX9_hold 172 = .ok (.goto (-93), 3) := by decide +kernel
theorem dX9_hold_175 : decode cX9_hold 175 = .ok (.iload 5, 2) := by decide +kernel
theorem dX9_hold_177 : decode cX9_hold 177 = .ok (.ifCond .eq 8, 3) := by decide +kernel
theorem dX9_hold_180 : decode cX9_hold 180 = .ok (.iload 4, 2) := by decide +kernel
theorem dX9_hold_182 : decode cX9_hold 182 = .ok (.goto 4, 3) := by decide +kernel
theorem dX9_hold_185 : decode cX9_hold 185 = .ok (.iload_n 3, 1) := by decide +kernel
theorem dX9_hold_186 : decode cX9_hold 186 = .ok (.istore_n 3, 1) := by decide +kernel
theorem dX9_hold_187 : decode cX9_hold 187 = .ok (.iinc 4 1, 3) := by decide +kernel
theorem dX9_hold_190 : decode cX9_hold 190 = .ok (.goto (-154), 3) := by decide +kernel
theorem dX9_hold_193 : decode cX9_hold 193 = .ok (.iload_n 3, 1) := by decide +kernel
theorem dX9_hold_194 : decode cX9_hold 194 = .ok (.ireturn, 1) := by decide +kernel
theorem dX9_findFires_0 : decode cX9_findFires 0 = .ok (.aload_n 0, 1) := by decide +kernel
theorem dX9_findFires_1 : decode cX9_findFires 1 = .ok (.bipush (-9), 2) := by decide +kernel
theorem dX9_findFires_3 : decode cX9_findFires 3 = .ok (.putfield 178, 3) := by decide +kernel
theorem dX9_findFires_6 : decode cX9_findFires 6 = .ok (.aload_n 0, 1) := by decide +kernel
theorem dX9_findFires_7 : decode cX9_findFires 7 = .ok (.iconst 0, 1) := by decide +kernel
theorem dX9_findFires_8 : decode cX9_findFires 8 = .ok (.putfield 181, 3) := by decide +kernel
theorem dX9_findFires_11 : decode cX9_findFires 11 = .ok (.iconst 0, 1) := by decide +kernel
theorem dX9_findFires_12 : decode cX9_findFires 12 = .ok (.istore_n 2, 1) := by decide +kernel
theorem dX9_findFires_13 : decode cX9_findFires 13 = .ok (.iload_n 2, 1) := by decide +kernel
theorem dX9_findFires_14 : decode cX9_findFires 14 = .ok (.aload_n 0, 1) := by decide +kernel
theorem dX9_findFires_15 : decode cX9_findFires 15 = .ok (.invokevirtual 145, 3) := by decide +kernel
theorem dX9_findFires_18 : decode cX9_findFires 18 = .ok (.if_icmp .gt 102, 3) := by decide +kernel
theorem dX9_findFires_21 : decode cX9_findFires 21 = .ok (.aload_n 0, 1) := by decide +kernel
theorem dX9_findFires_22 : decode cX9_findFires 22 = .ok (.invokevirtual 184, 3) := by decide +kernel
theorem dX9_findFires_25 : decode cX9_findFires 25 = .ok (.aload_n 0, 1) := by decide +kernel
theorem dX9_findFires_26 : decode cX9_findFires 26 = .ok (.getfield 34, 3) := by decide +kernel
theorem dX9_findFires_29 : decode cX9_findFires 29 = .ok (.iconst 5, 1) := by decide +kernel
theorem dX9_findFires_30 : decode cX9_findFires 30 = .ok (.iload_n 2, 1) := by decide +kernel
theorem dX9_findFires_31 : decode cX9_findFires 31 = .ok (.iastore, 1) := by decide +kernel
theorem dX9_findFires_32 : decode cX9_findFires 32 = .ok (.aload_n 0, 1) := by decide +kernel
theorem dX9_findFires_33 : decode cX9_findFires 33 = .ok (.aload_n 0, 1) := by decide +kernel
theorem dX9_findFires_34 : decode cX9_findFires 34 = .ok (.getfield 34, 3) := by decide +kernel
theorem dX9_findFires_37 : decode cX9_findFires 37 = .ok (.aload_n 0, 1) := by decide +kernel
theorem dX9_findFires_38 : decode cX9_findFires 38 = .ok (.invokevirtual 145, 3) := by decide +kernel
theorem dX9_findFires_41 : decode cX9_findFires 41 = .ok (.aload_n 0, 1) := by decide +kernel
theorem dX9_findFires_42 : decode cX9_findFires 42 = .ok (.getfield 31, 3) := by decide +kernel
theorem dX9_findFires_45 : decode cX9_findFires 45 = .ok (.bipush 16, 2) := by decide +kernel
theorem dX9_findFires_47 : decode cX9_findFires 47 = .ok (.iaload, 1) := by decide +kernel
theorem dX9_findFires_48 : decode cX9_findFires 48 = .ok (.iload_n 1, 1) := by decide +kernel
theorem dX9_findFires_49 : decode cX9_findFires 49 = .ok (.iconst 4, 1) := by decide +kernel
theorem dX9_findFires_50 : decode cX9_findFires 50 = .ok (.aload_n 0, 1) := by decide +kernel
theorem dX9_findFires_51 : decode cX9_findFires 51 = .ok (.getfield 113, 3) := by decide +kernel
theorem dX9_findFires_54 : decode cX9_findFires 54 = .ok (.invokevirtual 164, 3) := by decide +kernel
theorem dX9_findFires_57 : decode cX9_findFires 57 = .ok (.iload_n 1, 1) := by decide +kernel
theorem dX9_findFires_58 : decode cX9_findFires 58 = .ok (.iload_n 2, 1) := by decide +kernel
theorem dX9_findFires_59 : decode cX9_findFires 59 = .ok (.invokestatic 174, 3) := by decide +kernel
theorem dX9_findFires_62 : decode cX9_findFires 62 = .ok (.imul, 1) := by decide +kernel
theorem dX9_findFires_63 : decode cX9_findFires 63 = .ok (.iadd, 1) := by decide +kernel
theorem dX9_findFires_64 : decode cX9_findFires 64 = .ok (.istore_n 3, 1) := by decide +kernel
theorem dX9_findFires_65 : decode cX9_findFires 65 = .ok (.aload_n 0, 1) := by decide +kernel
theorem dX9_findFires_66 : decode cX9_findFires 66 = .ok (.getfield 178, 3) := by decide +kernel
theorem dX9_findFires_69 : decode cX9_findFires 69 = .ok (.bipush (-9), 2) := by decide +kernel
theorem dX9_findFires_71 : decode cX9_findFires 71 = .ok (.if_icmp .eq 33, 3) := by decide +kernel
theorem dX9_findFires_74 : decode cX9_findFires 74 = .ok (.iload_n 3, 1) := by decide +kernel
theorem dX9_findFires_75 : decode cX9_findFires 75 = .ok (.aload_n 0, 1) := by decide +kernel
theorem dX9_findFires_76 : decode cX9_findFires 76 = .ok (.getfield 181, 3) := by decide +kernel
theorem dX9_findFires_79 : decode cX9_findFires 79 = .ok (.if_icmp .gt 25, 3) := by decide +kernel
theorem dX9_findFires_82 : decode cX9_findFires 82 = .ok (.iload_n 3, 1) := by decide +kernel
theorem dX9_findFires_83 : decode cX9_findFires 83 = .ok (.aload_n 0, 1) := by decide +kernel
theorem dX9_findFires_84 : decode cX9_findFires 84 = .ok (.getfield 181, 3) := by decide +kernel
theorem dX9_findFires_87 : decode cX9_findFires 87 = .ok (.if_icmp .ne 27, 3) := by decide +kernel
theorem dX9_findFires_90 : decode cX9_findFires 90 = .ok (.iload_n 2, 1) := by decide +kernel
theorem dX9_findFires_91 : decode cX9_findFires 91 = .ok (.invokestatic 174, 3) := by decide +kernel
theorem dX9_findFires_94 : decode cX9_findFires 94 = .ok (.aload_n 0, 1) := by decide +kernel
theorem dX9_findFires_95 : decode cX9_findFires 95 = .ok (.getfield 178, 3) := by decide +kernel
theorem dX9_findFires_98 : decode cX9_findFires 98 = .ok (.invokestatic 174, 3) := by decide +kernel
theorem dX9_findFires_101 : decode cX9_findFires 101 = .ok (.if_icmp .ge 13, 3) := by decide +kernel
theorem dX9_findFires_104 : decode cX9_findFires 104 = .ok (.aload_n 0, 1) := by decide +kernel
theorem dX9_findFires_105 : decode cX9_findFires 105 = .ok (.iload_n 2, 1) := by decide +kernel
theorem dX9_findFires_106 : decode cX9_findFires 106 = .ok (.putfield 178, 3) := by decide +kernel
theorem dX9_findFires_109 : decode cX9_findFires 109 = .ok (.aload_n 0, 1) := by decide +kernel
theorem dX9_findFires_110 : decode cX9_findFires 110 = .ok (.iload_n 3, 1) := by decide +kernel
theorem dX9_findFires_111 : decode cX9_findFires 111 = .ok (.putfield 181, 3) := by decide +kernel
theorem dX9_findFires_114 : decode cX9_findFires 114 = .ok (.iinc 2 1, 3) := by decide +kernel
theorem dX9_findFires_117 : decode cX9_findFires 117 = .ok (.goto (-104), 3) := by decide +kernel
theorem dX9_findFires_120 : decode cX9_findFires 120 = .ok (.return_, 1) := by decide +kernel
theorem dX9_fires_0 : decode cX9_fires 0 = .ok (.aload_n 0, 1) := by decide +kernel
theorem dX9_fires_1 : decode cX9_fires 1 = .ok (.iconst 0, 1) := by decide +kernel
theorem dX9_fires_2 : decode cX9_fires 2 = .ok (.putfield 62, 3) := by decide +kernel
theorem dX9_fires_5 : decode cX9_fires 5 = .ok (.iload_n 1, 1) := by decide +kernel
theorem dX9_fires_6 : decode cX9_fires 6 = .ok (.i2l, 1) := by decide +kernel
theorem dX9_fires_7 : decode cX9_fires 7 = .ok (.lconst 1, 1) := by decide +kernel
theorem dX9_fires_8 : decode cX9_fires 8 = .ok (.ldc2_w 172, 3) := by decide +kernel
theorem dX9_fires_11 : decode cX9_fires 11 = .ok (.invokestatic 69, 3) := by decide +kernel
theorem dX9_fires_14 : decode cX9_fires 14 = .ok (.ifCond .eq 13, 3) := by decide +kernel
theorem dX9_fires_17 : decode cX9_fires 17 = .ok (.iload_n 2, 1) := by decide +kernel
theorem dX9_fires_18 : decode cX9_fires 18 = .ok (.i2l, 1) := by decide +kernel
theorem dX9_fires_19 : decode cX9_fires 19 = .ok (.lconst 0, 1) := by decide +kernel
theorem dX9_fires_20 : decode cX9_fires 20 = .ok (.lconst 1, 1) := by decide +kernel
theorem dX9_fires_21 : decode cX9_fires 21 = .ok (.invokestatic 69, 3) := by decide +kernel
theorem dX9_fires_24 : decode cX9_fires 24 = .ok (.ifCond .ne 6, 3) := by decide +kernel
theorem dX9_fires_27 : decode cX9_fires 27 = .ok (.bipush (-2), 2) := by decide +kernel
theorem dX9_fires_29 : decode cX9_fires 29 = .ok (.ireturn, 1) := by decide +kernel
theorem dX9_fires_30 : decode cX9_fires 30 = .ok (.aload_n 0, 1) := by decide +kernel
theorem dX9_fires_31 : decode cX9_fires 31 = .ok (.iload_n 1, 1) := by decide +kernel
theorem dX9_fires_32 : decode cX9_fires 32 = .ok (.invokevirtual 187, 3) := by decide +kernel
theorem dX9_fires_35 : decode cX9_fires 35 = .ok (.iload_n 2, 1) := by decide +kernel
theorem dX9_fires_36 : decode cX9_fires 36 = .ok (.ifCond .ne 10, 3) := by decide +kernel
theorem dX9_fires_39 : decode cX9_fires 39 = .ok (.aload_n 0, 1) := by decide +kernel
theorem dX9_fires_40 : decode cX9_fires 40 = .ok (.getfield 178, 3) := by decide +kernel
theorem dX9_fires_43 : decode cX9_fires 43 = .ok (.goto 7, 3) := by decide +kernel
theorem dX9_fires_46 : decode cX9_fires 46 = .ok (.aload_n 0, 1) := by decide +kernel
theorem dX9_fires_47 : decode cX9_fires 47 = .ok (.getfield 181, 3) := by decide +kernel
theorem dX9_fires_50 : decode cX9_fires 50 = .ok (.ireturn, 1) := by decide +kernel
theorem dX9_orders_0 : decode cX9_orders 0 = .ok (.iconst 1, 1) := by decide +kernel
theorem dX9_orders_1 : decode cX9_orders 1 = .ok (.istore_n 1, 1) := by decide +kernel
theorem dX9_orders_2 : decode cX9_orders 2 = .ok (.iconst 2, 1) := by decide +kernel
theorem dX9_orders_3 : decode cX9_orders 3 = .ok (.istore_n 2, 1) := by decide +kernel
theorem dX9_orders_4 : decode cX9_orders 4 = .ok (.iload_n 2, 1) := by decide +kernel
theorem dX9_orders_5 : decode cX9_orders 5 = .ok (.iload_n 0, 1) := by decide +kernel
theorem dX9_orders_6 : decode cX9_orders 6 = .ok (.if_icmp .gt 13, 3) := by decide +kernel
theorem dX9_orders_9 : decode cX9_orders 9 = .ok (.iload_n 1, 1) := by decide +kernel
theorem dX9_orders_10 : decode cX9_orders 10 = .ok (.iload_n 2, 1) := by decide +kernel
theorem dX9_orders_11 : decode cX9_orders 11 = .ok (.imul, 1) := by decide +kernel
theorem dX9_orders_12 : decode cX9_orders 12 = .ok (.istore_n 1, 1) := by decide +kernel
theorem dX9_orders_13 : decode cX9_orders 13 = .ok (.iinc 2 1, 3) := by decide +kernel
theorem dX9_orders_16 : decode cX9_orders 16 = .ok (.goto (-12), 3) := by decide +kernel
theorem dX9_orders_19 : decode cX9_orders 19 = .ok (.iload_n 1, 1) := by decide +kernel
theorem dX9_orders_20 : decode cX9_orders 20 = .ok (.ireturn, 1) := by decide +kernel
theorem dX9_divisor_0 : decode cX9_divisor 0 = .ok (.iload_n 0, 1) := by decide +kernel
theorem dX9_divisor_1 : decode cX9_divisor 1 = .ok (.ifCond .ge 8, 3) := by decide +kernel
theorem dX9_divisor_4 : decode cX9_divisor 4 = .ok (.iload_n 0, 1) := by decide +kernel
theorem dX9_divisor_5 : decode cX9_divisor 5 = .ok (.ineg, 1) := by decide +kernel
theorem dX9_divisor_6 : decode cX9_divisor 6 = .ok (.goto 4, 3) := by decide +kernel
theorem dX9_divisor_9 : decode cX9_divisor 9 = .ok (.iload_n 0, 1) := by decide +kernel
theorem dX9_divisor_10 : decode cX9_divisor 10 = .ok (.istore_n 2, 1) := by decide +kernel
theorem dX9_divisor_11 : decode cX9_divisor 11 = .ok (.iload_n 1, 1) := by decide +kernel
theorem dX9_divisor_12 : decode cX9_divisor 12 = .ok (.istore_n 3, 1) := by decide +kernel
theorem dX9_divisor_13 : decode cX9_divisor 13 = .ok (.iload_n 3, 1) := by decide +kernel
theorem dX9_divisor_14 : decode cX9_divisor 14 = .ok (.ifCond .eq 16, 3) := by decide +kernel
theorem dX9_divisor_17 : decode cX9_divisor 17 = .ok (.iload_n 2, 1) := by decide +kernel
theorem dX9_divisor_18 : decode cX9_divisor 18 = .ok (.iload_n 3, 1) := by decide +kernel
theorem dX9_divisor_19 : decode cX9_divisor 19 = .ok (.irem, 1) := by decide +kernel
theorem dX9_divisor_20 : decode cX9_divisor 20 = .ok (.istore 4, 2) := by decide +kernel
theorem dX9_divisor_22 : decode cX9_divisor 22 = .ok (.iload_n 3, 1) := by decide +kernel
theorem dX9_divisor_23 : decode cX9_divisor 23 = .ok (.istore_n 2, 1) := by decide +kernel
theorem dX9_divisor_24 : decode cX9_divisor 24 = .ok (.iload 4, 2) := by decide +kernel
theorem dX9_divisor_26 : decode cX9_divisor 26 = .ok (.istore_n 3, 1) := by decide +kernel
theorem dX9_divisor_27 : decode cX9_divisor 27 = .ok (.goto (-14), 3) := by decide +kernel
theorem dX9_divisor_30 : decode cX9_divisor 30 = .ok (.iload_n 2, 1) := by decide +kernel
theorem dX9_divisor_31 : decode cX9_divisor 31 = .ok (.ireturn, 1) := by decide +kernel
theorem dX9_fraction_0 : decode cX9_fraction 0 = .ok (.iload_n 0, 1) := by decide +kernel
theorem dX9_fraction_1 : decode cX9_fraction 1 = .ok (.iload_n 1, 1) := by decide +kernel
theorem dX9_fraction_2 : decode cX9_fraction 2 = .ok (.invokestatic 191, 3) := by decide +kernel
theorem dX9_fraction_5 : decode cX9_fraction 5 = .ok (.istore_n 3, 1) := by decide +kernel
theorem dX9_fraction_6 : decode cX9_fraction 6 = .ok (.iload_n 2, 1) := by decide +kernel
theorem dX9_fraction_7 : decode cX9_fraction 7 = .ok (.ifCond .eq 9, 3) := by decide +kernel
theorem dX9_fraction_10 : decode cX9_fraction 10 = .ok (.iload_n 0, 1) := by decide +kernel
theorem dX9_fraction_11 : decode cX9_fraction 11 = .ok (.iload_n 3, 1) := by decide +kernel
theorem dX9_fraction_12 : decode cX9_fraction 12 = .ok (.idiv, 1) := by decide +kernel
theorem dX9_fraction_13 : decode cX9_fraction 13 = .ok (.goto 6, 3) := by decide +kernel
theorem dX9_fraction_16 : decode cX9_fraction 16 = .ok (.iload_n 1, 1) := by decide +kernel
theorem dX9_fraction_17 : decode cX9_fraction 17 = .ok (.iload_n 3, 1) := by decide +kernel
theorem dX9_fraction_18 : decode cX9_fraction 18 = .ok (.idiv, 1) := by decide +kernel
theorem dX9_fraction_19 : decode cX9_fraction 19 = .ok (.ireturn, 1) := by decide +kernel
theorem dX9_share_0 : decode cX9_share 0 = .ok (.aload_n 0, 1) := by decide +kernel
theorem dX9_share_1 : decode cX9_share 1 = .ok (.iconst 0, 1) := by decide +kernel
theorem dX9_share_2 : decode cX9_share 2 = .ok (.putfield 62, 3) := by decide +kernel
theorem dX9_share_5 : decode cX9_share 5 = .ok (.aload_n 0, 1) := by decide +kernel
theorem dX9_share_6 : decode cX9_share 6 = .ok (.iload_n 1, 1) := by decide +kernel
theorem dX9_share_7 : decode cX9_share 7 = .ok (.invokevirtual 151, 3) := by decide +kernel
theorem dX9_share_10 : decode cX9_share 10 = .ok (.ifCond .eq 5, 3) := by decide +kernel
theorem dX9_share_13 : decode cX9_share 13 = .ok (.iconst (-1), 1) := by decide +kernel
theorem dX9_share_14 : decode cX9_share 14 = .ok (.ireturn, 1) := by decide +kernel
theorem dX9_share_15 : decode cX9_share 15 = .ok (.iload_n 2, 1) := by decide +kernel
theorem dX9_share_16 : decode cX9_share 16 = .ok (.i2l, 1) := by decide +kernel
theorem dX9_share_17 : decode cX9_share 17 = .ok (.lconst 1, 1) := by decide +kernel
theorem dX9_share_18 : decode cX9_share 18 = .ok (.ldc2_w 172, 3) := by decide +kernel
theorem dX9_share_21 : decode cX9_share 21 = .ok (.invokestatic 69, 3) := by decide +kernel
theorem dX9_share_24 : decode cX9_share 24 = .ok (.ifCond .ne 6, 3) := by decide +kernel
theorem dX9_share_27 : decode cX9_share 27 = .ok (.bipush (-2), 2) := by decide +kernel
theorem dX9_share_29 : decode cX9_share 29 = .ok (.ireturn, 1) := by decide +kernel
theorem dX9_share_30 : decode cX9_share 30 = .ok (.iconst 0, 1) := by decide +kernel
theorem dX9_share_31 : decode cX9_share 31 = .ok (.istore 4, 2) := by decide +kernel
theorem dX9_share_33 : decode cX9_share 33 = .ok (.iload 4, 2) := by decide +kernel
theorem dX9_share_35 : decode cX9_share 35 = .ok (.aload_n 0, 1) := by decide +kernel
theorem dX9_share_36 : decode cX9_share 36 = .ok (.invokevirtual 145, 3) := by decide +kernel
theorem dX9_share_39 : decode cX9_share 39 = .ok (.if_icmp .gt 39, 3) := by decide +kernel
theorem dX9_share_42 : decode cX9_share 42 = .ok (.aload_n 0, 1) := by decide +kernel
theorem dX9_share_43 : decode cX9_share 43 = .ok (.getfield 56, 3) := by decide +kernel
theorem dX9_share_46 : decode cX9_share 46 = .ok (.iload 4, 2) := by decide +kernel
theorem dX9_share_48 : decode cX9_share 48 = .ok (.aload_n 0, 1) := by decide +kernel
theorem dX9_share_49 : decode cX9_share 49 = .ok (.aload_n 0, 1) := by decide +kernel
theorem dX9_share_50 : decode cX9_share 50 = .ok (.getfield 31, 3) := by decide +kernel
theorem dX9_share_53 : decode cX9_share 53 = .ok (.iload 4, 2) := by decide +kernel
theorem dX9_share_55 : decode cX9_share 55 = .ok (.aload_n 0, 1) := by decide +kernel
theorem dX9_share_56 : decode cX9_share 56 = .ok (.getfield 31, 3) := by decide +kernel
theorem dX9_share_59 : decode cX9_share 59 = .ok (.bipush 16, 2) := by decide +kernel
theorem dX9_share_61 : decode cX9_share 61 = .ok (.iaload, 1) := by decide +kernel
theorem dX9_share_62 : decode cX9_share 62 = .ok (.iload_n 2, 1) := by decide +kernel
theorem dX9_share_63 : decode cX9_share 63 = .ok (.iconst 4, 1) := by decide +kernel
theorem dX9_share_64 : decode cX9_share 64 = .ok (.aload_n 0, 1) := by decide +kernel
theorem dX9_share_65 : decode cX9_share 65 = .ok (.getfield 113, 3) := by decide +kernel
theorem dX9_share_68 : decode cX9_share 68 = .ok (.invokevirtual 164, 3) := by decide +kernel
theorem dX9_share_71 : decode cX9_share 71 = .ok (.iastore, 1) := by decide +kernel
theorem dX9_share_72 : decode cX9_share 72 = .ok (.iinc 4 1, 3) := by decide +kernel
theorem dX9_share_75 : decode cX9_share 75 = .ok (.goto (-42), 3) := by decide +kernel
theorem dX9_share_78 : decode cX9_share 78 = .ok (.iconst 0, 1) := by decide +kernel
theorem dX9_share_79 : decode cX9_share 79 = .ok (.istore 4, 2) := by decide +kernel
theorem dX9_share_81 : decode cX9_share 81 = .ok (.iconst 0, 1) := by decide +kernel
theorem dX9_share_82 : decode cX9_share 82 = .ok (.istore 5, 2) := by decide +kernel
theorem dX9_share_84 : decode cX9_share 84 = .ok (.iload 5, 2) := by decide +kernel
theorem dX9_share_86 : decode cX9_share 86 = .ok (.aload_n 0, 1) := by decide +kernel
theorem dX9_share_87 : decode cX9_share 87 = .ok (.invokevirtual 145, 3) := by decide +kernel
theorem dX9_share_90 : decode cX9_share 90 = .ok (.if_icmp .gt 68, 3) := by decide +kernel
theorem dX9_share_93 : decode cX9_share 93 = .ok (.iload 5, 2) := by decide +kernel
theorem dX9_share_95 : decode cX9_share 95 = .ok (.iload_n 1, 1) := by decide +kernel
theorem dX9_share_96 : decode cX9_share 96 = .ok (.invokestatic 119, 3) := by decide +kernel
theorem dX9_share_99 : decode cX9_share 99 = .ok (.ifCond .ne 53, 3) := by decide +kernel
theorem dX9_share_102 : decode cX9_share 102 = .ok (.iload 5, 2) := by decide +kernel
theorem dX9_share_104 : decode cX9_share 104 = .ok (.invokestatic 174, 3) := by decide +kernel
theorem dX9_share_107 : decode cX9_share 107 = .ok (.istore 6, 2) := by decide +kernel
theorem dX9_share_109 : decode cX9_share 109 = .ok (.iload 4, 2) := by decide +kernel
theorem dX9_share_111 : decode cX9_share 111 = .ok (.iload 6, 2) := by decide +kernel
theorem dX9_share_113 : decode cX9_share 113 = .ok (.invokestatic 194, 3) := by decide +kernel
theorem dX9_share_116 : decode cX9_share 116 = .ok (.aload_n 0, 1) := by decide +kernel
theorem dX9_share_117 : decode cX9_share 117 = .ok (.getfield 66, 3) := by decide +kernel
theorem dX9_share_120 : decode cX9_share 120 = .ok (.iconst 1, 1) := by decide +kernel
theorem dX9_share_121 : decode cX9_share 121 = .ok (.isub, 1) := by decide +kernel
theorem dX9_share_122 : decode cX9_share 122 = .ok (.iload 6, 2) := by decide +kernel
theorem dX9_share_124 : decode cX9_share 124 = .ok (.isub, 1) := by decide +kernel
theorem dX9_share_125 : decode cX9_share 125 = .ok (.invokestatic 194, 3) := by decide +kernel
theorem dX9_share_128 : decode cX9_share 128 = .ok (.imul, 1) := by decide +kernel
theorem dX9_share_129 : decode cX9_share 129 = .ok (.aload_n 0, 1) := by decide +kernel
theorem dX9_share_130 : decode cX9_share 130 = .ok (.getfield 56, 3) := by decide +kernel
theorem dX9_share_133 : decode cX9_share 133 = .ok (.iload 5, 2) := by decide +kernel
theorem dX9_share_135 : decode cX9_share 135 = .ok (.iconst 1, 1) := by decide +kernel
theorem dX9_share_136 : decode cX9_share 136 = .ok (.iload_n 1, 1) := by decide +kernel
theorem dX9_share_137 : decode cX9_share 137 = .ok (.ishl, 1) := by decide +kernel
theorem dX9_share_138 : decode cX9_share 138 = .ok (.ior, 1) := by decide +kernel
theorem dX9_share_139 : decode cX9_share 139 = .ok (.iaload, 1) := by decide +kernel
theorem dX9_share_140 : decode cX9_share 140 = .ok (.aload_n 0, 1) := by decide +kernel
theorem dX9_share_141 : decode cX9_share 141 = .ok (.getfield 56, 3) := by decide +kernel
theorem dX9_share_144 : decode cX9_share 144 = .ok (.iload 5, 2) := by decide +kernel
theorem dX9_share_146 : decode cX9_share 146 = .ok (.iaload, 1) := by decide +kernel
theorem dX9_share_147 : decode cX9_share 147 = .ok (.isub, 1) := by decide +kernel
theorem dX9_share_148 : decode cX9_share 148 = .ok (.imul, 1) := by decide +kernel
theorem dX9_share_149 : decode cX9_share 149 = .ok (.iadd, 1) := by decide +kernel
theorem dX9_share_150 : decode cX9_share 150 = .ok (.istore 4, 2) := by decide +kernel
theorem dX9_share_152 : decode cX9_share 152 = .ok (.iinc 5 1, 3) := by decide +kernel
theorem dX9_share_155 : decode cX9_share 155 = .ok (.goto (-71), 3) := by decide +kernel
theorem dX9_share_158 : decode cX9_share 158 = .ok (.iload 4, 2) := by decide +kernel
theorem dX9_share_160 : decode cX9_share 160 = .ok (.aload_n 0, 1) := by decide +kernel
theorem dX9_share_161 : decode cX9_share 161 = .ok (.getfield 66, 3) := by decide +kernel
theorem dX9_share_164 : decode cX9_share 164 = .ok (.invokestatic 194, 3) := by decide +kernel
theorem dX9_share_167 : decode cX9_share 167 = .ok (.iload_n 3, 1) := by decide +kernel
theorem dX9_share_168 : decode cX9_share 168 = .ok (.invokestatic 197, 3) := by decide +kernel
theorem dX9_share_171 : decode cX9_share 171 = .ok (.ireturn, 1) := by decide +kernel
theorem dX9_bestLaw_0 : decode cX9_bestLaw 0 = .ok (.aload_n 0, 1) := by decide +kernel
theorem dX9_bestLaw_1 : decode cX9_bestLaw 1 = .ok (.iconst 0, 1) := by decide +kernel
theorem dX9_bestLaw_2 : decode cX9_bestLaw 2 = .ok (.putfield 62, 3) := by decide +kernel
theorem dX9_bestLaw_5 : decode cX9_bestLaw 5 = .ok (.iload_n 1, 1) := by decide +kernel
theorem dX9_bestLaw_6 : decode cX9_bestLaw 6 = .ok (.i2l, 1) := by decide +kernel
theorem dX9_bestLaw_7 : decode cX9_bestLaw 7 = .ok (.lconst 0, 1) := by decide +kernel
theorem dX9_bestLaw_8 : decode cX9_bestLaw 8 = .ok (.ldc2_w 157, 3) := by decide +kernel
theorem dX9_bestLaw_11 : decode cX9_bestLaw 11 = .ok (.invokestatic 69, 3) := by decide +kernel
theorem dX9_bestLaw_14 : decode cX9_bestLaw 14 = .ok (.ifCond .ne 5, 3) := by decide +kernel
theorem dX9_bestLaw_17 : decode cX9_bestLaw 17 = .ok (.iconst (-1), 1) := by decide +kernel
theorem dX9_bestLaw_18 : decode cX9_bestLaw 18 = .ok (.ireturn, 1) := by decide +kernel
theorem dX9_bestLaw_19 : decode cX9_bestLaw 19 = .ok (.iload_n 2, 1) := by decide +kernel
theorem dX9_bestLaw_20 : decode cX9_bestLaw 20 = .ok (.i2l, 1) := by decide +kernel
theorem dX9_bestLaw_21 : decode cX9_bestLaw 21 = .ok (.lconst 0, 1) := by decide +kernel
theorem dX9_bestLaw_22 : decode cX9_bestLaw 22 = .ok (.ldc2_w 170, 3) := by decide +kernel
theorem dX9_bestLaw_25 : decode cX9_bestLaw 25 = .ok (.invokestatic 69, 3) := by decide +kernel
theorem dX9_bestLaw_28 : decode cX9_bestLaw 28 = .ok (.ifCond .ne 6, 3) := by decide +kernel
theorem dX9_bestLaw_31 : decode cX9_bestLaw 31 = .ok (.bipush (-2), 2) := by decide +kernel
theorem dX9_bestLaw_33 : decode cX9_bestLaw 33 = .ok (.ireturn, 1) := by decide +kernel
theorem dX9_bestLaw_34 : decode cX9_bestLaw 34 = .ok (.iconst 0, 1) := by decide +kernel
theorem dX9_bestLaw_35 : decode cX9_bestLaw 35 = .ok (.istore_n 3, 1) := by decide +kernel
theorem dX9_bestLaw_36 : decode cX9_bestLaw 36 = .ok (.bipush (-9), 2) := by decide +kernel
theorem dX9_bestLaw_38 : decode cX9_bestLaw 38 = .ok (.istore 4, 2) := by decide +kernel
theorem dX9_bestLaw_40 : decode cX9_bestLaw 40 = .ok (.iconst 0, 1) := by decide +kernel
theorem dX9_bestLaw_41 : decode cX9_bestLaw 41 = .ok (.istore 5, 2) := by decide +kernel
theorem dX9_bestLaw_43 : decode cX9_bestLaw 43 = .ok (.iload 5, 2) := by decide +kernel
theorem dX9_bestLaw_45 : decode cX9_bestLaw 45 = .ok (.iconst 3, 1) := by decide +kernel
theorem dX9_bestLaw_46 : decode cX9_bestLaw 46 = .ok (.if_icmp .ge 64, 3) := by decide +kernel
theorem dX9_bestLaw_49 : decode cX9_bestLaw 49 = .ok (.aload_n 0, 1) := by decide +kernel
theorem dX9_bestLaw_50 : decode cX9_bestLaw 50 = .ok (.aload_n 0, 1) := by decide +kernel
theorem dX9_bestLaw_51 : decode cX9_bestLaw 51 = .ok (.getfield 31, 3) := by decide +kernel
theorem dX9_bestLaw_54 : decode cX9_bestLaw 54 = .ok (.aload_n 0, 1) := by decide +kernel
theorem dX9_bestLaw_55 : decode cX9_bestLaw 55 = .ok (.invokevirtual 145, 3) := by decide +kernel
theorem dX9_bestLaw_58 : decode cX9_bestLaw 58 = .ok (.aload_n 0, 1) := by decide +kernel
theorem dX9_bestLaw_59 : decode cX9_bestLaw 59 = .ok (.getfield 31, 3) := by decide +kernel
theorem dX9_bestLaw_62 : decode cX9_bestLaw 62 = .ok (.bipush 16, 2) := by decide +kernel
theorem dX9_bestLaw_64 : decode cX9_bestLaw 64 = .ok (.iaload, 1) := by decide +kernel
theorem dX9_bestLaw_65 : decode cX9_bestLaw 65 = .ok (.iload_n 2, 1) := by decide +kernel
theorem dX9_bestLaw_66 : decode cX9_bestLaw 66 = .ok (.iload_n 1, 1) := by decide +kernel
theorem dX9_bestLaw_67 : decode cX9_bestLaw 67 = .ok (.iload 5, 2) := by decide +kernel
theorem dX9_bestLaw_69 : decode cX9_bestLaw 69 = .ok (.invokevirtual 164, 3) := by decide +kernel
theorem dX9_bestLaw_72 : decode cX9_bestLaw 72 = .ok (.istore 6, 2) := by decide +kernel
theorem dX9_bestLaw_74 : decode cX9_bestLaw 74 = .ok (.iload 6, 2) := by decide +kernel
theorem dX9_bestLaw_76 : decode cX9_bestLaw 76 = .ok (.iload 4, 2) := by decide +kernel
theorem dX9_bestLaw_78 : decode cX9_bestLaw 78 = .ok (.if_icmp .le 8, 3) := by decide +kernel
theorem dX9_bestLaw_81 : decode cX9_bestLaw 81 = .ok (.iload 5, 2) := by decide +kernel
theorem dX9_bestLaw_83 : decode cX9_bestLaw 83 = .ok (.goto 4, 3) := by decide +kernel
theorem dX9_bestLaw_86 : decode cX9_bestLaw 86 = .ok (.iload_n 3, 1) := by decide +kernel
theorem dX9_bestLaw_87 : decode cX9_bestLaw 87 = .ok (.istore_n 3, 1) := by decide +kernel
theorem dX9_bestLaw_88 : decode cX9_bestLaw 88 = .ok (.iload 6, 2) := by decide +kernel
theorem dX9_bestLaw_90 : decode cX9_bestLaw 90 = .ok (.iload 4, 2) := by decide +kernel
theorem dX9_bestLaw_92 : decode cX9_bestLaw 92 = .ok (.if_icmp .le 8, 3) := by decide +kernel
theorem dX9_bestLaw_95 : decode cX9_bestLaw 95 = .ok (.iload 6, 2) := by decide +kernel
theorem dX9_bestLaw_97 : decode cX9_bestLaw 97 = .ok (.goto 5, 3) := by decide +kernel
theorem dX9_bestLaw_100 : decode cX9_bestLaw 100 = .ok (.iload 4, 2) := by decide +kernel
theorem dX9_bestLaw_102 : decode cX9_bestLaw 102 = .ok (.istore 4, 2) := by decide +kernel
theorem dX9_bestLaw_104 : decode cX9_bestLaw 104 = .ok (.iinc 5 1, 3) := by decide +kernel
theorem dX9_bestLaw_107 : decode cX9_bestLaw 107 = .ok (.goto (-64), 3) := by decide +kernel
theorem dX9_bestLaw_110 : decode cX9_bestLaw 110 = .ok (.iload_n 3, 1) := by decide +kernel
theorem dX9_bestLaw_111 : decode cX9_bestLaw 111 = .ok (.ireturn, 1) := by decide +kernel
theorem dX9_starless_0 : decode cX9_starless 0 = .ok (.aload_n 0, 1) := by decide +kernel
theorem dX9_starless_1 : decode cX9_starless 1 = .ok (.iconst 0, 1) := by decide +kernel
theorem dX9_starless_2 : decode cX9_starless 2 = .ok (.putfield 62, 3) := by decide +kernel
theorem dX9_starless_5 : decode cX9_starless 5 = .ok (.iload_n 1, 1) := by decide +kernel
theorem dX9_starless_6 : decode cX9_starless 6 = .ok (.i2l, 1) := by decide +kernel
theorem dX9_starless_7 : decode cX9_starless 7 = .ok (.lconst 1, 1) := by decide +kernel
theorem dX9_starless_8 : decode cX9_starless 8 = .ok (.ldc2_w 172, 3) := by decide +kernel
theorem dX9_starless_11 : decode cX9_starless 11 = .ok (.invokestatic 69, 3) := by decide +kernel
theorem dX9_starless_14 : decode cX9_starless 14 = .ok (.ifCond .ne 6, 3) := by decide +kernel
theorem dX9_starless_17 : decode cX9_starless 17 = .ok (.bipush (-2), 2) := by decide +kernel
theorem dX9_starless_19 : decode cX9_starless 19 = .ok (.ireturn, 1) := by decide +kernel
theorem dX9_starless_20 : decode cX9_starless 20 = .ok (.iconst 0, 1) := by decide +kernel
theorem dX9_starless_21 : decode cX9_starless 21 = .ok (.istore_n 2, 1) := by decide +kernel
theorem dX9_starless_22 : decode cX9_starless 22 = .ok (.iconst 0, 1) := by decide +kernel
theorem dX9_starless_23 : decode cX9_starless 23 = .ok (.istore_n 3, 1) := by decide +kernel
theorem dX9_starless_24 : decode cX9_starless 24 = .ok (.iconst 0, 1) := by decide +kernel
theorem dX9_starless_25 : decode cX9_starless 25 = .ok (.istore 4, 2) := by decide +kernel
theorem dX9_starless_27 : decode cX9_starless 27 = .ok (.iload 4, 2) := by decide +kernel
theorem dX9_starless_29 : decode cX9_starless 29 = .ok (.aload_n 0, 1) := by decide +kernel
theorem dX9_starless_30 : decode cX9_starless 30 = .ok (.getfield 66, 3) := by decide +kernel
theorem dX9_starless_33 : decode cX9_starless 33 = .ok (.if_icmp .ge 24, 3) := by decide +kernel
theorem dX9_starless_36 : decode cX9_starless 36 = .ok (.iload_n 2, 1) := by decide +kernel
theorem dX9_starless_37 : decode cX9_starless 37 = .ok (.iconst 1, 1) := by decide +kernel
theorem dX9_starless_38 : decode cX9_starless 38 = .ok (.aload_n 0, 1) := by decide +kernel
theorem dX9_starless_39 : decode cX9_starless 39 = .ok (.getfield 31, 3) := by decide +kernel
theorem dX9_starless_42 : decode cX9_starless 42 = .ok (.bipush 6, 2) := by decide +kernel
theorem dX9_starless_44 : decode cX9_starless 44 = .ok (.iload 4, 2) := by decide +kernel
theorem dX9_starless_46 : decode cX9_starless 46 = .ok (.iadd, 1) := by decide +kernel
theorem dX9_starless_47 : decode cX9_starless 47 = .ok (.iaload, 1) := by decide +kernel
theorem dX9_starless_48 : decode cX9_starless 48 = .ok (.ishl, 1) := by decide +kernel
theorem dX9_starless_49 : decode cX9_starless 49 = .ok (.ior, 1) := by decide +kernel
theorem dX9_starless_50 : decode cX9_starless 50 = .ok (.istore_n 2, 1) := by decide +kernel
theorem dX9_starless_51 : decode cX9_starless 51 = .ok (.iinc 4 1, 3) := by decide +kernel
theorem dX9_starless_54 : decode cX9_starless 54 = .ok (.goto (-27), 3) := by decide +kernel
theorem dX9_starless_57 : decode cX9_starless 57 = .ok (.aload_n 0, 1) := by decide +kernel
theorem dX9_starless_58 : decode cX9_starless 58 = .ok (.getfield 31, 3) := by decide +kernel
theorem dX9_starless_61 : decode cX9_starless 61 = .ok (.bipush 16, 2) := by decide +kernel
theorem dX9_starless_63 : decode cX9_starless 63 = .ok (.iaload, 1) := by decide +kernel
theorem dX9_starless_64 : decode cX9_starless 64 = .ok (.istore 4, 2) := by decide +kernel
theorem dX9_starless_66 : decode cX9_starless 66 = .ok (.iload 4, 2) := by decide +kernel
theorem dX9_starless_68 : decode cX9_starless 68 = .ok (.aload_n 0, 1) := by decide +kernel
theorem dX9_starless_69 : decode cX9_starless 69 = .ok (.getfield 31, 3) := by decide +kernel
theorem dX9_starless_72 : decode cX9_starless 72 = .ok (.bipush 16, 2) := by decide +kernel
theorem dX9_starless_74 : decode cX9_starless 74 = .ok (.iaload, 1) := by decide +kernel
theorem dX9_starless_75 : decode cX9_starless 75 = .ok (.iload_n 1, 1) := by decide +kernel
theorem dX9_starless_76 : decode cX9_starless 76 = .ok (.iadd, 1) := by decide +kernel
theorem dX9_starless_77 : decode cX9_starless 77 = .ok (.if_icmp .ge 75, 3) := by decide +kernel
theorem dX9_starless_80 : decode cX9_starless 80 = .ok (.iconst 0, 1) := by decide +kernel
theorem dX9_starless_81 : decode cX9_starless 81 = .ok (.istore 5, 2) := by decide +kernel
theorem dX9_starless_83 : decode cX9_starless 83 = .ok (.iload 5, 2) := by decide +kernel
theorem dX9_starless_85 : decode cX9_starless 85 = .ok (.aload_n 0, 1) := by decide +kernel
theorem dX9_starless_86 : decode cX9_starless 86 = .ok (.getfield 73, 3) := by decide +kernel
theorem dX9_starless_89 : decode cX9_starless 89 = .ok (.if_icmp .ge 57, 3) := by decide +kernel
theorem dX9_starless_92 : decode cX9_starless 92 = .ok (.aload_n 0, 1) := by decide +kernel
theorem dX9_starless_93 : decode cX9_starless 93 = .ok (.aload_n 0, 1) := by decide +kernel
theorem dX9_starless_94 : decode cX9_starless 94 = .ok (.getfield 31, 3) := by decide +kernel
theorem dX9_starless_97 : decode cX9_starless 97 = .ok (.aload_n 0, 1) := by decide +kernel
theorem dX9_starless_98 : decode cX9_starless 98 = .ok (.invokevirtual 145, 3) := by decide +kernel
theorem dX9_starless_101 : decode cX9_starless 101 = .ok (.iload 5, 2) := by decide +kernel
theorem dX9_starless_103 : decode cX9_starless 103 = .ok (.iload 4, 2) := by decide +kernel
theorem dX9_starless_105 : decode cX9_starless 105 = .ok (.aload_n 0, 1) := by decide +kernel
theorem dX9_starless_106 : decode cX9_starless 106 = .ok (.getfield 113, 3) := by decide +kernel
theorem dX9_starless_109 : decode cX9_starless 109 = .ok (.invokevirtual 137, 3) := by decide +kernel
theorem dX9_starless_112 : decode cX9_starless 112 = .ok (.istore 6, 2) := by decide +kernel
theorem dX9_starless_114 : decode cX9_starless 114 = .ok (.iload_n 3, 1) := by decide +kernel
theorem dX9_starless_115 : decode cX9_starless 115 = .ok (.iload 6, 2) := by decide +kernel
theorem dX9_starless_117 : decode cX9_starless 117 = .ok (.bipush (-9), 2) := by decide +kernel
theorem dX9_starless_119 : decode cX9_starless 119 = .ok (.if_icmp .ne 7, 3) := by decide +kernel
theorem dX9_starless_122 : decode cX9_starless 122 = .ok (.iconst 0, 1) := by decide +kernel
theorem dX9_starless_123 : decode cX9_starless 123 = .ok (.goto 15, 3) := by decide +kernel
theorem dX9_starless_126 : decode cX9_starless 126 = .ok (.iconst 1, 1) := by decide +kernel
theorem dX9_starless_127 : decode cX9_starless 127 = .ok (.aload_n 0, 1) := by decide +kernel
theorem dX9_starless_128 : decode cX9_starless 128 = .ok (.getfield 31, 3) := by decide +kernel
theorem dX9_starless_131 : decode cX9_starless 131 = .ok (.bipush 6, 2) := by decide +kernel
theorem dX9_starless_133 : decode cX9_starless 133 = .ok (.iload 6, 2) := by decide +kernel
theorem dX9_starless_135 : decode cX9_starless 135 = .ok (.iadd, 1) := by decide +kernel
theorem dX9_starless_136 : decode cX9_starless 136 = .ok (.iaload, 1) := by decide +kernel
theorem dX9_starless_137 : decode cX9_starless 137 = .ok (.ishl, 1) := by decide +kernel
theorem dX9_starless_138 : decode cX9_starless 138 = .ok (.ior, 1) := by decide +kernel
theorem dX9_starless_139 : decode cX9_starless 139 = .ok (.istore_n 3, 1) := by decide +kernel
theorem dX9_starless_140 : decode cX9_starless 140 = .ok (.iinc 5 1, 3) := by decide +kernel
theorem dX9_starless_143 : decode cX9_starless 143 = .ok (.goto (-60), 3) := by decide +kernel
theorem dX9_starless_146 : decode cX9_starless 146 = .ok (.iinc 4 1, 3) := by decide +kernel
theorem dX9_starless_149 : decode cX9_starless 149 = .ok (.goto (-83), 3) := by decide +kernel
theorem dX9_starless_152 : decode cX9_starless 152 = .ok (.iconst 0, 1) := by decide +kernel
theorem dX9_starless_153 : decode cX9_starless 153 = .ok (.istore 4, 2) := by decide +kernel
theorem dX9_starless_155 : decode cX9_starless 155 = .ok (.iload 4, 2) := by decide +kernel
theorem dX9_starless_157 : decode cX9_starless 157 = .ok (.iconst 4, 1) := by decide +kernel
theorem dX9_starless_158 : decode cX9_starless 158 = .ok (.if_icmp .ge 25, 3) := by decide +kernel
theorem dX9_starless_161 : decode cX9_starless 161 = .ok (.iload_n 2, 1) := by decide +kernel
theorem dX9_starless_162 : decode cX9_starless 162 = .ok (.iload_n 3, 1) := by decide +kernel
theorem dX9_starless_163 : decode cX9_starless 163 = .ok (.iconst (-1), 1) := by decide +kernel
theorem dX9_starless_164 : decode cX9_starless 164 = .ok (.ixor, 1) := by decide +kernel
theorem dX9_starless_165 : decode cX9_starless 165 = .ok (.iand, 1) := by decide +kernel
theorem dX9_starless_166 : decode cX9_starless 166 = .ok (.iload 4, 2) := by decide +kernel
theorem dX9_starless_168 : decode cX9_starless 168 = .ok (.invokestatic 119, 3) := by decide +kernel
theorem dX9_starless_171 : decode cX9_starless 171 = .ok (.ifCond .eq 6, 3) := by decide +kernel
theorem dX9_starless_174 : decode cX9_starless 174 = .ok (.iload 4, 2) := by decide +kernel
theorem dX9_starless_176 : decode cX9_starless 176 = .ok (.ireturn, 1) := by decide +kernel
theorem dX9_starless_177 : decode cX9_starless 177 = .ok (.iinc 4 1, 3) := by decide +kernel
theorem dX9_starless_180 : decode cX9_starless 180 = .ok (.goto (-25), 3) := by decide +kernel
theorem dX9_starless_183 : decode cX9_starless 183 = .ok (.bipush (-9), 2) := by decide +kernel
theorem dX9_starless_185 : decode cX9_starless 185 = .ok (.ireturn, 1) := by decide +kernel
theorem dX9_layRest_0 : decode cX9_layRest 0 = .ok (.aload_n 0, 1) := by decide +kernel
theorem dX9_layRest_1 : decode cX9_layRest 1 = .ok (.invokevirtual 184, 3) := by decide +kernel
theorem dX9_layRest_4 : decode cX9_layRest 4 = .ok (.aload_n 0, 1) := by decide +kernel
theorem dX9_layRest_5 : decode cX9_layRest 5 = .ok (.getfield 34, 3) := by decide +kernel
theorem dX9_layRest_8 : decode cX9_layRest 8 = .ok (.iload_n 1, 1) := by decide +kernel
theorem dX9_layRest_9 : decode cX9_layRest 9 = .ok (.iload_n 2, 1) := by decide +kernel
theorem dX9_layRest_10 : decode cX9_layRest 10 = .ok (.iastore, 1) := by decide +kernel
theorem dX9_layRest_11 : decode cX9_layRest 11 = .ok (.aload_n 0, 1) := by decide +kernel
theorem dX9_layRest_12 : decode cX9_layRest 12 = .ok (.getfield 34, 3) := by decide +kernel
theorem dX9_layRest_15 : decode cX9_layRest 15 = .ok (.iload_n 3, 1) := by decide +kernel
theorem dX9_layRest_16 : decode cX9_layRest 16 = .ok (.iload 4, 2) := by decide +kernel
theorem dX9_layRest_18 : decode cX9_layRest 18 = .ok (.iastore, 1) := by decide +kernel
theorem dX9_layRest_19 : decode cX9_layRest 19 = .ok (.aload_n 0, 1) := by decide +kernel
theorem dX9_layRest_20 : decode cX9_layRest 20 = .ok (.iload_n 2, 1) := by decide +kernel
theorem dX9_layRest_21 : decode cX9_layRest 21 = .ok (.ineg, 1) := by decide +kernel
theorem dX9_layRest_22 : decode cX9_layRest 22 = .ok (.putfield 201, 3) := by decide +kernel
theorem dX9_layRest_25 : decode cX9_layRest 25 = .ok (.aload_n 0, 1) := by decide +kernel
theorem dX9_layRest_26 : decode cX9_layRest 26 = .ok (.iload 4, 2) := by decide +kernel
theorem dX9_layRest_28 : decode cX9_layRest 28 = .ok (.ineg, 1) := by decide +kernel
theorem dX9_layRest_29 : decode cX9_layRest 29 = .ok (.putfield 204, 3) := by decide +kernel
theorem dX9_layRest_32 : decode cX9_layRest 32 = .ok (.aload_n 0, 1) := by decide +kernel
theorem dX9_layRest_33 : decode cX9_layRest 33 = .ok (.getfield 31, 3) := by decide +kernel
theorem dX9_layRest_36 : decode cX9_layRest 36 = .ok (.bipush 16, 2) := by decide +kernel
theorem dX9_layRest_38 : decode cX9_layRest 38 = .ok (.iaload, 1) := by decide +kernel
theorem dX9_layRest_39 : decode cX9_layRest 39 = .ok (.istore 6, 2) := by decide +kernel
theorem dX9_layRest_41 : decode cX9_layRest 41 = .ok (.iload 6, 2) := by decide +kernel
theorem dX9_layRest_43 : decode cX9_layRest 43 = .ok (.aload_n 0, 1) := by decide +kernel
theorem dX9_layRest_44 : decode cX9_layRest 44 = .ok (.getfield 31, 3) := by decide +kernel
theorem dX9_layRest_47 : decode cX9_layRest 47 = .ok (.bipush 16, 2) := by decide +kernel
theorem dX9_layRest_49 : decode cX9_layRest 49 = .ok (.iaload, 1) := by decide +kernel
theorem dX9_layRest_50 : decode cX9_layRest 50 = .ok (.iload 5, 2) := by decide +kernel
theorem dX9_layRest_52 : decode cX9_layRest 52 = .ok (.iadd, 1) := by decide +kernel
theorem dX9_layRest_53 : decode cX9_layRest 53 = .ok (.if_icmp .ge 133, 3) := by decide +kernel
theorem dX9_layRest_56 : decode cX9_layRest 56 = .ok (.aload_n 0, 1) := by decide +kernel
theorem dX9_layRest_57 : decode cX9_layRest 57 = .ok (.getfield 31, 3) := by decide +kernel
theorem dX9_layRest_60 : decode cX9_layRest 60 = .ok (.bipush 11, 2) := by decide +kernel
theorem dX9_layRest_62 : decode cX9_layRest 62 = .ok (.iaload, 1) := by decide +kernel
theorem dX9_layRest_63 : decode cX9_layRest 63 = .ok (.ifCond .ne 123, 3) := by decide +kernel
theorem dX9_layRest_66 : decode cX9_layRest 66 = .ok (.iconst 0, 1) := by decide +kernel
theorem dX9_layRest_67 : decode cX9_layRest 67 = .ok (.istore 7, 2) := by decide +kernel
theorem dX9_layRest_69 : decode cX9_layRest 69 = .ok (.iload 7, 2) := by decide +kernel
theorem dX9_layRest_71 : decode cX9_layRest 71 = .ok (.aload_n 0, 1) := by decide +kernel
theorem dX9_layRest_72 : decode cX9_layRest 72 = .ok (.getfield 73, 3) := by decide +kernel
theorem dX9_layRest_75 : decode cX9_layRest 75 = .ok (.if_icmp .ge 105, 3) := by decide +kernel
theorem dX9_layRest_78 : decode cX9_layRest 78 = .ok (.aload_n 0, 1) := by decide +kernel
theorem dX9_layRest_79 : decode cX9_layRest 79 = .ok (.aload_n 0, 1) := by decide +kernel
theorem dX9_layRest_80 : decode cX9_layRest 80 = .ok (.getfield 34, 3) := by decide +kernel
theorem dX9_layRest_83 : decode cX9_layRest 83 = .ok (.aload_n 0, 1) := by decide +kernel
theorem dX9_layRest_84 : decode cX9_layRest 84 = .ok (.invokevirtual 145, 3) := by decide +kernel
theorem dX9_layRest_87 : decode cX9_layRest 87 = .ok (.iload 7, 2) := by decide +kernel
theorem dX9_layRest_89 : decode cX9_layRest 89 = .ok (.iload 6, 2) := by decide +kernel
theorem dX9_layRest_91 : decode cX9_layRest 91 = .ok (.aload_n 0, 1) := by decide +kernel
theorem dX9_layRest_92 : decode cX9_layRest 92 = .ok (.getfield 113, 3) := by decide +kernel
theorem dX9_layRest_95 : decode cX9_layRest 95 = .ok (.invokevirtual 137, 3) := by decide +kernel
theorem dX9_layRest_98 : decode cX9_layRest 98 = .ok (.istore 8, 2) := by decide +kernel
theorem dX9_layRest_100 : decode cX9_layRest 100 = .ok (.aload_n 0, 1) := by decide +kernel
theorem dX9_layRest_101 : decode cX9_layRest 101 = .ok (.dup, 1) := by decide +kernel
theorem dX9_layRest_102 : decode cX9_layRest 102 = .ok (.getfield 201, 3) := by decide +kernel
theorem dX9_layRest_105 : decode cX9_layRest 105 = .ok (.iload 8, 2) := by decide +kernel
theorem dX9_layRest_107 : decode cX9_layRest 107 = .ok (.iload_n 1, 1) := by decide +kernel
theorem dX9_layRest_108 : decode cX9_layRest 108 = .ok (.if_icmp .ne 24, 3) := by decide +kernel
theorem dX9_layRest_111 : decode cX9_layRest 111 = .ok (.aload_n 0, 1) := by decide +kernel
theorem dX9_layRest_112 : decode cX9_layRest 112 = .ok (.iload 7, 2) := by decide +kernel
theorem dX9_layRest_114 : decode cX9_layRest 114 = .ok (.aload_n 0, 1) := by decide +kernel
theorem dX9_layRest_115 : decode cX9_layRest 115 = .ok (.invokevirtual 145, 3) := by decide +kernel
theorem dX9_layRest_118 : decode cX9_layRest 118 = .ok (.aload_n 0, 1) := by decide +kernel
theorem dX9_layRest_119 : decode cX9_layRest 119 = .ok (.getfield 34, 3) := by decide +kernel
theorem dX9_layRest_122 : decode cX9_layRest 122 = .ok (.iconst 5, 1) := by decide +kernel
theorem dX9_layRest_123 : decode cX9_layRest 123 = .ok (.iaload, 1) := by decide +kernel
theorem dX9_layRest_124 : decode cX9_layRest 124 = .ok (.iload 8, 2) := by decide +kernel
theorem dX9_layRest_126 : decode cX9_layRest 126 = .ok (.invokevirtual 141, 3) := by decide +kernel
theorem dX9_layRest_129 : decode cX9_layRest 129 = .ok (.goto 4, 3) := by decide +kernel
theorem dX9_layRest_132 : decode cX9_layRest 132 = .ok (.iconst 0, 1) := by decide +kernel
theorem dX9_layRest_133 : decode cX9_layRest 133 = .ok (.iadd, 1) := by decide +kernel
theorem dX9_layRest_134 : decode cX9_layRest 134 = .ok (.putfield 201, 3) := by decide +kernel
theorem dX9_layRest_137 : decode cX9_layRest 137 = .ok (.aload_n 0, 1) := by decide +kernel
theorem dX9_layRest_138 : decode cX9_layRest 138 = .ok (.dup, 1) := by decide +kernel
theorem dX9_layRest_139 : decode cX9_layRest 139 = .ok (.getfield 204, 3) := by decide +kernel
theorem dX9_layRest_142 : decode cX9_layRest 142 = .ok (.iload 8, 2) := by decide +kernel
theorem dX9_layRest_144 : decode cX9_layRest 144 = .ok (.iload_n 3, 1) := by decide +kernel
theorem dX9_layRest_145 : decode cX9_layRest 145 = .ok (.if_icmp .ne 24, 3) := by decide +kernel
theorem dX9_layRest_148 : decode cX9_layRest 148 = .ok (.aload_n 0, 1) := by decide +kernel
theorem dX9_layRest_149 : decode cX9_layRest 149 = .ok (.iload 7, 2) := by decide +kernel
theorem dX9_layRest_151 : decode cX9_layRest 151 = .ok (.aload_n 0, 1) := by decide +kernel
theorem dX9_layRest_152 : decode cX9_layRest 152 = .ok (.invokevirtual 145, 3) := by decide +kernel
theorem dX9_layRest_155 : decode cX9_layRest 155 = .ok (.aload_n 0, 1) := by decide +kernel
theorem dX9_layRest_156 : decode cX9_layRest 156 = .ok (.getfield 34, 3) := by decide +kernel
theorem dX9_layRest_159 : decode cX9_layRest 159 = .ok (.iconst 5, 1) := by decide +kernel
theorem dX9_layRest_160 : decode cX9_layRest 160 = .ok (.iaload, 1) := by decide +kernel
theorem dX9_layRest_161 : decode cX9_layRest 161 = .ok (.iload 8, 2) := by decide +kernel
theorem dX9_layRest_163 : decode cX9_layRest 163 = .ok (.invokevirtual 141, 3) := by decide +kernel
theorem dX9_layRest_166 : decode cX9_layRest 166 = .ok (.goto 4, 3) := by decide +kernel
theorem dX9_layRest_169 : decode cX9_layRest 169 = .ok (.iconst 0, 1) := by decide +kernel
theorem dX9_layRest_170 : decode cX9_layRest 170 = .ok (.iadd, 1) := by decide +kernel
theorem dX9_layRest_171 : decode cX9_layRest 171 = .ok (.putfield 204, 3) := by decide +kernel
theorem dX9_layRest_174 : decode cX9_layRest 174 = .ok (.iinc 7 1, 3) := by decide +kernel
theorem dX9_layRest_177 : decode cX9_layRest 177 = .ok (.goto (-108), 3) := by decide +kernel
theorem dX9_layRest_180 : decode cX9_layRest 180 = .ok (.iinc 6 1, 3) := by decide +kernel
theorem dX9_layRest_183 : decode cX9_layRest 183 = .ok (.goto (-142), 3) := by decide +kernel
theorem dX9_layRest_186 : decode cX9_layRest 186 = .ok (.return_, 1) := by decide +kernel
theorem dX9_doesRest_0 : decode cX9_doesRest 0 = .ok (.aload_n 0, 1) := by decide +kernel
theorem dX9_doesRest_1 : decode cX9_doesRest 1 = .ok (.iload_n 1, 1) := by decide +kernel
theorem dX9_doesRest_2 : decode cX9_doesRest 2 = .ok (.iload_n 2, 1) := by decide +kernel
theorem dX9_doesRest_3 : decode cX9_doesRest 3 = .ok (.iload_n 3, 1) := by decide +kernel
theorem dX9_doesRest_4 : decode cX9_doesRest 4 = .ok (.iload 4, 2) := by decide +kernel
theorem dX9_doesRest_6 : decode cX9_doesRest 6 = .ok (.iload 5, 2) := by decide +kernel
theorem dX9_doesRest_8 : decode cX9_doesRest 8 = .ok (.invokevirtual 207, 3) := by decide +kernel
theorem dX9_doesRest_11 : decode cX9_doesRest 11 = .ok (.aload_n 0, 1) := by decide +kernel
theorem dX9_doesRest_12 : decode cX9_doesRest 12 = .ok (.getfield 201, 3) := by decide +kernel
theorem dX9_doesRest_15 : decode cX9_doesRest 15 = .ok (.istore 6, 2) := by decide +kernel
theorem dX9_doesRest_17 : decode cX9_doesRest 17 = .ok (.aload_n 0, 1) := by decide +kernel
theorem dX9_doesRest_18 : decode cX9_doesRest 18 = .ok (.getfield 204, 3) := by decide +kernel
theorem dX9_doesRest_21 : decode cX9_doesRest 21 = .ok (.istore 7, 2) := by decide +kernel
theorem dX9_doesRest_23 : decode cX9_doesRest 23 = .ok (.iconst 1, 1) := by decide +kernel
theorem dX9_doesRest_24 : decode cX9_doesRest 24 = .ok (.istore 8, 2) := by decide +kernel
theorem dX9_doesRest_26 : decode cX9_doesRest 26 = .ok (.iconst 0, 1) := by decide +kernel
theorem dX9_doesRest_27 : decode cX9_doesRest 27 = .ok (.istore 9, 2) := by decide +kernel
theorem dX9_doesRest_29 : decode cX9_doesRest 29 = .ok (.iload 9, 2) := by decide +kernel
theorem dX9_doesRest_31 : decode cX9_doesRest 31 = .ok (.bipush 10, 2) := by decide +kernel
theorem dX9_doesRest_33 : decode cX9_doesRest 33 = .ok (.if_icmp .ge 74, 3) := by decide +kernel
theorem dX9_doesRest_36 : decode cX9_doesRest 36 = .ok (.iload 8, 2) := by decide +kernel
theorem dX9_doesRest_38 : decode cX9_doesRest 38 = .ok (.ifCond .eq 69, 3) := by decide +kernel
theorem dX9_doesRest_41 : decode cX9_doesRest 41 = .ok (.aload_n 0, 1) := by decide +kernel
theorem dX9_doesRest_42 : decode cX9_doesRest 42 = .ok (.iload_n 1, 1) := by decide +kernel
theorem dX9_doesRest_43 : decode cX9_doesRest 43 = .ok (.iload 9, 2) := by decide +kernel
theorem dX9_doesRest_45 : decode cX9_doesRest 45 = .ok (.iload_n 3, 1) := by decide +kernel
theorem dX9_doesRest_46 : decode cX9_doesRest 46 = .ok (.iload 4, 2) := by decide +kernel
theorem dX9_doesRest_48 : decode cX9_doesRest 48 = .ok (.iload 5, 2) := by decide +kernel
theorem dX9_doesRest_50 : decode cX9_doesRest 50 = .ok (.invokevirtual 207, 3) := by decide +kernel
theorem dX9_doesRest_53 : decode cX9_doesRest 53 = .ok (.aload_n 0, 1) := by decide +kernel
theorem dX9_doesRest_54 : decode cX9_doesRest 54 = .ok (.getfield 201, 3) := by decide +kernel
theorem dX9_doesRest_57 : decode cX9_doesRest 57 = .ok (.iload 6, 2) := by decide +kernel
theorem dX9_doesRest_59 : decode cX9_doesRest 59 = .ok (.if_icmp .gt 7, 3) := by decide +kernel
theorem dX9_doesRest_62 : decode cX9_doesRest 62 = .ok (.iconst 1, 1) := by decide +kernel
theorem dX9_doesRest_63 : decode cX9_doesRest 63 = .ok (.goto 4, 3) := by decide +kernel
theorem dX9_doesRest_66 : decode cX9_doesRest 66 = .ok (.iconst 0, 1) := by decide +kernel
theorem dX9_doesRest_67 : decode cX9_doesRest 67 = .ok (.istore 8, 2) := by decide +kernel
theorem dX9_doesRest_69 : decode cX9_doesRest 69 = .ok (.aload_n 0, 1) := by decide +kernel
theorem dX9_doesRest_70 : decode cX9_doesRest 70 = .ok (.iload_n 1, 1) := by decide +kernel
theorem dX9_doesRest_71 : decode cX9_doesRest 71 = .ok (.iload_n 2, 1) := by decide +kernel
theorem dX9_doesRest_72 : decode cX9_doesRest 72 = .ok (.iload_n 3, 1) := by decide +kernel
theorem dX9_doesRest_73 : decode cX9_doesRest 73 = .ok (.iload 9, 2) := by decide +kernel
theorem dX9_doesRest_75 : decode cX9_doesRest 75 = .ok (.iload 5, 2) := by decide +kernel
theorem dX9_doesRest_77 : decode cX9_doesRest 77 = .ok (.invokevirtual 207, 3) := by decide +kernel
theorem dX9_doesRest_80 : decode cX9_doesRest 80 = .ok (.iload 8, 2) := by decide +kernel
theorem dX9_doesRest_82 : decode cX9_doesRest 82 = .ok (.ifCond .eq 16, 3) := by decide +kernel
theorem dX9_doesRest_85 : decode cX9_doesRest 85 = .ok (.aload_n 0, 1) := by decide +kernel
theorem dX9_doesRest_86 : decode cX9_doesRest 86 = .ok (.getfield 204, 3) := by decide +kernel
theorem dX9_doesRest_89 : decode cX9_doesRest 89 = .ok (.iload 7, 2) := by decide +kernel
theorem dX9_doesRest_91 : decode cX9_doesRest 91 = .ok (.if_icmp .gt 7, 3) := by decide +kernel
theorem dX9_doesRest_94 : decode cX9_doesRest 94 = .ok (.iconst 1, 1) := by decide +kernel
theorem dX9_doesRest_95 : decode cX9_doesRest 95 = .ok (.goto 4, 3) := by decide +kernel
theorem dX9_doesRest_98 : decode cX9_doesRest 98 = .ok (.iconst 0, 1) := by decide +kernel
theorem dX9_doesRest_99 : decode cX9_doesRest 99 = .ok (.istore 8, 2) := by decide +kernel
theorem dX9_doesRest_101 : decode cX9_doesRest 101 = .ok (.iinc 9 1, 3) := by decide +kernel
theorem dX9_doesRest_104 : decode cX9_doesRest 104 = .ok (.goto (-75), 3) := by decide +kernel
theorem dX9_doesRest_107 : decode cX9_doesRest 107 = .ok (.iload 8, 2) := by decide +kernel
theorem dX9_doesRest_109 : decode cX9_doesRest 109 = .ok (.ireturn, 1) := by decide +kernel
theorem dX9_rests_0 : decode cX9_rests 0 = .ok (.aload_n 0, 1) := by decide +kernel
theorem dX9_rests_1 : decode cX9_rests 1 = .ok (.iconst 0, 1) := by decide +kernel
theorem dX9_rests_2 : decode cX9_rests 2 = .ok (.putfield 62, 3) := by decide +kernel
theorem dX9_rests_5 : decode cX9_rests 5 = .ok (.aload_n 0, 1) := by decide +kernel
theorem dX9_rests_6 : decode cX9_rests 6 = .ok (.iload_n 1, 1) := by decide +kernel
theorem dX9_rests_7 : decode cX9_rests 7 = .ok (.invokevirtual 151, 3) := by decide +kernel
theorem dX9_rests_10 : decode cX9_rests 10 = .ok (.ifCond .ne 11, 3) := by decide +kernel
theorem dX9_rests_13 : decode cX9_rests 13 = .ok (.aload_n 0, 1) := by decide +kernel
theorem dX9_rests_14 : decode cX9_rests 14 = .ok (.iload_n 2, 1) := by decide +kernel
theorem dX9_rests_15 : decode cX9_rests 15 = .ok (.invokevirtual 151, 3) := by decide +kernel
theorem dX9_rests_18 : decode cX9_rests 18 = .ok (.ifCond .eq 5, 3) := by decide +kernel
theorem dX9_rests_21 : decode cX9_rests 21 = .ok (.iconst (-1), 1) := by decide +kernel
theorem dX9_rests_22 : decode cX9_rests 22 = .ok (.ireturn, 1) := by decide +kernel
theorem dX9_rests_23 : decode cX9_rests 23 = .ok (.iload_n 1, 1) := by decide +kernel
theorem dX9_rests_24 : decode cX9_rests 24 = .ok (.iload_n 2, 1) := by decide +kernel
theorem dX9_rests_25 : decode cX9_rests 25 = .ok (.if_icmp .eq 26, 3) := by decide +kernel
theorem dX9_rests_28 : decode cX9_rests 28 = .ok (.iload_n 3, 1) := by decide +kernel
theorem dX9_rests_29 : decode cX9_rests 29 = .ok (.i2l, 1) := by decide +kernel
theorem dX9_rests_30 : decode cX9_rests 30 = .ok (.lconst 1, 1) := by decide +kernel
theorem dX9_rests_31 : decode cX9_rests 31 = .ok (.ldc2_w 172, 3) := by decide +kernel
theorem dX9_rests_34 : decode cX9_rests 34 = .ok (.invokestatic 69, 3) := by decide +kernel
theorem dX9_rests_37 : decode cX9_rests 37 = .ok (.ifCond .eq 14, 3) := by decide +kernel
theorem dX9_rests_40 : decode cX9_rests 40 = .ok (.iload 4, 2) := by decide +kernel
theorem dX9_rests_42 : decode cX9_rests 42 = .ok (.i2l, 1) := by decide +kernel
theorem dX9_rests_43 : decode cX9_rests 43 = .ok (.lconst 0, 1) := by decide +kernel
theorem dX9_rests_44 : decode cX9_rests 44 = .ok (.lconst 1, 1) := by decide +kernel
theorem dX9_rests_45 : decode cX9_rests 45 = .ok (.invokestatic 69, 3) := by decide +kernel
theorem dX9_rests_48 : decode cX9_rests 48 = .ok (.ifCond .ne 6, 3) := by decide +kernel
theorem dX9_rests_51 : decode cX9_rests 51 = .ok (.bipush (-2), 2) := by decide +kernel
theorem dX9_rests_53 : decode cX9_rests 53 = .ok (.ireturn, 1) := by decide +kernel
theorem dX9_rests_54 : decode cX9_rests 54 = .ok (.aload_n 0, 1) := by decide +kernel
theorem dX9_rests_55 : decode cX9_rests 55 = .ok (.iconst 0, 1) := by decide +kernel
theorem dX9_rests_56 : decode cX9_rests 56 = .ok (.putfield 211, 3) := by decide +kernel
theorem dX9_rests_59 : decode cX9_rests 59 = .ok (.aload_n 0, 1) := by decide +kernel
theorem dX9_rests_60 : decode cX9_rests 60 = .ok (.bipush (-9), 2) := by decide +kernel
theorem dX9_rests_62 : decode cX9_rests 62 = .ok (.putfield 214, 3) := by decide +kernel
theorem dX9_rests_65 : decode cX9_rests 65 = .ok (.iconst 0, 1) := by decide +kernel
theorem dX9_rests_66 : decode cX9_rests 66 = .ok (.istore 5, 2) := by decide +kernel
theorem dX9_rests_68 : decode cX9_rests 68 = .ok (.iload 5, 2) := by decide +kernel
theorem dX9_rests_70 : decode cX9_rests 70 = .ok (.bipush 100, 2) := by decide +kernel
theorem dX9_rests_72 : decode cX9_rests 72 = .ok (.if_icmp .ge 59, 3) := by decide +kernel
theorem dX9_rests_75 : decode cX9_rests 75 = .ok (.aload_n 0, 1) := by decide +kernel
theorem dX9_rests_76 : decode cX9_rests 76 = .ok (.iload_n 1, 1) := by decide +kernel
theorem dX9_rests_77 : decode cX9_rests 77 = .ok (.iload 5, 2) := by decide +kernel
theorem dX9_rests_79 : decode cX9_rests 79 = .ok (.bipush 10, 2) := by decide +kernel
theorem dX9_rests_81 : decode cX9_rests 81 = .ok (.idiv, 1) := by decide +kernel
theorem dX9_rests_82 : decode cX9_rests 82 = .ok (.iload_n 2, 1) := by decide +kernel
theorem dX9_rests_83 : decode cX9_rests 83 = .ok (.iload 5, 2) := by decide +kernel
theorem dX9_rests_85 : decode cX9_rests 85 = .ok (.bipush 10, 2) := by decide +kernel
theorem dX9_rests_87 : decode cX9_rests 87 = .ok (.irem, 1) := by decide +kernel
theorem dX9_rests_88 : decode cX9_rests 88 = .ok (.iload_n 3, 1) := by decide +kernel
theorem dX9_rests_89 : decode cX9_rests 89 = .ok (.invokevirtual 217, 3) := by decide +kernel
theorem dX9_rests_92 : decode cX9_rests 92 = .ok (.ifCond .eq 33, 3) := by decide +kernel
theorem dX9_rests_95 : decode cX9_rests 95 = .ok (.aload_n 0, 1) := by decide +kernel
theorem dX9_rests_96 : decode cX9_rests 96 = .ok (.aload_n 0, 1) := by decide +kernel
theorem dX9_rests_97 : decode cX9_rests 97 = .ok (.getfield 211, 3) := by decide +kernel
theorem dX9_rests_100 : decode cX9_rests 100 = .ok (.ifCond .ne 8, 3) := by decide +kernel
theorem dX9_rests_103 : decode cX9_rests 103 = .ok (.iload 5, 2) := by decide +kernel
theorem dX9_rests_105 : decode cX9_rests 105 = .ok (.goto 7, 3) := by decide +kernel
theorem dX9_rests_108 : decode cX9_rests 108 = .ok (.aload_n 0, 1) := by decide +kernel
theorem dX9_rests_109 : decode cX9_rests 109 = .ok (.getfield 214, 3) := by decide +kernel
theorem dX9_rests_112 : decode cX9_rests 112 = .ok (.putfield 214, 3) := by decide +kernel
theorem dX9_rests_115 : decode cX9_rests 115 = .ok (.aload_n 0, 1) := by decide +kernel
theorem dX9_rests_116 : decode cX9_rests 116 = .ok (.dup, 1) := by decide +kernel
theorem dX9_rests_117 : decode cX9_rests 117 = .ok (.getfield 211, 3) := by decide +kernel
theorem dX9_rests_120 : decode cX9_rests 120 = .ok (.iconst 1, 1) := by decide +kernel
theorem dX9_rests_121 : decode cX9_rests 121 = .ok (.iadd, 1) := by decide +kernel
theorem dX9_rests_122 : decode cX9_rests 122 = .ok (.putfield 211, 3) := by decide +kernel
theorem dX9_rests_125 : decode cX9_rests 125 = .ok (.iinc 5 1, 3) := by decide +kernel
theorem dX9_rests_128 : decode cX9_rests 128 = .ok (.goto (-60), 3) := by decide +kernel
theorem dX9_rests_131 : decode cX9_rests 131 = .ok (.iload 4, 2) := by decide +kernel
theorem dX9_rests_133 : decode cX9_rests 133 = .ok (.ifCond .ne 10, 3) := by decide +kernel
theorem dX9_rests_136 : decode cX9_rests 136 = .ok (.aload_n 0, 1) := by decide +kernel
theorem dX9_rests_137 : decode cX9_rests 137 = .ok (.getfield 211, 3) := by decide +kernel
theorem dX9_rests_140 : decode cX9_rests 140 = .ok (.goto 7, 3) := by decide +kernel
theorem dX9_rests_143 : decode cX9_rests 143 = .ok (.aload_n 0, 1) := by decide +kernel
theorem dX9_rests_144 : decode cX9_rests 144 = .ok (.getfield 214, 3) := by decide +kernel
theorem dX9_rests_147 : decode cX9_rests 147 = .ok (.ireturn, 1) := by decide +kernel
theorem dX9_shine_0 : decode cX9_shine 0 = .ok (.aload_n 0, 1) := by decide +kernel
theorem dX9_shine_1 : decode cX9_shine 1 = .ok (.iconst 0, 1) := by decide +kernel
theorem dX9_shine_2 : decode cX9_shine 2 = .ok (.putfield 62, 3) := by decide +kernel
theorem dX9_shine_5 : decode cX9_shine 5 = .ok (.iload_n 1, 1) := by decide +kernel
theorem dX9_shine_6 : decode cX9_shine 6 = .ok (.i2l, 1) := by decide +kernel
theorem dX9_shine_7 : decode cX9_shine 7 = .ok (.lconst 0, 1) := by decide +kernel
theorem dX9_shine_8 : decode cX9_shine 8 = .ok (.ldc2_w 159, 3) := by decide +kernel
theorem dX9_shine_11 : decode cX9_shine 11 = .ok (.invokestatic 69, 3) := by decide +kernel
theorem dX9_shine_14 : decode cX9_shine 14 = .ok (.ifCond .eq 15, 3) := by decide +kernel
theorem dX9_shine_17 : decode cX9_shine 17 = .ok (.iload_n 2, 1) := by decide +kernel
theorem dX9_shine_18 : decode cX9_shine 18 = .ok (.i2l, 1) := by decide +kernel
theorem dX9_shine_19 : decode cX9_shine 19 = .ok (.lconst 0, 1) := by decide +kernel
theorem dX9_shine_20 : decode cX9_shine 20 = .ok (.ldc2_w 159, 3) := by decide +kernel
theorem dX9_shine_23 : decode cX9_shine 23 = .ok (.invokestatic 69, 3) := by decide +kernel
theorem dX9_shine_26 : decode cX9_shine 26 = .ok (.ifCond .ne 6, 3) := by decide +kernel
theorem dX9_shine_29 : decode cX9_shine 29 = .ok (.bipush (-2), 2) := by decide +kernel
theorem dX9_shine_31 : decode cX9_shine 31 = .ok (.ireturn, 1) := by decide +kernel
theorem dX9_shine_32 : decode cX9_shine 32 = .ok (.aload_n 0, 1) := by decide +kernel
theorem dX9_shine_33 : decode cX9_shine 33 = .ok (.getfield 148, 3) := by decide +kernel
theorem dX9_shine_36 : decode cX9_shine 36 = .ok (.bipush 6, 2) := by decide +kernel
theorem dX9_shine_38 : decode cX9_shine 38 = .ok (.if_icmp .ne 6, 3) := by decide +kernel
theorem dX9_shine_41 : decode cX9_shine 41 = .ok (.bipush (-4), 2) := by decide +kernel
theorem dX9_shine_43 : decode cX9_shine 43 = .ok (.ireturn, 1) := by decide +kernel
theorem dX9_shine_44 : decode cX9_shine 44 = .ok (.aload_n 0, 1) := by decide +kernel
theorem dX9_shine_45 : decode cX9_shine 45 = .ok (.getfield 47, 3) := by decide +kernel
theorem dX9_shine_48 : decode cX9_shine 48 = .ok (.aload_n 0, 1) := by decide +kernel
theorem dX9_shine_49 : decode cX9_shine 49 = .ok (.getfield 148, 3) := by decide +kernel
theorem dX9_shine_52 : decode cX9_shine 52 = .ok (.iload_n 1, 1) := by decide +kernel
theorem dX9_shine_53 : decode cX9_shine 53 = .ok (.iastore, 1) := by decide +kernel
theorem dX9_shine_54 : decode cX9_shine 54 = .ok (.aload_n 0, 1) := by decide +kernel
theorem dX9_shine_55 : decode cX9_shine 55 = .ok (.getfield 50, 3) := by decide +kernel
theorem dX9_shine_58 : decode cX9_shine 58 = .ok (.aload_n 0, 1) := by decide +kernel
theorem dX9_shine_59 : decode cX9_shine 59 = .ok (.getfield 148, 3) := by decide +kernel
theorem dX9_shine_62 : decode cX9_shine 62 = .ok (.iload_n 2, 1) := by decide +kernel
theorem dX9_shine_63 : decode cX9_shine 63 = .ok (.iastore, 1) := by decide +kernel
theorem dX9_shine_64 : decode cX9_shine 64 = .ok (.aload_n 0, 1) := by decide +kernel
theorem dX9_shine_65 : decode cX9_shine 65 = .ok (.getfield 53, 3) := by decide +kernel
theorem dX9_shine_68 : decode cX9_shine 68 = .ok (.aload_n 0, 1) := by decide +kernel
theorem dX9_shine_69 : decode cX9_shine 69 = .ok (.getfield 148, 3) := by decide +kernel
theorem dX9_shine_72 : decode cX9_shine 72 = .ok (.iload_n 3, 1) := by decide +kernel
theorem dX9_shine_73 : decode cX9_shine 73 = .ok (.bastore, 1) := by decide +kernel
theorem dX9_shine_74 : decode cX9_shine 74 = .ok (.aload_n 0, 1) := by decide +kernel
theorem dX9_shine_75 : decode cX9_shine 75 = .ok (.dup, 1) := by decide +kernel
theorem dX9_shine_76 : decode cX9_shine 76 = .ok (.getfield 148, 3) := by decide +kernel
theorem dX9_shine_79 : decode cX9_shine 79 = .ok (.iconst 1, 1) := by decide +kernel
theorem dX9_shine_80 : decode cX9_shine 80 = .ok (.iadd, 1) := by decide +kernel
theorem dX9_shine_81 : decode cX9_shine 81 = .ok (.putfield 148, 3) := by decide +kernel
theorem dX9_shine_84 : decode cX9_shine 84 = .ok (.aload_n 0, 1) := by decide +kernel
theorem dX9_shine_85 : decode cX9_shine 85 = .ok (.getfield 148, 3) := by decide +kernel
theorem dX9_shine_88 : decode cX9_shine 88 = .ok (.ireturn, 1) := by decide +kernel
theorem dX9_unshine_0 : decode cX9_unshine 0 = .ok (.aload_n 0, 1) := by decide +kernel
theorem dX9_unshine_1 : decode cX9_unshine 1 = .ok (.iconst 0, 1) := by decide +kernel
theorem dX9_unshine_2 : decode cX9_unshine 2 = .ok (.putfield 62, 3) := by decide +kernel
theorem dX9_unshine_5 : decode cX9_unshine 5 = .ok (.aload_n 0, 1) := by decide +kernel
theorem dX9_unshine_6 : decode cX9_unshine 6 = .ok (.getfield 148, 3) := by decide +kernel
theorem dX9_unshine_9 : decode cX9_unshine 9 = .ok (.istore_n 1, 1) := by decide +kernel
theorem dX9_unshine_10 : decode cX9_unshine 10 = .ok (.aload_n 0, 1) := by decide +kernel
theorem dX9_unshine_11 : decode cX9_unshine 11 = .ok (.iconst 0, 1) := by decide +kernel
theorem dX9_unshine_12 : decode cX9_unshine 12 = .ok (.putfield 148, 3) := by decide +kernel
theorem dX9_unshine_15 : decode cX9_unshine 15 = .ok (.iload_n 1, 1) := by decide +kernel
theorem dX9_unshine_16 : decode cX9_unshine 16 = .ok (.ireturn, 1) := by decide +kernel
theorem dX9_isOver_0 : decode cX9_isOver 0 = .ok (.iload_n 0, 1) := by decide +kernel
theorem dX9_isOver_1 : decode cX9_isOver 1 = .ok (.iconst 4, 1) := by decide +kernel
theorem dX9_isOver_2 : decode cX9_isOver 2 = .ok (.idiv, 1) := by decide +kernel
theorem dX9_isOver_3 : decode cX9_isOver 3 = .ok (.iload_n 0, 1) := by decide +kernel
theorem dX9_isOver_4 : decode cX9_isOver 4 = .ok (.iconst 4, 1) := by decide +kernel
theorem dX9_isOver_5 : decode cX9_isOver 5 = .ok (.irem, 1) := by decide +kernel
theorem dX9_isOver_6 : decode cX9_isOver 6 = .ok (.iload_n 1, 1) := by decide +kernel
theorem dX9_isOver_7 : decode cX9_isOver 7 = .ok (.imul, 1) := by decide +kernel
theorem dX9_isOver_8 : decode cX9_isOver 8 = .ok (.iadd, 1) := by decide +kernel
theorem dX9_isOver_9 : decode cX9_isOver 9 = .ok (.bipush 10, 2) := by decide +kernel
theorem dX9_isOver_11 : decode cX9_isOver 11 = .ok (.irem, 1) := by decide +kernel
theorem dX9_isOver_12 : decode cX9_isOver 12 = .ok (.iload_n 2, 1) := by decide +kernel
theorem dX9_isOver_13 : decode cX9_isOver 13 = .ok (.if_icmp .ne 7, 3) := by decide +kernel
theorem dX9_isOver_16 : decode cX9_isOver 16 = .ok (.iconst 1, 1) := by decide +kernel
theorem dX9_isOver_17 : decode cX9_isOver 17 = .ok (.goto 4, 3) := by decide +kernel
theorem dX9_isOver_20 : decode cX9_isOver 20 = .ok (.iconst 0, 1) := by decide +kernel
theorem dX9_isOver_21 : decode cX9_isOver 21 = .ok (.ireturn, 1) := by decide +kernel
theorem dX9_find_0 : decode cX9_find 0 = .ok (.aload_n 0, 1) := by decide +kernel
theorem dX9_find_1 : decode cX9_find 1 = .ok (.iconst 0, 1) := by decide +kernel
theorem dX9_find_2 : decode cX9_find 2 = .ok (.putfield 221, 3) := by decide +kernel
theorem dX9_find_5 : decode cX9_find 5 = .ok (.aload_n 0, 1) := by decide +kernel
theorem dX9_find_6 : decode cX9_find 6 = .ok (.bipush (-9), 2) := by decide +kernel
theorem dX9_find_8 : decode cX9_find 8 = .ok (.putfield 224, 3) := by decide +kernel
theorem dX9_find_11 : decode cX9_find 11 = .ok (.iconst 0, 1) := by decide +kernel
theorem dX9_find_12 : decode cX9_find 12 = .ok (.istore_n 1, 1) := by decide +kernel
theorem dX9_find_13 : decode cX9_find 13 = .ok (.iload_n 1, 1) := by decide +kernel
theorem dX9_find_14 : decode cX9_find 14 = .ok (.bipush 40, 2) := by decide +kernel
theorem dX9_find_16 : decode cX9_find 16 = .ok (.if_icmp .ge 119, 3) := by decide +kernel
theorem dX9_find_19 : decode cX9_find 19 = .ok (.iconst 1, 1) := by decide +kernel
theorem dX9_find_20 : decode cX9_find 20 = .ok (.istore_n 2, 1) := by decide +kernel
theorem dX9_find_21 : decode cX9_find 21 = .ok (.iconst 0, 1) := by decide +kernel
theorem dX9_find_22 : decode cX9_find 22 = .ok (.istore_n 3, 1) := by decide +kernel
theorem dX9_find_23 : decode cX9_find 23 = .ok (.iload_n 3, 1) := by decide +kernel
theorem dX9_find_24 : decode cX9_find 24 = .ok (.aload_n 0, 1) := by decide +kernel
theorem dX9_find_25 : decode cX9_find 25 = .ok (.getfield 148, 3) := by decide +kernel
theorem dX9_find_28 : decode cX9_find 28 = .ok (.if_icmp .ge 44, 3) := by decide +kernel
theorem dX9_find_31 : decode cX9_find 31 = .ok (.iload_n 2, 1) := by decide +kernel
theorem dX9_find_32 : decode cX9_find 32 = .ok (.ifCond .eq 40, 3) := by decide +kernel
theorem dX9_find_35 : decode cX9_find 35 = .ok (.iload_n 1, 1) := by decide +kernel
theorem dX9_find_36 : decode cX9_find 36 = .ok (.aload_n 0, 1) := by decide +kernel
theorem dX9_find_37 : decode cX9_find 37 = .ok (.getfield 50, 3) := by decide +kernel
theorem dX9_find_40 : decode cX9_find 40 = .ok (.iload_n 3, 1) := by decide +kernel
theorem dX9_find_41 : decode cX9_find 41 = .ok (.iaload, 1) := by decide +kernel
theorem dX9_find_42 : decode cX9_find 42 = .ok (.aload_n 0, 1) := by decide +kernel
theorem dX9_find_43 : decode cX9_find 43 = .ok (.getfield 47, 3) := by decide +kernel
theorem dX9_find_46 : decode cX9_find 46 = .ok (.iload_n 3, 1) := by decide +kernel
theorem dX9_find_47 : decode cX9_find 47 = .ok (.iaload, 1) := by decide +kernel
theorem dX9_find_48 : decode cX9_find 48 = .ok (.invokestatic 227, 3) := by decide +kernel
theorem dX9_find_51 : decode cX9_find 51 = .ok (.aload_n 0, 1) := by decide +kernel
theorem dX9_find_52 : decode cX9_find 52 = .ok (.getfield 53, 3) := by decide +kernel
theorem dX9_find_55 : decode cX9_find 55 = .ok (.iload_n 3, 1) := by decide +kernel
theorem dX9_find_56 : decode cX9_find 56 = .ok (.baload, 1) := by decide +kernel
theorem dX9_find_57 : decode cX9_find 57 = .ok (.if_icmp .ne 7, 3) := by decide +kernel
theorem dX9_find_60 : decode cX9_find 60 = .ok (.iconst 1, 1) := by decide +kernel
theorem dX9_find_61 : decode cX9_find 61 = .ok (.goto 4, 3) := by decide +kernel
theorem dX9_find_64 : decode cX9_find 64 = .ok (.iconst 0, 1) := by decide +kernel
theorem dX9_find_65 : decode cX9_find 65 = .ok (.istore_n 2, 1) := by decide +kernel
theorem dX9_find_66 : decode cX9_find 66 = .ok (.iinc 3 1, 3) := by decide +kernel
theorem dX9_find_69 : decode cX9_find 69 = .ok (.goto (-46), 3) := by decide +kernel
theorem dX9_find_72 : decode cX9_find 72 = .ok (.aload_n 0, 1) := by decide +kernel
theorem dX9_find_73 : decode cX9_find 73 = .ok (.getfield 59, 3) := by decide +kernel
theorem dX9_find_76 : decode cX9_find 76 = .ok (.iload_n 1, 1) := by decide +kernel
theorem dX9_find_77 : decode cX9_find 77 = .ok (.iload_n 2, 1) := by decide +kernel
theorem dX9_find_78 : decode cX9_find 78 = .ok (.bastore, 1) := by decide +kernel
theorem dX9_find_79 : decode cX9_find 79 = .ok (.aload_n 0, 1) := by decide +kernel
theorem dX9_find_80 : decode cX9_find 80 = .ok (.iload_n 2, 1) := by decide +kernel
theorem dX9_find_81 : decode cX9_find 81 = .ok (.ifCond .eq 23, 3) := by decide +kernel
theorem dX9_find_84 : decode cX9_find 84 = .ok (.aload_n 0, 1) := by decide +kernel
theorem dX9_find_85 : decode cX9_find 85 = .ok (.getfield 221, 3) := by decide +kernel
theorem dX9_find_88 : decode cX9_find 88 = .ok (.ifCond .ne 16, 3) := by decide +kernel
theorem dX9_find_91 : decode cX9_find 91 = .ok (.bipush 10, 2) := by decide +kernel
theorem dX9_find_93 : decode cX9_find 93 = .ok (.iload_n 1, 1) := by decide +kernel
theorem dX9_find_94 : decode cX9_find 94 = .ok (.iconst 4, 1) := by decide +kernel
theorem dX9_find_95 : decode cX9_find 95 = .ok (.idiv, 1) := by decide +kernel
theorem dX9_find_96 : decode cX9_find 96 = .ok (.imul, 1) := by decide +kernel
theorem dX9_find_97 : decode cX9_find 97 = .ok (.iload_n 1, 1) := by decide +kernel
theorem dX9_find_98 : decode cX9_find 98 = .ok (.iconst 4, 1) := by decide +kernel
theorem dX9_find_99 : decode cX9_find 99 = .ok (.irem, 1) := by decide +kernel
theorem dX9_find_100 : decode cX9_find 100 = .ok (.iadd, 1) := by decide +kernel
theorem dX9_find_101 : decode cX9_find 101 = .ok (.goto 7, 3) := by decide +kernel
theorem dX9_find_104 : decode cX9_find 104 = .ok (.aload_n 0, 1) := by decide +kernel
theorem dX9_find_105 : decode cX9_find 105 = .ok (.getfield 224, 3) := by decide +kernel
theorem dX9_find_108 : decode cX9_find 108 = .ok (.putfield 224, 3) := by decide +kernel
theorem dX9_find_111 : decode cX9_find 111 = .ok (.aload_n 0, 1) := by decide +kernel
theorem dX9_find_112 : decode cX9_find 112 = .ok (.dup, 1) := by decide +kernel
theorem dX9_find_113 : decode cX9_find 113 = .ok (.getfield 221, 3) := by decide +kernel
theorem dX9_find_116 : decode cX9_find 116 = .ok (.iload_n 2, 1) := by decide +kernel
theorem dX9_find_117 : decode cX9_find 117 = .ok (.ifCond .eq 7, 3) := by decide +kernel
theorem dX9_find_120 : decode cX9_find 120 = .ok (.iconst 1, 1) := by decide +kernel
theorem dX9_find_121 : decode cX9_find 121 = .ok (.goto 4, 3) := by decide +kernel
theorem dX9_find_124 : decode cX9_find 124 = .ok (.iconst 0, 1) := by decide +kernel
theorem dX9_find_125 : decode cX9_find 125 = .ok (.iadd, 1) := by decide +kernel
theorem dX9_find_126 : decode cX9_find 126 = .ok (.putfield 221, 3) := by decide +kernel
theorem dX9_find_129 : decode cX9_find 129 = .ok (.iinc 1 1, 3) := by decide +kernel
theorem dX9_find_132 : decode cX9_find 132 = .ok (.goto (-119), 3) := by decide +kernel
theorem dX9_find_135 : decode cX9_find 135 = .ok (.return_, 1) := by decide +kernel
theorem dX9_found_0 : decode cX9_found 0 = .ok (.aload_n 0, 1) := by decide +kernel
theorem dX9_found_1 : decode cX9_found 1 = .ok (.iconst 0, 1) := by decide +kernel
theorem dX9_found_2 : decode cX9_found 2 = .ok (.putfield 62, 3) := by decide +kernel
theorem dX9_found_5 : decode cX9_found 5 = .ok (.iload_n 1, 1) := by decide +kernel
theorem dX9_found_6 : decode cX9_found 6 = .ok (.i2l, 1) := by decide +kernel
theorem dX9_found_7 : decode cX9_found 7 = .ok (.lconst 0, 1) := by decide +kernel
theorem dX9_found_8 : decode cX9_found 8 = .ok (.lconst 1, 1) := by decide +kernel
theorem dX9_found_9 : decode cX9_found 9 = .ok (.invokestatic 69, 3) := by decide +kernel
theorem dX9_found_12 : decode cX9_found 12 = .ok (.ifCond .ne 6, 3) := by decide +kernel
theorem dX9_found_15 : decode cX9_found 15 = .ok (.bipush (-2), 2) := by decide +kernel
theorem dX9_found_17 : decode cX9_found 17 = .ok (.ireturn, 1) := by decide +kernel
theorem dX9_found_18 : decode cX9_found 18 = .ok (.aload_n 0, 1) := by decide +kernel
theorem dX9_found_19 : decode cX9_found 19 = .ok (.invokevirtual 231, 3) := by decide +kernel
theorem dX9_found_22 : decode cX9_found 22 = .ok (.iload_n 1, 1) := by decide +kernel
theorem dX9_found_23 : decode cX9_found 23 = .ok (.ifCond .ne 10, 3) := by decide +kernel
theorem dX9_found_26 : decode cX9_found 26 = .ok (.aload_n 0, 1) := by decide +kernel
theorem dX9_found_27 : decode cX9_found 27 = .ok (.getfield 221, 3) := by decide +kernel
theorem dX9_found_30 : decode cX9_found 30 = .ok (.goto 7, 3) := by decide +kernel
theorem dX9_found_33 : decode cX9_found 33 = .ok (.aload_n 0, 1) := by decide +kernel
theorem dX9_found_34 : decode cX9_found 34 = .ok (.getfield 224, 3) := by decide +kernel
theorem dX9_found_37 : decode cX9_found 37 = .ok (.ireturn, 1) := by decide +kernel
theorem dX9_look_0 : decode cX9_look 0 = .ok (.aload_n 0, 1) := by decide +kernel
theorem dX9_look_1 : decode cX9_look 1 = .ok (.iconst 0, 1) := by decide +kernel
theorem dX9_look_2 : decode cX9_look 2 = .ok (.putfield 62, 3) := by decide +kernel
theorem dX9_look_5 : decode cX9_look 5 = .ok (.aload_n 0, 1) := by decide +kernel
theorem dX9_look_6 : decode cX9_look 6 = .ok (.invokevirtual 231, 3) := by decide +kernel
theorem dX9_look_9 : decode cX9_look 9 = .ok (.bipush (-9), 2) := by decide +kernel
theorem dX9_look_11 : decode cX9_look 11 = .ok (.istore_n 1, 1) := by decide +kernel
theorem dX9_look_12 : decode cX9_look 12 = .ok (.sipush 9999, 3) := by decide +kernel
theorem dX9_look_15 : decode cX9_look 15 = .ok (.istore_n 2, 1) := by decide +kernel
theorem dX9_look_16 : decode cX9_look 16 = .ok (.iconst 0, 1) := by decide +kernel
theorem dX9_look_17 : decode cX9_look 17 = .ok (.istore_n 3, 1) := by decide +kernel
theorem dX9_look_18 : decode cX9_look 18 = .ok (.iload_n 3, 1) := by decide +kernel
theorem dX9_look_19 : decode cX9_look 19 = .ok (.bipush 100, 2) := by decide +kernel
theorem dX9_look_21 : decode cX9_look 21 = .ok (.if_icmp .ge 122, 3) := by decide +kernel
theorem dX9_look_24 : decode cX9_look 24 = .ok (.aload_n 0, 1) := by decide +kernel
theorem dX9_look_25 : decode cX9_look 25 = .ok (.getfield 221, 3) := by decide +kernel
theorem dX9_look_28 : decode cX9_look 28 = .ok (.ifCond .le 115, 3) := by decide +kernel
theorem dX9_look_31 : decode cX9_look 31 = .ok (.iconst 0, 1) := by decide +kernel
theorem dX9_look_32 : decode cX9_look 32 = .ok (.istore 4, 2) := by decide +kernel
theorem dX9_look_34 : decode cX9_look 34 = .ok (.iconst 0, 1) := by decide +kernel
theorem dX9_look_35 : decode cX9_look 35 = .ok (.istore 5, 2) := by decide +kernel
theorem dX9_look_37 : decode cX9_look 37 = .ok (.iload 5, 2) := by decide +kernel
theorem dX9_look_39 : decode cX9_look 39 = .ok (.bipush 40, 2) := by decide +kernel
theorem dX9_look_41 : decode cX9_look 41 = .ok (.if_icmp .ge 45, 3) := by decide +kernel
theorem dX9_look_44 : decode cX9_look 44 = .ok (.iload 4, 2) := by decide +kernel
theorem dX9_look_46 : decode cX9_look 46 = .ok (.aload_n 0, 1) := by decide +kernel
theorem dX9_look_47 : decode cX9_look 47 = .ok (.getfield 59, 3) := by decide +kernel
theorem dX9_look_50 : decode cX9_look 50 = .ok (.iload 5, 2) := by decide +kernel
theorem dX9_look_52 : decode cX9_look 52 = .ok (.baload, 1) := by decide +kernel
theorem dX9_look_53 : decode cX9_look 53 = .ok (.ifCond .eq 23, 3) := by decide +kernel
theorem dX9_look_56 : decode cX9_look 56 = .ok (.iload 5, 2) := by decide +kernel
theorem dX9_look_58 : decode cX9_look 58 = .ok (.iload_n 3, 1) := by decide +kernel
theorem dX9_look_59 : decode cX9_look 59 = .ok (.bipush 10, 2) := by decide +kernel
theorem dX9_look_61 : decode cX9_look 61 = .ok (.idiv, 1) := by decide +kernel
theorem dX9_look_62 : decode cX9_look 62 = .ok (.iload_n 3, 1) := by decide +kernel
theorem dX9_look_63 : decode cX9_look 63 = .ok (.bipush 10, 2) := by decide +kernel
theorem dX9_look_65 : decode cX9_look 65 = .ok (.irem, 1) := by decide +kernel
theorem dX9_look_66 : decode cX9_look 66 = .ok (.invokestatic 227, 3) := by decide +kernel
theorem dX9_look_69 : decode cX9_look 69 = .ok (.ifCond .eq 7, 3) := by decide +kernel
theorem dX9_look_72 : decode cX9_look 72 = .ok (.iconst 1, 1) := by decide +kernel
theorem dX9_look_73 : decode cX9_look 73 = .ok (.goto 4, 3) := by decide +kernel
theorem dX9_look_76 : decode cX9_look 76 = .ok (.iconst 0, 1) := by decide +kernel
theorem dX9_look_77 : decode cX9_look 77 = .ok (.iadd, 1) := by decide +kernel
theorem dX9_look_78 : decode cX9_look 78 = .ok (.istore 4, 2) := by decide +kernel
theorem dX9_look_80 : decode cX9_look 80 = .ok (.iinc 5 1, 3) := by decide +kernel
theorem dX9_look_83 : decode cX9_look 83 = .ok (.goto (-46), 3) := by decide +kernel
theorem dX9_look_86 : decode cX9_look 86 = .ok (.iload 4, 2) := by decide +kernel
theorem dX9_look_88 : decode cX9_look 88 = .ok (.aload_n 0, 1) := by decide +kernel
theorem dX9_look_89 : decode cX9_look 89 = .ok (.getfield 221, 3) := by decide +kernel
theorem dX9_look_92 : decode cX9_look 92 = .ok (.iload 4, 2) := by decide +kernel
theorem dX9_look_94 : decode cX9_look 94 = .ok (.isub, 1) := by decide +kernel
theorem dX9_look_95 : decode cX9_look 95 = .ok (.if_icmp .le 8, 3) := by decide +kernel
theorem dX9_look_98 : decode cX9_look 98 = .ok (.iload 4, 2) := by decide +kernel
theorem dX9_look_100 : decode cX9_look 100 = .ok (.goto 10, 3) := by decide +kernel
theorem dX9_look_103 : decode cX9_look 103 = .ok (.aload_n 0, 1) := by decide +kernel
theorem dX9_look_104 : decode cX9_look 104 = .ok (.getfield 221, 3) := by decide +kernel
theorem dX9_look_107 : decode cX9_look 107 = .ok (.iload 4, 2) := by decide +kernel
theorem dX9_look_109 : decode cX9_look 109 = .ok (.isub, 1) := by decide +kernel
theorem dX9_look_110 : decode cX9_look 110 = .ok (.istore 5, 2) := by decide +kernel
theorem dX9_look_112 : decode cX9_look 112 = .ok (.iload 5, 2) := by decide +kernel
theorem dX9_look_114 : decode cX9_look 114 = .ok (.iload_n 2, 1) := by decide +kernel
theorem dX9_look_115 : decode cX9_look 115 = .ok (.if_icmp .ge 7, 3) := by decide +kernel
theorem dX9_look_118 : decode cX9_look 118 = .ok (.iload_n 3, 1) := by decide +kernel
theorem dX9_look_119 : decode cX9_look 119 = .ok (.goto 4, 3) := by decide +kernel
theorem dX9_look_122 : decode cX9_look 122 = .ok (.iload_n 1, 1) := by decide +kernel
theorem dX9_look_123 : decode cX9_look 123 = .ok (.istore_n 1, 1) := by decide +kernel
theorem dX9_look_124 : decode cX9_look 124 = .ok (.iload 5, 2) := by decide +kernel
theorem dX9_look_126 : decode cX9_look 126 = .ok (.iload_n 2, 1) := by decide +kernel
theorem dX9_look_127 : decode cX9_look 127 = .ok (.if_icmp .ge 8, 3) := by decide +kernel
theorem dX9_look_130 : decode cX9_look 130 = .ok (.iload 5, 2) := by decide +kernel
theorem dX9_look_132 : decode cX9_look 132 = .ok (.goto 4, 3) := by decide +kernel
theorem dX9_look_135 : decode cX9_look 135 = .ok (.iload_n 2, 1) := by decide +kernel
theorem dX9_look_136 : decode cX9_look 136 = .ok (.istore_n 2, 1) := by decide +kernel
theorem dX9_look_137 : decode cX9_look 137 = .ok (.iinc 3 1, 3) := by decide +kernel
theorem dX9_look_140 : decode cX9_look 140 = .ok (.goto (-122), 3) := by decide +kernel
theorem dX9_look_143 : decode cX9_look 143 = .ok (.iload_n 1, 1) := by decide +kernel
theorem dX9_look_144 : decode cX9_look 144 = .ok (.ireturn, 1) := by decide +kernel
theorem dX9_chance_0 : decode cX9_chance 0 = .ok (.aload_n 0, 1) := by decide +kernel
theorem dX9_chance_1 : decode cX9_chance 1 = .ok (.iconst 0, 1) := by decide +kernel
theorem dX9_chance_2 : decode cX9_chance 2 = .ok (.putfield 62, 3) := by decide +kernel
theorem dX9_chance_5 : decode cX9_chance 5 = .ok (.aload_n 0, 1) := by decide +kernel
theorem dX9_chance_6 : decode cX9_chance 6 = .ok (.iload_n 1, 1) := by decide +kernel
theorem dX9_chance_7 : decode cX9_chance 7 = .ok (.invokevirtual 154, 3) := by decide +kernel
theorem dX9_chance_10 : decode cX9_chance 10 = .ok (.ifCond .eq 5, 3) := by decide +kernel
theorem dX9_chance_13 : decode cX9_chance 13 = .ok (.iconst (-1), 1) := by decide +kernel
theorem dX9_chance_14 : decode cX9_chance 14 = .ok (.ireturn, 1) := by decide +kernel
theorem dX9_chance_15 : decode cX9_chance 15 = .ok (.iload_n 2, 1) := by decide +kernel
theorem dX9_chance_16 : decode cX9_chance 16 = .ok (.i2l, 1) := by decide +kernel
theorem dX9_chance_17 : decode cX9_chance 17 = .ok (.lconst 1, 1) := by decide +kernel
theorem dX9_chance_18 : decode cX9_chance 18 = .ok (.ldc2_w 234, 3) := by decide +kernel
theorem dX9_chance_21 : decode cX9_chance 21 = .ok (.invokestatic 69, 3) := by decide +kernel
theorem dX9_chance_24 : decode cX9_chance 24 = .ok (.ifCond .eq 15, 3) := by decide +kernel
theorem dX9_chance_27 : decode cX9_chance 27 = .ok (.iload_n 3, 1) := by decide +kernel
theorem dX9_chance_28 : decode cX9_chance 28 = .ok (.i2l, 1) := by decide +kernel
theorem dX9_chance_29 : decode cX9_chance 29 = .ok (.lconst 0, 1) := by decide +kernel
theorem dX9_chance_30 : decode cX9_chance 30 = .ok (.ldc2_w 172, 3) := by decide +kernel
theorem dX9_chance_33 : decode cX9_chance 33 = .ok (.invokestatic 69, 3) := by decide +kernel
theorem dX9_chance_36 : decode cX9_chance 36 = .ok (.ifCond .ne 6, 3) := by decide +kernel
theorem dX9_chance_39 : decode cX9_chance 39 = .ok (.bipush (-2), 2) := by decide +kernel
theorem dX9_chance_41 : decode cX9_chance 41 = .ok (.ireturn, 1) := by decide +kernel
theorem dX9_chance_42 : decode cX9_chance 42 = .ok (.iconst 1, 1) := by decide +kernel
theorem dX9_chance_43 : decode cX9_chance 43 = .ok (.istore 5, 2) := by decide +kernel
theorem dX9_chance_45 : decode cX9_chance 45 = .ok (.iconst 1, 1) := by decide +kernel
theorem dX9_chance_46 : decode cX9_chance 46 = .ok (.istore 6, 2) := by decide +kernel
theorem dX9_chance_48 : decode cX9_chance 48 = .ok (.aload_n 0, 1) := by decide +kernel
theorem dX9_chance_49 : decode cX9_chance 49 = .ok (.getfield 31, 3) := by decide +kernel
theorem dX9_chance_52 : decode cX9_chance 52 = .ok (.bipush 16, 2) := by decide +kernel
theorem dX9_chance_54 : decode cX9_chance 54 = .ok (.iaload, 1) := by decide +kernel
theorem dX9_chance_55 : decode cX9_chance 55 = .ok (.istore 7, 2) := by decide +kernel
theorem dX9_chance_57 : decode cX9_chance 57 = .ok (.iload 7, 2) := by decide +kernel
theorem dX9_chance_59 : decode cX9_chance 59 = .ok (.aload_n 0, 1) := by decide +kernel
theorem dX9_chance_60 : decode cX9_chance 60 = .ok (.getfield 31, 3) := by decide +kernel
theorem dX9_chance_63 : decode cX9_chance 63 = .ok (.bipush 16, 2) := by decide +kernel
theorem dX9_chance_65 : decode cX9_chance 65 = .ok (.iaload, 1) := by decide +kernel
theorem dX9_chance_66 : decode cX9_chance 66 = .ok (.iload_n 2, 1) := by decide +kernel
theorem dX9_chance_67 : decode cX9_chance 67 = .ok (.iadd, 1) := by decide +kernel
theorem dX9_chance_68 : decode cX9_chance 68 = .ok (.if_icmp .ge 87, 3) := by decide +kernel
theorem dX9_chance_71 : decode cX9_chance 71 = .ok (.aload_n 0, 1) := by decide +kernel
theorem dX9_chance_72 : decode cX9_chance 72 = .ok (.aload_n 0, 1) := by decide +kernel
theorem dX9_chance_73 : decode cX9_chance 73 = .ok (.getfield 31, 3) := by decide +kernel
theorem dX9_chance_76 : decode cX9_chance 76 = .ok (.aload_n 0, 1) := by decide +kernel
theorem dX9_chance_77 : decode cX9_chance 77 = .ok (.invokevirtual 145, 3) := by decide +kernel
theorem dX9_chance_80 : decode cX9_chance 80 = .ok (.iload_n 1, 1) := by decide +kernel
theorem dX9_chance_81 : decode cX9_chance 81 = .ok (.iload 7, 2) := by decide +kernel
theorem dX9_chance_83 : decode cX9_chance 83 = .ok (.aload_n 0, 1) := by decide +kernel
theorem dX9_chance_84 : decode cX9_chance 84 = .ok (.getfield 113, 3) := by decide +kernel
theorem dX9_chance_87 : decode cX9_chance 87 = .ok (.invokevirtual 137, 3) := by decide +kernel
theorem dX9_chance_90 : decode cX9_chance 90 = .ok (.istore 8, 2) := by decide +kernel
theorem dX9_chance_92 : decode cX9_chance 92 = .ok (.iload 8, 2) := by decide +kernel
theorem dX9_chance_94 : decode cX9_chance 94 = .ok (.bipush (-9), 2) := by decide +kernel
theorem dX9_chance_96 : decode cX9_chance 96 = .ok (.if_icmp .eq 27, 3) := by decide +kernel
theorem dX9_chance_99 : decode cX9_chance 99 = .ok (.aload_n 0, 1) := by decide +kernel
theorem dX9_chance_100 : decode cX9_chance 100 = .ok (.iload_n 1, 1) := by decide +kernel
theorem dX9_chance_101 : decode cX9_chance 101 = .ok (.aload_n 0, 1) := by decide +kernel
theorem dX9_chance_102 : decode cX9_chance 102 = .ok (.invokevirtual 145, 3) := by decide +kernel
theorem dX9_chance_105 : decode cX9_chance 105 = .ok (.aload_n 0, 1) := by decide +kernel
theorem dX9_chance_106 : decode cX9_chance 106 = .ok (.getfield 31, 3) := by decide +kernel
theorem dX9_chance_109 : decode cX9_chance 109 = .ok (.iconst 5, 1) := by decide +kernel
theorem dX9_chance_110 : decode cX9_chance 110 = .ok (.iaload, 1) := by decide +kernel
theorem dX9_chance_111 : decode cX9_chance 111 = .ok (.iload 8, 2) := by decide +kernel
theorem dX9_chance_113 : decode cX9_chance 113 = .ok (.invokevirtual 141, 3) := by decide +kernel
theorem dX9_chance_116 : decode cX9_chance 116 = .ok (.ifCond .le 7, 3) := by decide +kernel
theorem dX9_chance_119 : decode cX9_chance 119 = .ok (.iconst 1, 1) := by decide +kernel
theorem dX9_chance_120 : decode cX9_chance 120 = .ok (.goto 4, 3) := by decide +kernel
theorem dX9_chance_123 : decode cX9_chance 123 = .ok (.iconst 0, 1) := by decide +kernel
theorem dX9_chance_124 : decode cX9_chance 124 = .ok (.istore 9, 2) := by decide +kernel
theorem dX9_chance_126 : decode cX9_chance 126 = .ok (.iload 5, 2) := by decide +kernel
theorem dX9_chance_128 : decode cX9_chance 128 = .ok (.iload 9, 2) := by decide +kernel
theorem dX9_chance_130 : decode cX9_chance 130 = .ok (.ifCond .eq 7, 3) := by decide +kernel
theorem dX9_chance_133 : decode cX9_chance 133 = .ok (.iload_n 3, 1) := by decide +kernel
theorem dX9_chance_134 : decode cX9_chance 134 = .ok (.goto 5, 3) := by decide +kernel
theorem dX9_chance_137 : decode cX9_chance 137 = .ok (.bipush 10, 2) := by decide +kernel
theorem dX9_chance_139 : decode cX9_chance 139 = .ok (.imul, 1) := by decide +kernel
theorem dX9_chance_140 : decode cX9_chance 140 = .ok (.istore 5, 2) := by decide +kernel
theorem dX9_chance_142 : decode cX9_chance 142 = .ok (.iload 6, 2) := by decide +kernel
theorem dX9_chance_144 : decode cX9_chance 144 = .ok (.bipush 10, 2) := by decide +kernel
theorem dX9_chance_146 : decode cX9_chance 146 = .ok (.imul, 1) := by decide +kernel
theorem dX9_chance_147 : decode cX9_chance 147 = .ok (.istore 6, 2) := by decide +kernel
theorem dX9_chance_149 : decode cX9_chance 149 = .ok (.iinc 7 1, 3) := by decide +kernel
theorem dX9_chance_152 : decode cX9_chance 152 = .ok (.goto (-95), 3) := by decide +kernel
theorem dX9_chance_155 : decode cX9_chance 155 = .ok (.iload 6, 2) := by decide +kernel
theorem dX9_chance_157 : decode cX9_chance 157 = .ok (.iload 5, 2) := by decide +kernel
theorem dX9_chance_159 : decode cX9_chance 159 = .ok (.isub, 1) := by decide +kernel
theorem dX9_chance_160 : decode cX9_chance 160 = .ok (.iload 6, 2) := by decide +kernel
theorem dX9_chance_162 : decode cX9_chance 162 = .ok (.iload 4, 2) := by decide +kernel
theorem dX9_chance_164 : decode cX9_chance 164 = .ok (.invokestatic 197, 3) := by decide +kernel
theorem dX9_chance_167 : decode cX9_chance 167 = .ok (.ireturn, 1) := by decide +kernel
theorem dX9_seed_0 : decode cX9_seed 0 = .ok (.aload_n 0, 1) := by decide +kernel
theorem dX9_seed_1 : decode cX9_seed 1 = .ok (.iconst 0, 1) := by decide +kernel
theorem dX9_seed_2 : decode cX9_seed 2 = .ok (.putfield 62, 3) := by decide +kernel
theorem dX9_seed_5 : decode cX9_seed 5 = .ok (.aload_n 0, 1) := by decide +kernel
theorem dX9_seed_6 : decode cX9_seed 6 = .ok (.getfield 236, 3) := by decide +kernel
theorem dX9_seed_9 : decode cX9_seed 9 = .ok (.lstore_n 3, 1) := by decide +kernel
theorem dX9_seed_10 : decode cX9_seed 10 = .ok (.aload_n 0, 1) := by decide +kernel
theorem dX9_seed_11 : decode cX9_seed 11 = .ok (.lload_n 1, 1) := by decide +kernel
theorem dX9_seed_12 : decode cX9_seed 12 = .ok (.putfield 236, 3) := by decide +kernel
theorem dX9_seed_15 : decode cX9_seed 15 = .ok (.lload_n 3, 1) := by decide +kernel
theorem dX9_seed_16 : decode cX9_seed 16 = .ok (.lreturn, 1) := by decide +kernel
theorem dX9_nights_0 : decode cX9_nights 0 = .ok (.aload_n 0, 1) := by decide +kernel
theorem dX9_nights_1 : decode cX9_nights 1 = .ok (.iconst 0, 1) := by decide +kernel
theorem dX9_nights_2 : decode cX9_nights 2 = .ok (.putfield 62, 3) := by decide +kernel
theorem dX9_nights_5 : decode cX9_nights 5 = .ok (.iload_n 1, 1) := by decide +kernel
theorem dX9_nights_6 : decode cX9_nights 6 = .ok (.i2l, 1) := by decide +kernel
theorem dX9_nights_7 : decode cX9_nights 7 = .ok (.lconst 1, 1) := by decide +kernel
theorem dX9_nights_8 : decode cX9_nights 8 = .ok (.ldc2_w 240, 3) := by decide +kernel
theorem dX9_nights_11 : decode cX9_nights 11 = .ok (.invokestatic 69, 3) := by decide +kernel
theorem dX9_nights_14 : decode cX9_nights 14 = .ok (.ifCond .ne 6, 3) := by decide +kernel
theorem dX9_nights_17 : decode cX9_nights 17 = .ok (.bipush (-2), 2) := by decide +kernel
theorem dX9_nights_19 : decode cX9_nights 19 = .ok (.ireturn, 1) := by decide +kernel
theorem dX9_nights_20 : decode cX9_nights 20 = .ok (.iconst 0, 1) := by decide +kernel
theorem dX9_nights_21 : decode cX9_nights 21 = .ok (.istore_n 2, 1) := by decide +kernel
theorem dX9_nights_22 : decode cX9_nights 22 = .ok (.aload_n 0, 1) := by decide +kernel
theorem dX9_nights_23 : decode cX9_nights 23 = .ok (.invokevirtual 184, 3) := by decide +kernel
theorem dX9_nights_26 : decode cX9_nights 26 = .ok (.iconst 0, 1) := by decide +kernel
theorem dX9_nights_27 : decode cX9_nights 27 = .ok (.istore_n 3, 1) := by decide +kernel
theorem dX9_nights_28 : decode cX9_nights 28 = .ok (.iload_n 3, 1) := by decide +kernel
theorem dX9_nights_29 : decode cX9_nights 29 = .ok (.iload_n 1, 1) := by decide +kernel
theorem dX9_nights_30 : decode cX9_nights 30 = .ok (.if_icmp .ge 83, 3) := by decide +kernel
theorem dX9_nights_33 : decode cX9_nights 33 = .ok (.aload_n 0, 1) := by decide +kernel
theorem dX9_nights_34 : decode cX9_nights 34 = .ok (.aload_n 0, 1) := by decide +kernel
theorem dX9_nights_35 : decode cX9_nights 35 = .ok (.getfield 236, 3) := by decide +kernel
theorem dX9_nights_38 : decode cX9_nights 38 = .ok (.ldc2_w 242, 3) := by decide +kernel
theorem dX9_nights_41 : decode cX9_nights 41 = .ok (.lmul, 1) := by decide +kernel
theorem dX9_nights_42 : decode cX9_nights 42 = .ok (.ldc2_w 244, 3) := by decide +kernel
theorem dX9_nights_45 : decode cX9_nights 45 = .ok (.ladd, 1) := by decide +kernel
theorem dX9_nights_46 : decode cX9_nights 46 = .ok (.putfield 236, 3) := by decide +kernel
theorem dX9_nights_49 : decode cX9_nights 49 = .ok (.aload_n 0, 1) := by decide +kernel
theorem dX9_nights_50 : decode cX9_nights 50 = .ok (.getfield 34, 3) := by decide +kernel
theorem dX9_nights_53 : decode cX9_nights 53 = .ok (.bipush 11, 2) := by decide +kernel
theorem dX9_nights_55 : decode cX9_nights 55 = .ok (.aload_n 0, 1) := by decide +kernel
theorem dX9_nights_56 : decode cX9_nights 56 = .ok (.getfield 236, 3) := by decide +kernel
theorem dX9_nights_59 : decode cX9_nights 59 = .ok (.bipush 33, 2) := by decide +kernel
theorem dX9_nights_61 : decode cX9_nights 61 = .ok (.lushr, 1) := by decide +kernel
theorem dX9_nights_62 : decode cX9_nights 62 = .ok (.ldc2_w 157, 3) := by decide +kernel
theorem dX9_nights_65 : decode cX9_nights 65 = .ok (.lrem, 1) := by decide +kernel
theorem dX9_nights_66 : decode cX9_nights 66 = .ok (.lconst 0, 1) := by decide +kernel
theorem dX9_nights_67 : decode cX9_nights 67 = .ok (.lcmp, 1) := by decide +kernel
theorem dX9_nights_68 : decode cX9_nights 68 = .ok (.ifCond .ne 7, 3) := by decide +kernel
theorem dX9_nights_71 : decode cX9_nights 71 = .ok (.iconst 1, 1) := by decide +kernel
theorem dX9_nights_72 : decode cX9_nights 72 = .ok (.goto 4, 3) := by decide +kernel
theorem dX9_nights_75 : decode cX9_nights 75 = .ok (.iconst 0, 1) := by decide +kernel
theorem dX9_nights_76 : decode cX9_nights 76 = .ok (.iastore, 1) := by decide +kernel
theorem dX9_nights_77 : decode cX9_nights 77 = .ok (.iload_n 2, 1) := by decide +kernel
theorem dX9_nights_78 : decode cX9_nights 78 = .ok (.aload_n 0, 1) := by decide +kernel
theorem dX9_nights_79 : decode cX9_nights 79 = .ok (.aload_n 0, 1) := by decide +kernel
theorem dX9_nights_80 : decode cX9_nights 80 = .ok (.getfield 34, 3) := by decide +kernel
theorem dX9_nights_83 : decode cX9_nights 83 = .ok (.aload_n 0, 1) := by decide +kernel
theorem dX9_nights_84 : decode cX9_nights 84 = .ok (.invokevirtual 145, 3) := by decide +kernel
theorem dX9_nights_87 : decode cX9_nights 87 = .ok (.aload_n 0, 1) := by decide +kernel
theorem dX9_nights_88 : decode cX9_nights 88 = .ok (.getfield 31, 3) := by decide +kernel
theorem dX9_nights_91 : decode cX9_nights 91 = .ok (.bipush 16, 2) := by decide +kernel
theorem dX9_nights_93 : decode cX9_nights 93 = .ok (.iaload, 1) := by decide +kernel
theorem dX9_nights_94 : decode cX9_nights 94 = .ok (.iload_n 3, 1) := by decide +kernel
theorem dX9_nights_95 : decode cX9_nights 95 = .ok (.iadd, 1) := by decide +kernel
theorem dX9_nights_96 : decode cX9_nights 96 = .ok (.iconst 1, 1) := by decide +kernel
theorem dX9_nights_97 : decode cX9_nights 97 = .ok (.iconst 4, 1) := by decide +kernel
theorem dX9_nights_98 : decode cX9_nights 98 = .ok (.aload_n 0, 1) := by decide +kernel
theorem dX9_nights_99 : decode cX9_nights 99 = .ok (.getfield 113, 3) := by decide +kernel
theorem dX9_nights_102 : decode cX9_nights 102 = .ok (.invokevirtual 164, 3) := by decide +kernel
theorem dX9_nights_105 : decode cX9_nights 105 = .ok (.iadd, 1) := by decide +kernel
theorem dX9_nights_106 : decode cX9_nights 106 = .ok (.istore_n 2, 1) := by decide +kernel
theorem dX9_nights_107 : decode cX9_nights 107 = .ok (.iinc 3 1, 3) := by decide +kernel
theorem dX9_nights_110 : decode cX9_nights 110 = .ok (.goto (-82), 3) := by decide +kernel
theorem dX9_nights_113 : decode cX9_nights 113 = .ok (.iload_n 2, 1) := by decide +kernel
theorem dX9_nights_114 : decode cX9_nights 114 = .ok (.ireturn, 1) := by decide +kernel
theorem dX9_keep_0 : decode cX9_keep 0 = .ok (.aload_n 0, 1) := by decide +kernel
theorem dX9_keep_1 : decode cX9_keep 1 = .ok (.iconst 0, 1) := by decide +kernel
theorem dX9_keep_2 : decode cX9_keep 2 = .ok (.putfield 62, 3) := by decide +kernel
theorem dX9_keep_5 : decode cX9_keep 5 = .ok (.iload_n 1, 1) := by decide +kernel
theorem dX9_keep_6 : decode cX9_keep 6 = .ok (.i2l, 1) := by decide +kernel
theorem dX9_keep_7 : decode cX9_keep 7 = .ok (.lconst 0, 1) := by decide +kernel
theorem dX9_keep_8 : decode cX9_keep 8 = .ok (.lconst 1, 1) := by decide +kernel
theorem dX9_keep_9 : decode cX9_keep 9 = .ok (.invokestatic 69, 3) := by decide +kernel
theorem dX9_keep_12 : decode cX9_keep 12 = .ok (.ifCond .ne 5, 3) := by decide +kernel
theorem dX9_keep_15 : decode cX9_keep 15 = .ok (.iconst (-1), 1) := by decide +kernel
theorem dX9_keep_16 : decode cX9_keep 16 = .ok (.ireturn, 1) := by decide +kernel
theorem dX9_keep_17 : decode cX9_keep 17 = .ok (.aload_n 0, 1) := by decide +kernel
theorem dX9_keep_18 : decode cX9_keep 18 = .ok (.getfield 43, 3) := by decide +kernel
theorem dX9_keep_21 : decode cX9_keep 21 = .ok (.iload_n 1, 1) := by decide +kernel
theorem dX9_keep_22 : decode cX9_keep 22 = .ok (.iconst 1, 1) := by decide +kernel
theorem dX9_keep_23 : decode cX9_keep 23 = .ok (.bastore, 1) := by decide +kernel
theorem dX9_keep_24 : decode cX9_keep 24 = .ok (.iconst 0, 1) := by decide +kernel
theorem dX9_keep_25 : decode cX9_keep 25 = .ok (.istore_n 2, 1) := by decide +kernel
theorem dX9_keep_26 : decode cX9_keep 26 = .ok (.iload_n 2, 1) := by decide +kernel
theorem dX9_keep_27 : decode cX9_keep 27 = .ok (.bipush 17, 2) := by decide +kernel
theorem dX9_keep_29 : decode cX9_keep 29 = .ok (.if_icmp .ge 26, 3) := by decide +kernel
theorem dX9_keep_32 : decode cX9_keep 32 = .ok (.aload_n 0, 1) := by decide +kernel
theorem dX9_keep_33 : decode cX9_keep 33 = .ok (.getfield 40, 3) := by decide +kernel
theorem dX9_keep_36 : decode cX9_keep 36 = .ok (.bipush 17, 2) := by decide +kernel
theorem dX9_keep_38 : decode cX9_keep 38 = .ok (.iload_n 1, 1) := by decide +kernel
theorem dX9_keep_39 : decode cX9_keep 39 = .ok (.imul, 1) := by decide +kernel
theorem dX9_keep_40 : decode cX9_keep 40 = .ok (.iload_n 2, 1) := by decide +kernel
theorem dX9_keep_41 : decode cX9_keep 41 = .ok (.iadd, 1) := by decide +kernel
theorem dX9_keep_42 : decode cX9_keep 42 = .ok (.aload_n 0, 1) := by decide +kernel
theorem dX9_keep_43 : decode cX9_keep 43 = .ok (.getfield 31, 3) := by decide +kernel
theorem dX9_keep_46 : decode cX9_keep 46 = .ok (.iload_n 2, 1) := by decide +kernel
theorem dX9_keep_47 : decode cX9_keep 47 = .ok (.iaload, 1) := by decide +kernel
theorem dX9_keep_48 : decode cX9_keep 48 = .ok (.iastore, 1) := by decide +kernel
theorem dX9_keep_49 : decode cX9_keep 49 = .ok (.iinc 2 1, 3) := by decide +kernel
theorem dX9_keep_52 : decode cX9_keep 52 = .ok (.goto (-26), 3) := by decide +kernel
theorem dX9_keep_55 : decode cX9_keep 55 = .ok (.aload_n 0, 1) := by decide +kernel
theorem dX9_keep_56 : decode cX9_keep 56 = .ok (.getfield 31, 3) := by decide +kernel
theorem dX9_keep_59 : decode cX9_keep 59 = .ok (.bipush 16, 2) := by decide +kernel
theorem dX9_keep_61 : decode cX9_keep 61 = .ok (.iaload, 1) := by decide +kernel
theorem dX9_keep_62 : decode cX9_keep 62 = .ok (.ireturn, 1) := by decide +kernel
theorem dX9_again_0 : decode cX9_again 0 = .ok (.aload_n 0, 1) := by decide +kernel
theorem dX9_again_1 : decode cX9_again 1 = .ok (.iconst 0, 1) := by decide +kernel
theorem dX9_again_2 : decode cX9_again 2 = .ok (.putfield 62, 3) := by decide +kernel
theorem dX9_again_5 : decode cX9_again 5 = .ok (.iload_n 1, 1) := by decide +kernel
theorem dX9_again_6 : decode cX9_again 6 = .ok (.i2l, 1) := by decide +kernel
theorem dX9_again_7 : decode cX9_again 7 = .ok (.lconst 0, 1) := by decide +kernel
theorem dX9_again_8 : decode cX9_again 8 = .ok (.lconst 1, 1) := by decide +kernel
theorem dX9_again_9 : decode cX9_again 9 = .ok (.invokestatic 69, 3) := by decide +kernel
theorem dX9_again_12 : decode cX9_again 12 = .ok (.ifCond .ne 5, 3) := by decide +kernel
theorem dX9_again_15 : decode cX9_again 15 = .ok (.iconst (-1), 1) := by decide +kernel
theorem dX9_again_16 : decode cX9_again 16 = .ok (.ireturn, 1) := by decide +kernel
theorem dX9_again_17 : decode cX9_again 17 = .ok (.aload_n 0, 1) := by decide +kernel
theorem dX9_again_18 : decode cX9_again 18 = .ok (.getfield 43, 3) := by decide +kernel
theorem dX9_again_21 : decode cX9_again 21 = .ok (.iload_n 1, 1) := by decide +kernel
theorem dX9_again_22 : decode cX9_again 22 = .ok (.baload, 1) := by decide +kernel
theorem dX9_again_23 : decode cX9_again 23 = .ok (.ifCond .ne 6, 3) := by decide +kernel
theorem dX9_again_26 : decode cX9_again 26 = .ok (.bipush (-3), 2) := by decide +kernel
theorem dX9_again_28 : decode cX9_again 28 = .ok (.ireturn, 1) := by decide +kernel
theorem dX9_again_29 : decode cX9_again 29 = .ok (.iconst 0, 1) := by decide +kernel
theorem dX9_again_30 : decode cX9_again 30 = .ok (.istore_n 2, 1) := by decide +kernel
theorem dX9_again_31 : decode cX9_again 31 = .ok (.iload_n 2, 1) := by decide +kernel
theorem dX9_again_32 : decode cX9_again 32 = .ok (.bipush 17, 2) := by decide +kernel
theorem dX9_again_34 : decode cX9_again 34 = .ok (.if_icmp .ge 26, 3) := by decide +kernel
theorem dX9_again_37 : decode cX9_again 37 = .ok (.aload_n 0, 1) := by decide +kernel
theorem dX9_again_38 : decode cX9_again 38 = .ok (.getfield 31, 3) := by decide +kernel
theorem dX9_again_41 : decode cX9_again 41 = .ok (.iload_n 2, 1) := by decide +kernel
theorem dX9_again_42 : decode cX9_again 42 = .ok (.aload_n 0, 1) := by decide +kernel
theorem dX9_again_43 : decode cX9_again 43 = .ok (.getfield 40, 3) := by decide +kernel
theorem dX9_again_46 : decode cX9_again 46 = .ok (.bipush 17, 2) := by decide +kernel
theorem dX9_again_48 : decode cX9_again 48 = .ok (.iload_n 1, 1) := by decide +kernel
theorem dX9_again_49 : decode cX9_again 49 = .ok (.imul, 1) := by decide +kernel
theorem dX9_again_50 : decode cX9_again 50 = .ok (.iload_n 2, 1) := by decide +kernel
theorem dX9_again_51 : decode cX9_again 51 = .ok (.iadd, 1) := by decide +kernel
theorem dX9_again_52 : decode cX9_again 52 = .ok (.iaload, 1) := by decide +kernel
theorem dX9_again_53 : decode cX9_again 53 = .ok (.iastore, 1) := by decide +kernel
theorem dX9_again_54 : decode cX9_again 54 = .ok (.iinc 2 1, 3) := by decide +kernel
theorem dX9_again_57 : decode cX9_again 57 = .ok (.goto (-26), 3) := by decide +kernel
theorem dX9_again_60 : decode cX9_again 60 = .ok (.aload_n 0, 1) := by decide +kernel
theorem dX9_again_61 : decode cX9_again 61 = .ok (.iconst 0, 1) := by decide +kernel
theorem dX9_again_62 : decode cX9_again 62 = .ok (.putfield 116, 3) := by decide +kernel
theorem dX9_again_65 : decode cX9_again 65 = .ok (.aload_n 0, 1) := by decide +kernel
theorem dX9_again_66 : decode cX9_again 66 = .ok (.getfield 31, 3) := by decide +kernel
theorem dX9_again_69 : decode cX9_again 69 = .ok (.bipush 16, 2) := by decide +kernel
theorem dX9_again_71 : decode cX9_again 71 = .ok (.iaload, 1) := by decide +kernel
theorem dX9_again_72 : decode cX9_again 72 = .ok (.ireturn, 1) := by decide +kernel
theorem dJ6_bitCount_0f7a4_0 : decode cJ6_bitCount_0f7a4 0 = .ok (.iload_n 0, 1) := by decide +kernel
theorem dJ6_bitCount_0f7a4_1 : decode cJ6_bitCount_0f7a4 1 = .ok (.iload_n 0, 1) := by decide +kernel
theorem dJ6_bitCount_0f7a4_2 : decode cJ6_bitCount_0f7a4 2 = .ok (.iconst 1, 1) := by decide +kernel
theorem dJ6_bitCount_0f7a4_3 : decode cJ6_bitCount_0f7a4 3 = .ok (.iushr, 1) := by decide +kernel
theorem dJ6_bitCount_0f7a4_4 : decode cJ6_bitCount_0f7a4 4 = .ok (.ldc_w 265, 3) := by decide +kernel
theorem dJ6_bitCount_0f7a4_7 : decode cJ6_bitCount_0f7a4 7 = .ok (.iand, 1) := by decide +kernel
theorem dJ6_bitCount_0f7a4_8 : decode cJ6_bitCount_0f7a4 8 = .ok (.isub, 1) := by decide +kernel
theorem dJ6_bitCount_0f7a4_9 : decode cJ6_bitCount_0f7a4 9 = .ok (.istore_n 0, 1) := by decide +kernel
theorem dJ6_bitCount_0f7a4_10 : decode cJ6_bitCount_0f7a4 10 = .ok (.iload_n 0, 1) := by decide +kernel
theorem dJ6_bitCount_0f7a4_11 : decode cJ6_bitCount_0f7a4 11 = .ok (.ldc_w 266, 3) := by decide +kernel
theorem dJ6_bitCount_0f7a4_14 : decode cJ6_bitCount_0f7a4 14 = .ok (.iand, 1) := by decide +kernel
theorem dJ6_bitCount_0f7a4_15 : decode cJ6_bitCount_0f7a4 15 = .ok (.iload_n 0, 1) := by decide +kernel
theorem dJ6_bitCount_0f7a4_16 : decode cJ6_bitCount_0f7a4 16 = .ok (.iconst 2, 1) := by decide +kernel
theorem dJ6_bitCount_0f7a4_17 : decode cJ6_bitCount_0f7a4 17 = .ok (.iushr, 1) := by decide +kernel
theorem dJ6_bitCount_0f7a4_18 : decode cJ6_bitCount_0f7a4 18 = .ok (.ldc_w 266, 3) := by decide +kernel
theorem dJ6_bitCount_0f7a4_21 : decode cJ6_bitCount_0f7a4 21 = .ok (.iand, 1) := by decide +kernel
theorem dJ6_bitCount_0f7a4_22 : decode cJ6_bitCount_0f7a4 22 = .ok (.iadd, 1) := by decide +kernel
theorem dJ6_bitCount_0f7a4_23 : decode cJ6_bitCount_0f7a4 23 = .ok (.istore_n 0, 1) := by decide +kernel
theorem dJ6_bitCount_0f7a4_24 : decode cJ6_bitCount_0f7a4 24 = .ok (.iload_n 0, 1) := by decide +kernel
theorem dJ6_bitCount_0f7a4_25 : decode cJ6_bitCount_0f7a4 25 = .ok (.iload_n 0, 1) := by decide +kernel
theorem dJ6_bitCount_0f7a4_26 : decode cJ6_bitCount_0f7a4 26 = .ok (.iconst 4, 1) := by decide +kernel
theorem dJ6_bitCount_0f7a4_27 : decode cJ6_bitCount_0f7a4 27 = .ok (.iushr, 1) := by decide +kernel
theorem dJ6_bitCount_0f7a4_28 : decode cJ6_bitCount_0f7a4 28 = .ok (.iadd, 1) := by decide +kernel
theorem dJ6_bitCount_0f7a4_29 : decode cJ6_bitCount_0f7a4 29 = .ok (.ldc_w 267, 3) := by decide +kernel
theorem dJ6_bitCount_0f7a4_32 : decode cJ6_bitCount_0f7a4 32 = .ok (.iand, 1) := by decide +kernel
theorem dJ6_bitCount_0f7a4_33 : decode cJ6_bitCount_0f7a4 33 = .ok (.istore_n 0, 1) := by decide +kernel
theorem dJ6_bitCount_0f7a4_34 : decode cJ6_bitCount_0f7a4 34 = .ok (.iload_n 0, 1) := by decide +kernel
theorem dJ6_bitCount_0f7a4_35 : decode cJ6_bitCount_0f7a4 35 = .ok (.iload_n 0, 1) := by decide +kernel
theorem dJ6_bitCount_0f7a4_36 : decode cJ6_bitCount_0f7a4 36 = .ok (.bipush 8, 2) := by decide +kernel
theorem dJ6_bitCount_0f7a4_38 : decode cJ6_bitCount_0f7a4 38 = .ok (.iushr, 1) := by decide +kernel
theorem dJ6_bitCount_0f7a4_39 : decode cJ6_bitCount_0f7a4 39 = .ok (.iadd, 1) := by decide +kernel
theorem dJ6_bitCount_0f7a4_40 : decode cJ6_bitCount_0f7a4 40 = .ok (.istore_n 0, 1) := by decide +kernel
theorem dJ6_bitCount_0f7a4_41 : decode cJ6_bitCount_0f7a4 41 = .ok (.iload_n 0, 1) := by decide +kernel
theorem dJ6_bitCount_0f7a4_42 : decode cJ6_bitCount_0f7a4 42 = .ok (.iload_n 0, 1) := by decide +kernel
theorem dJ6_bitCount_0f7a4_43 : decode cJ6_bitCount_0f7a4 43 = .ok (.bipush 16, 2) := by decide +kernel
theorem dJ6_bitCount_0f7a4_45 : decode cJ6_bitCount_0f7a4 45 = .ok (.iushr, 1) := by decide +kernel
theorem dJ6_bitCount_0f7a4_46 : decode cJ6_bitCount_0f7a4 46 = .ok (.iadd, 1) := by decide +kernel
theorem dJ6_bitCount_0f7a4_47 : decode cJ6_bitCount_0f7a4 47 = .ok (.istore_n 0, 1) := by decide +kernel
theorem dJ6_bitCount_0f7a4_48 : decode cJ6_bitCount_0f7a4 48 = .ok (.iload_n 0, 1) := by decide +kernel
theorem dJ6_bitCount_0f7a4_49 : decode cJ6_bitCount_0f7a4 49 = .ok (.bipush 63, 2) := by decide +kernel
theorem dJ6_bitCount_0f7a4_51 : decode cJ6_bitCount_0f7a4 51 = .ok (.iand, 1) := by decide +kernel
theorem dJ6_bitCount_0f7a4_52 : decode cJ6_bitCount_0f7a4 52 = .ok (.ireturn, 1) := by decide +kernel
theorem dJ13_bitCount_95d88_0 : decode cJ13_bitCount_95d88 0 = .ok (.lload_n 0, 1) := by decide +kernel
theorem dJ13_bitCount_95d88_1 : decode cJ13_bitCount_95d88 1 = .ok (.lload_n 0, 1) := by decide +kernel
theorem dJ13_bitCount_95d88_2 : decode cJ13_bitCount_95d88 2 = .ok (.iconst 1, 1) := by decide +kernel
theorem dJ13_bitCount_95d88_3 : decode cJ13_bitCount_95d88 3 = .ok (.lushr, 1) := by decide +kernel
theorem dJ13_bitCount_95d88_4 : decode cJ13_bitCount_95d88 4 = .ok (.ldc2_w 314, 3) := by decide +kernel
theorem dJ13_bitCount_95d88_7 : decode cJ13_bitCount_95d88 7 = .ok (.land, 1) := by decide +kernel
theorem dJ13_bitCount_95d88_8 : decode cJ13_bitCount_95d88 8 = .ok (.lsub, 1) := by decide +kernel
theorem dJ13_bitCount_95d88_9 : decode cJ13_bitCount_95d88 9 = .ok (.lstore_n 0, 1) := by decide +kernel
theorem dJ13_bitCount_95d88_10 : decode cJ13_bitCount_95d88 10 = .ok (.lload_n 0, 1) := by decide +kernel
theorem dJ13_bitCount_95d88_11 : decode cJ13_bitCount_95d88 11 = .ok (.ldc2_w 316, 3) := by decide +kernel
theorem dJ13_bitCount_95d88_14 : decode cJ13_bitCount_95d88 14 = .ok (.land, 1) := by decide +kernel
theorem dJ13_bitCount_95d88_15 : decode cJ13_bitCount_95d88 15 = .ok (.lload_n 0, 1) := by decide +kernel
theorem dJ13_bitCount_95d88_16 : decode cJ13_bitCount_95d88 16 = .ok (.iconst 2, 1) := by decide +kernel
theorem dJ13_bitCount_95d88_17 : decode cJ13_bitCount_95d88 17 = .ok (.lushr, 1) := by decide +kernel
theorem dJ13_bitCount_95d88_18 : decode cJ13_bitCount_95d88 18 = .ok (.ldc2_w 316, 3) := by decide +kernel
theorem dJ13_bitCount_95d88_21 : decode cJ13_bitCount_95d88 21 = .ok (.land, 1) := by decide +kernel
theorem dJ13_bitCount_95d88_22 : decode cJ13_bitCount_95d88 22 = .ok (.ladd, 1) := by decide +kernel
theorem dJ13_bitCount_95d88_23 : decode cJ13_bitCount_95d88 23 = .ok (.lstore_n 0, 1) := by decide +kernel
theorem dJ13_bitCount_95d88_24 : decode cJ13_bitCount_95d88 24 = .ok (.lload_n 0, 1) := by decide +kernel
theorem dJ13_bitCount_95d88_25 : decode cJ13_bitCount_95d88 25 = .ok (.lload_n 0, 1) := by decide +kernel
theorem dJ13_bitCount_95d88_26 : decode cJ13_bitCount_95d88 26 = .ok (.iconst 4, 1) := by decide +kernel
theorem dJ13_bitCount_95d88_27 : decode cJ13_bitCount_95d88 27 = .ok (.lushr, 1) := by decide +kernel
theorem dJ13_bitCount_95d88_28 : decode cJ13_bitCount_95d88 28 = .ok (.ladd, 1) := by decide +kernel
theorem dJ13_bitCount_95d88_29 : decode cJ13_bitCount_95d88 29 = .ok (.ldc2_w 318, 3) := by decide +kernel
theorem dJ13_bitCount_95d88_32 : decode cJ13_bitCount_95d88 32 = .ok (.land, 1) := by decide +kernel
theorem dJ13_bitCount_95d88_33 : decode cJ13_bitCount_95d88 33 = .ok (.lstore_n 0, 1) := by decide +kernel
theorem dJ13_bitCount_95d88_34 : decode cJ13_bitCount_95d88 34 = .ok (.lload_n 0, 1) := by decide +kernel
theorem dJ13_bitCount_95d88_35 : decode cJ13_bitCount_95d88 35 = .ok (.lload_n 0, 1) := by decide +kernel
theorem dJ13_bitCount_95d88_36 : decode cJ13_bitCount_95d88 36 = .ok (.bipush 8, 2) := by decide +kernel
theorem dJ13_bitCount_95d88_38 : decode cJ13_bitCount_95d88 38 = .ok (.lushr, 1) := by decide +kernel
theorem dJ13_bitCount_95d88_39 : decode cJ13_bitCount_95d88 39 = .ok (.ladd, 1) := by decide +kernel
theorem dJ13_bitCount_95d88_40 : decode cJ13_bitCount_95d88 40 = .ok (.lstore_n 0, 1) := by decide +kernel
theorem dJ13_bitCount_95d88_41 : decode cJ13_bitCount_95d88 41 = .ok (.lload_n 0, 1) := by decide +kernel
theorem dJ13_bitCount_95d88_42 : decode cJ13_bitCount_95d88 42 = .ok (.lload_n 0, 1) := by decide +kernel
theorem dJ13_bitCount_95d88_43 : decode cJ13_bitCount_95d88 43 = .ok (.bipush 16, 2) := by decide +kernel
theorem dJ13_bitCount_95d88_45 : decode cJ13_bitCount_95d88 45 = .ok (.lushr, 1) := by decide +kernel
theorem dJ13_bitCount_95d88_46 : decode cJ13_bitCount_95d88 46 = .ok (.ladd, 1) := by decide +kernel
theorem dJ13_bitCount_95d88_47 : decode cJ13_bitCount_95d88 47 = .ok (.lstore_n 0, 1) := by decide +kernel
theorem dJ13_bitCount_95d88_48 : decode cJ13_bitCount_95d88 48 = .ok (.lload_n 0, 1) := by decide +kernel
theorem dJ13_bitCount_95d88_49 : decode cJ13_bitCount_95d88 49 = .ok (.lload_n 0, 1) := by decide +kernel
theorem dJ13_bitCount_95d88_50 : decode cJ13_bitCount_95d88 50 = .ok (.bipush 32, 2) := by decide +kernel
theorem dJ13_bitCount_95d88_52 : decode cJ13_bitCount_95d88 52 = .ok (.lushr, 1) := by decide +kernel
theorem dJ13_bitCount_95d88_53 : decode cJ13_bitCount_95d88 53 = .ok (.ladd, 1) := by decide +kernel
theorem dJ13_bitCount_95d88_54 : decode cJ13_bitCount_95d88 54 = .ok (.lstore_n 0, 1) := by decide +kernel
theorem dJ13_bitCount_95d88_55 : decode cJ13_bitCount_95d88 55 = .ok (.lload_n 0, 1) := by decide +kernel
theorem dJ13_bitCount_95d88_56 : decode cJ13_bitCount_95d88 56 = .ok (.l2i, 1) := by decide +kernel
theorem dJ13_bitCount_95d88_57 : decode cJ13_bitCount_95d88 57 = .ok (.bipush 127, 2) := by decide +kernel
theorem dJ13_bitCount_95d88_59 : decode cJ13_bitCount_95d88 59 = .ok (.iand, 1) := by decide +kernel
theorem dJ13_bitCount_95d88_60 : decode cJ13_bitCount_95d88 60 = .ok (.ireturn, 1) := by decide +kernel
theorem dJ9_abs_0f7a4_0 : decode cJ9_abs_0f7a4 0 = .ok (.iload_n 0, 1) := by decide +kernel
theorem dJ9_abs_0f7a4_1 : decode cJ9_abs_0f7a4 1 = .ok (.ifCond .ge 8, 3) := by decide +kernel
theorem dJ9_abs_0f7a4_4 : decode cJ9_abs_0f7a4 4 = .ok (.iload_n 0, 1) := by decide +kernel
theorem dJ9_abs_0f7a4_5 : decode cJ9_abs_0f7a4 5 = .ok (.ineg, 1) := by decide +kernel
theorem dJ9_abs_0f7a4_6 : decode cJ9_abs_0f7a4 6 = .ok (.goto 4, 3) := by decide +kernel
theorem dJ9_abs_0f7a4_9 : decode cJ9_abs_0f7a4 9 = .ok (.iload_n 0, 1) := by decide +kernel
theorem dJ9_abs_0f7a4_10 : decode cJ9_abs_0f7a4 10 = .ok (.ireturn, 1) := by decide +kernel
theorem dJ9_max_7cf53_0 : decode cJ9_max_7cf53 0 = .ok (.iload_n 0, 1) := by decide +kernel
theorem dJ9_max_7cf53_1 : decode cJ9_max_7cf53 1 = .ok (.iload_n 1, 1) := by decide +kernel
theorem dJ9_max_7cf53_2 : decode cJ9_max_7cf53 2 = .ok (.if_icmp .lt 7, 3) := by decide +kernel
theorem dJ9_max_7cf53_5 : decode cJ9_max_7cf53 5 = .ok (.iload_n 0, 1) := by decide +kernel
theorem dJ9_max_7cf53_6 : decode cJ9_max_7cf53 6 = .ok (.goto 4, 3) := by decide +kernel
theorem dJ9_max_7cf53_9 : decode cJ9_max_7cf53 9 = .ok (.iload_n 1, 1) := by decide +kernel
theorem dJ9_max_7cf53_10 : decode cJ9_max_7cf53 10 = .ok (.ireturn, 1) := by decide +kernel
theorem dL_law_0 : decode cL_law 0 = .ok (.new 7, 3) := by decide +kernel
theorem dL_law_3 : decode cL_law 3 = .ok (.dup, 1) := by decide +kernel
theorem dL_law_4 : decode cL_law 4 = .ok (.invokespecial 9, 3) := by decide +kernel
theorem dL_law_7 : decode cL_law 7 = .ok (.astore_n 1, 1) := by decide +kernel
theorem dL_law_8 : decode cL_law 8 = .ok (.new 10, 3) := by decide +kernel
theorem dL_law_11 : decode cL_law 11 = .ok (.dup, 1) := by decide +kernel
theorem dL_law_12 : decode cL_law 12 = .ok (.invokespecial 12, 3) := by decide +kernel
theorem dL_law_15 : decode cL_law 15 = .ok (.astore_n 2, 1) := by decide +kernel
theorem dL_law_16 : decode cL_law 16 = .ok (.iconst 0, 1) := by decide +kernel
theorem dL_law_17 : decode cL_law 17 = .ok (.istore_n 3, 1) := by decide +kernel
theorem dL_law_18 : decode cL_law 18 = .ok (.iload_n 3, 1) := by decide +kernel
theorem dL_law_19 : decode cL_law 19 = .ok (.aload_n 0, 1) := by decide +kernel
theorem dL_law_20 : decode cL_law 20 = .ok (.arraylength, 1) := by decide +kernel
theorem dL_law_21 : decode cL_law 21 = .ok (.iconst 5, 1) := by decide +kernel
theorem dL_law_22 : decode cL_law 22 = .ok (.isub, 1) := by decide +kernel
theorem dL_law_23 : decode cL_law 23 = .ok (.if_icmp .gt 1020, 3) := by decide +kernel
theorem dL_law_26 : decode cL_law 26 = .ok (.aload_n 0, 1) := by decide +kernel
theorem dL_law_27 : decode cL_law 27 = .ok (.iload_n 3, 1) := by decide +kernel
theorem dL_law_28 : decode cL_law 28 = .ok (.iaload, 1) := by decide +kernel
theorem dL_law_29 : decode cL_law 29 = .ok (.bipush 31, 2) := by decide +kernel
theorem dL_law_31 : decode cL_law 31 = .ok (.iand, 1) := by decide +kernel
theorem dL_law_32 : decode cL_law 32 = .ok (.tableswitch 1005 0 29 #[136, 159, 172, 185, 198, 221, 254, 287, 310, 343, 366, 399, 412, 425, 438, 471, 504, 537, 596, 629, 652, 705, 764, 777, 800, 813, 882, 936, 959, 982], 136) := by decide +kernel
theorem dL_law_168 : decode cL_law 168 = .ok (.aload_n 1, 1) := by decide +kernel
theorem dL_law_169 : decode cL_law 169 = .ok (.aload_n 0, 1) := by decide +kernel
theorem dL_law_170 : decode cL_law 170 = .ok (.iload_n 3, 1) := by decide +kernel
theorem dL_law_171 : decode cL_law 171 = .ok (.iconst 1, 1) := by decide +kernel
theorem dL_law_172 : decode cL_law 172 = .ok (.iadd, 1) := by decide +kernel
theorem dL_law_173 : decode cL_law 173 = .ok (.iaload, 1) := by decide +kernel
theorem dL_law_174 : decode cL_law 174 = .ok (.invokevirtual 13, 3) := by decide +kernel
theorem dL_law_177 : decode cL_law 177 = .ok (.aload_n 2, 1) := by decide +kernel
theorem dL_law_178 : decode cL_law 178 = .ok (.aload_n 0, 1) := by decide +kernel
theorem dL_law_179 : decode cL_law 179 = .ok (.iload_n 3, 1) := by decide +kernel
theorem dL_law_180 : decode cL_law 180 = .ok (.iconst 1, 1) := by decide +kernel
theorem dL_law_181 : decode cL_law 181 = .ok (.iadd, 1) := by decide +kernel
theorem dL_law_182 : decode cL_law 182 = .ok (.iaload, 1) := by decide +kernel
theorem dL_law_183 : decode cL_law 183 = .ok (.invokevirtual 17, 3) := by decide +kernel
theorem dL_law_186 : decode cL_law 186 = .ok (.if_icmp .eq 851, 3) := by decide +kernel
theorem dL_law_189 : decode cL_law 189 = .ok (.iconst 0, 1) := by decide +kernel
theorem dL_law_190 : decode cL_law 190 = .ok (.ireturn, 1) := by decide +kernel
theorem dL_law_191 : decode cL_law 191 = .ok (.aload_n 1, 1) := by decide +kernel
theorem dL_law_192 : decode cL_law 192 = .ok (.invokevirtual 18, 3) := by decide +kernel
theorem dL_law_195 : decode cL_law 195 = .ok (.aload_n 2, 1) := by decide +kernel
theorem dL_law_196 : decode cL_law 196 = .ok (.invokevirtual 22, 3) := by decide +kernel
theorem dL_law_199 : decode cL_law 199 = .ok (.if_icmp .eq 838, 3) := by decide +kernel
theorem dL_law_202 : decode cL_law 202 = .ok (.iconst 0, 1) := by decide +kernel
theorem dL_law_203 : decode cL_law 203 = .ok (.ireturn, 1) := by decide +kernel
theorem dL_law_204 : decode cL_law 204 = .ok (.aload_n 1, 1) := by decide +kernel
theorem dL_law_205 : decode cL_law 205 = .ok (.invokevirtual 23, 3) := by decide +kernel
theorem dL_law_208 : decode cL_law 208 = .ok (.aload_n 2, 1) := by decide +kernel
theorem dL_law_209 : decode cL_law 209 = .ok (.invokevirtual 26, 3) := by decide +kernel
theorem dL_law_212 : decode cL_law 212 = .ok (.if_icmp .eq 825, 3) := by decide +kernel
theorem dL_law_215 : decode cL_law 215 = .ok (.iconst 0, 1) := by decide +kernel
theorem dL_law_216 : decode cL_law 216 = .ok (.ireturn, 1) := by decide +kernel
theorem dL_law_217 : decode cL_law 217 = .ok (.aload_n 1, 1) := by decide +kernel
theorem dL_law_218 : decode cL_law 218 = .ok (.invokevirtual 27, 3) := by decide +kernel
theorem dL_law_221 : decode cL_law 221 = .ok (.aload_n 2, 1) := by decide +kernel
theorem dL_law_222 : decode cL_law 222 = .ok (.invokevirtual 30, 3) := by decide +kernel
theorem dL_law_225 : decode cL_law 225 = .ok (.if_icmp .eq 812, 3) := by decide +kernel
theorem dL_law_228 : decode cL_law 228 = .ok (.iconst 0, 1) := by decide +kernel
theorem dL_law_229 : decode cL_law 229 = .ok (.ireturn, 1) := by decide +kernel
theorem dL_law_230 : decode cL_law 230 = .ok (.aload_n 1, 1) := by decide +kernel
theorem dL_law_231 : decode cL_law 231 = .ok (.aload_n 0, 1) := by decide +kernel
theorem dL_law_232 : decode cL_law 232 = .ok (.iload_n 3, 1) := by decide +kernel
theorem dL_law_233 : decode cL_law 233 = .ok (.iconst 1, 1) := by decide +kernel
theorem dL_law_234 : decode cL_law 234 = .ok (.iadd, 1) := by decide +kernel
theorem dL_law_235 : decode cL_law 235 = .ok (.iaload, 1) := by decide +kernel
theorem dL_law_236 : decode cL_law 236 = .ok (.invokevirtual 31, 3) := by decide +kernel
theorem dL_law_239 : decode cL_law 239 = .ok (.aload_n 2, 1) := by decide +kernel
theorem dL_law_240 : decode cL_law 240 = .ok (.aload_n 0, 1) := by decide +kernel
theorem dL_law_241 : decode cL_law 241 = .ok (.iload_n 3, 1) := by decide +kernel
theorem dL_law_242 : decode cL_law 242 = .ok (.iconst 1, 1) := by decide +kernel
theorem dL_law_243 : decode cL_law 243 = .ok (.iadd, 1) := by decide +kernel
theorem dL_law_244 : decode cL_law 244 = .ok (.iaload, 1) := by decide +kernel
theorem dL_law_245 : decode cL_law 245 = .ok (.invokevirtual 34, 3) := by decide +kernel
theorem dL_law_248 : decode cL_law 248 = .ok (.if_icmp .eq 789, 3) := by decide +kernel
theorem dL_law_251 : decode cL_law 251 = .ok (.iconst 0, 1) := by decide +kernel
theorem dL_law_252 : decode cL_law 252 = .ok (.ireturn, 1) := by decide +kernel
theorem dL_law_253 : decode cL_law 253 = .ok (.aload_n 1, 1) := by decide +kernel
theorem dL_law_254 : decode cL_law 254 = .ok (.aload_n 0, 1) := by decide +kernel
theorem dL_law_255 : decode cL_law 255 = .ok (.iload_n 3, 1) := by decide +kernel
theorem dL_law_256 : decode cL_law 256 = .ok (.iconst 1, 1) := by decide +kernel
theorem dL_law_257 : decode cL_law 257 = .ok (.iadd, 1) := by decide +kernel
theorem dL_law_258 : decode cL_law 258 = .ok (.iaload, 1) := by decide +kernel
theorem dL_law_259 : decode cL_law 259 = .ok (.aload_n 0, 1) := by decide +kernel
theorem dL_law_260 : decode cL_law 260 = .ok (.iload_n 3, 1) := by decide +kernel
theorem dL_law_261 : decode cL_law 261 = .ok (.iconst 2, 1) := by decide +kernel
theorem dL_law_262 : decode cL_law 262 = .ok (.iadd, 1) := by decide +kernel
theorem dL_law_263 : decode cL_law 263 = .ok (.iaload, 1) := by decide +kernel
theorem dL_law_264 : decode cL_law 264 = .ok (.invokevirtual 35, 3) := by decide +kernel
theorem dL_law_267 : decode cL_law 267 = .ok (.aload_n 2, 1) := by decide +kernel
theorem dL_law_268 : decode cL_law 268 = .ok (.aload_n 0, 1) := by decide +kernel
theorem dL_law_269 : decode cL_law 269 = .ok (.iload_n 3, 1) := by decide +kernel
theorem dL_law_270 : decode cL_law 270 = .ok (.iconst 1, 1) := by decide +kernel
theorem dL_law_271 : decode cL_law 271 = .ok (.iadd, 1) := by decide +kernel
theorem dL_law_272 : decode cL_law 272 = .ok (.iaload, 1) := by decide +kernel
theorem dL_law_273 : decode cL_law 273 = .ok (.aload_n 0, 1) := by decide +kernel
theorem dL_law_274 : decode cL_law 274 = .ok (.iload_n 3, 1) := by decide +kernel
theorem dL_law_275 : decode cL_law 275 = .ok (.iconst 2, 1) := by decide +kernel
theorem dL_law_276 : decode cL_law 276 = .ok (.iadd, 1) := by decide +kernel
theorem dL_law_277 : decode cL_law 277 = .ok (.iaload, 1) := by decide +kernel
theorem dL_law_278 : decode cL_law 278 = .ok (.invokevirtual 39, 3) := by decide +kernel
theorem dL_law_281 : decode cL_law 281 = .ok (.if_icmp .eq 756, 3) := by decide +kernel
theorem dL_law_284 : decode cL_law 284 = .ok (.iconst 0, 1) := by decide +kernel
theorem dL_law_285 : decode cL_law 285 = .ok (.ireturn, 1) := by decide +kernel
theorem dL_law_286 : decode cL_law 286 = .ok (.aload_n 1, 1) := by decide +kernel
theorem dL_law_287 : decode cL_law 287 = .ok (.aload_n 0, 1) := by decide +kernel
theorem dL_law_288 : decode cL_law 288 = .ok (.iload_n 3, 1) := by decide +kernel
theorem dL_law_289 : decode cL_law 289 = .ok (.iconst 1, 1) := by decide +kernel
theorem dL_law_290 : decode cL_law 290 = .ok (.iadd, 1) := by decide +kernel
theorem dL_law_291 : decode cL_law 291 = .ok (.iaload, 1) := by decide +kernel
theorem dL_law_292 : decode cL_law 292 = .ok (.aload_n 0, 1) := by decide +kernel
theorem dL_law_293 : decode cL_law 293 = .ok (.iload_n 3, 1) := by decide +kernel
theorem dL_law_294 : decode cL_law 294 = .ok (.iconst 2, 1) := by decide +kernel
theorem dL_law_295 : decode cL_law 295 = .ok (.iadd, 1) := by decide +kernel
theorem dL_law_296 : decode cL_law 296 = .ok (.iaload, 1) := by decide +kernel
theorem dL_law_297 : decode cL_law 297 = .ok (.invokevirtual 40, 3) := by decide +kernel
theorem dL_law_300 : decode cL_law 300 = .ok (.aload_n 2, 1) := by decide +kernel
theorem dL_law_301 : decode cL_law 301 = .ok (.aload_n 0, 1) := by decide +kernel
theorem dL_law_302 : decode cL_law 302 = .ok (.iload_n 3, 1) := by decide +kernel
theorem dL_law_303 : decode cL_law 303 = .ok (.iconst 1, 1) := by decide +kernel
theorem dL_law_304 : decode cL_law 304 = .ok (.iadd, 1) := by decide +kernel
theorem dL_law_305 : decode cL_law 305 = .ok (.iaload, 1) := by decide +kernel
theorem dL_law_306 : decode cL_law 306 = .ok (.aload_n 0, 1) := by decide +kernel
theorem dL_law_307 : decode cL_law 307 = .ok (.iload_n 3, 1) := by decide +kernel
theorem dL_law_308 : decode cL_law 308 = .ok (.iconst 2, 1) := by decide +kernel
theorem dL_law_309 : decode cL_law 309 = .ok (.iadd, 1) := by decide +kernel
theorem dL_law_310 : decode cL_law 310 = .ok (.iaload, 1) := by decide +kernel
theorem dL_law_311 : decode cL_law 311 = .ok (.invokevirtual 43, 3) := by decide +kernel
theorem dL_law_314 : decode cL_law 314 = .ok (.if_icmp .eq 723, 3) := by decide +kernel
theorem dL_law_317 : decode cL_law 317 = .ok (.iconst 0, 1) := by decide +kernel
theorem dL_law_318 : decode cL_law 318 = .ok (.ireturn, 1) := by decide +kernel
theorem dL_law_319 : decode cL_law 319 = .ok (.aload_n 1, 1) := by decide +kernel
theorem dL_law_320 : decode cL_law 320 = .ok (.aload_n 0, 1) := by decide +kernel
theorem dL_law_321 : decode cL_law 321 = .ok (.iload_n 3, 1) := by decide +kernel
theorem dL_law_322 : decode cL_law 322 = .ok (.iconst 1, 1) := by decide +kernel
theorem dL_law_323 : decode cL_law 323 = .ok (.iadd, 1) := by decide +kernel
theorem dL_law_324 : decode cL_law 324 = .ok (.iaload, 1) := by decide +kernel
theorem dL_law_325 : decode cL_law 325 = .ok (.invokevirtual 44, 3) := by decide +kernel
theorem dL_law_328 : decode cL_law 328 = .ok (.aload_n 2, 1) := by decide +kernel
theorem dL_law_329 : decode cL_law 329 = .ok (.aload_n 0, 1) := by decide +kernel
theorem dL_law_330 : decode cL_law 330 = .ok (.iload_n 3, 1) := by decide +kernel
theorem dL_law_331 : decode cL_law 331 = .ok (.iconst 1, 1) := by decide +kernel
theorem dL_law_332 : decode cL_law 332 = .ok (.iadd, 1) := by decide +kernel
theorem dL_law_333 : decode cL_law 333 = .ok (.iaload, 1) := by decide +kernel
theorem dL_law_334 : decode cL_law 334 = .ok (.invokevirtual 47, 3) := by decide +kernel
theorem dL_law_337 : decode cL_law 337 = .ok (.if_icmp .eq 700, 3) := by decide +kernel
theorem dL_law_340 : decode cL_law 340 = .ok (.iconst 0, 1) := by decide +kernel
theorem dL_law_341 : decode cL_law 341 = .ok (.ireturn, 1) := by decide +kernel
theorem dL_law_342 : decode cL_law 342 = .ok (.aload_n 1, 1) := by decide +kernel
theorem dL_law_343 : decode cL_law 343 = .ok (.aload_n 0, 1) := by decide +kernel
theorem dL_law_344 : decode cL_law 344 = .ok (.iload_n 3, 1) := by decide +kernel
theorem dL_law_345 : decode cL_law 345 = .ok (.iconst 1, 1) := by decide +kernel
theorem dL_law_346 : decode cL_law 346 = .ok (.iadd, 1) := by decide +kernel
theorem dL_law_347 : decode cL_law 347 = .ok (.iaload, 1) := by decide +kernel
theorem dL_law_348 : decode cL_law 348 = .ok (.aload_n 0, 1) := by decide +kernel
theorem dL_law_349 : decode cL_law 349 = .ok (.iload_n 3, 1) := by decide +kernel
theorem dL_law_350 : decode cL_law 350 = .ok (.iconst 2, 1) := by decide +kernel
theorem dL_law_351 : decode cL_law 351 = .ok (.iadd, 1) := by decide +kernel
theorem dL_law_352 : decode cL_law 352 = .ok (.iaload, 1) := by decide +kernel
theorem dL_law_353 : decode cL_law 353 = .ok (.invokevirtual 48, 3) := by decide +kernel
theorem dL_law_356 : decode cL_law 356 = .ok (.aload_n 2, 1) := by decide +kernel
theorem dL_law_357 : decode cL_law 357 = .ok (.aload_n 0, 1) := by decide +kernel
theorem dL_law_358 : decode cL_law 358 = .ok (.iload_n 3, 1) := by decide +kernel
theorem dL_law_359 : decode cL_law 359 = .ok (.iconst 1, 1) := by decide +kernel
theorem dL_law_360 : decode cL_law 360 = .ok (.iadd, 1) := by decide +kernel
theorem dL_law_361 : decode cL_law 361 = .ok (.iaload, 1) := by decide +kernel
theorem dL_law_362 : decode cL_law 362 = .ok (.aload_n 0, 1) := by decide +kernel
theorem dL_law_363 : decode cL_law 363 = .ok (.iload_n 3, 1) := by decide +kernel
theorem dL_law_364 : decode cL_law 364 = .ok (.iconst 2, 1) := by decide +kernel
theorem dL_law_365 : decode cL_law 365 = .ok (.iadd, 1) := by decide +kernel
theorem dL_law_366 : decode cL_law 366 = .ok (.iaload, 1) := by decide +kernel
theorem dL_law_367 : decode cL_law 367 = .ok (.invokevirtual 51, 3) := by decide +kernel
theorem dL_law_370 : decode cL_law 370 = .ok (.if_icmp .eq 667, 3) := by decide +kernel
theorem dL_law_373 : decode cL_law 373 = .ok (.iconst 0, 1) := by decide +kernel
theorem dL_law_374 : decode cL_law 374 = .ok (.ireturn, 1) := by decide +kernel
theorem dL_law_375 : decode cL_law 375 = .ok (.aload_n 1, 1) := by decide +kernel
theorem dL_law_376 : decode cL_law 376 = .ok (.aload_n 0, 1) := by decide +kernel
theorem dL_law_377 : decode cL_law 377 = .ok (.iload_n 3, 1) := by decide +kernel
theorem dL_law_378 : decode cL_law 378 = .ok (.iconst 1, 1) := by decide +kernel
theorem dL_law_379 : decode cL_law 379 = .ok (.iadd, 1) := by decide +kernel
theorem dL_law_380 : decode cL_law 380 = .ok (.iaload, 1) := by decide +kernel
theorem dL_law_381 : decode cL_law 381 = .ok (.invokevirtual 52, 3) := by decide +kernel
theorem dL_law_384 : decode cL_law 384 = .ok (.aload_n 2, 1) := by decide +kernel
theorem dL_law_385 : decode cL_law 385 = .ok (.aload_n 0, 1) := by decide +kernel
theorem dL_law_386 : decode cL_law 386 = .ok (.iload_n 3, 1) := by decide +kernel
theorem dL_law_387 : decode cL_law 387 = .ok (.iconst 1, 1) := by decide +kernel
theorem dL_law_388 : decode cL_law 388 = .ok (.iadd, 1) := by decide +kernel
theorem dL_law_389 : decode cL_law 389 = .ok (.iaload, 1) := by decide +kernel
theorem dL_law_390 : decode cL_law 390 = .ok (.invokevirtual 55, 3) := by decide +kernel
theorem dL_law_393 : decode cL_law 393 = .ok (.if_icmp .eq 644, 3) := by decide +kernel
theorem dL_law_396 : decode cL_law 396 = .ok (.iconst 0, 1) := by decide +kernel
theorem dL_law_397 : decode cL_law 397 = .ok (.ireturn, 1) := by decide +kernel
theorem dL_law_398 : decode cL_law 398 = .ok (.aload_n 1, 1) := by decide +kernel
theorem dL_law_399 : decode cL_law 399 = .ok (.aload_n 0, 1) := by decide +kernel
theorem dL_law_400 : decode cL_law 400 = .ok (.iload_n 3, 1) := by decide +kernel
theorem dL_law_401 : decode cL_law 401 = .ok (.iconst 1, 1) := by decide +kernel
theorem dL_law_402 : decode cL_law 402 = .ok (.iadd, 1) := by decide +kernel
theorem dL_law_403 : decode cL_law 403 = .ok (.iaload, 1) := by decide +kernel
theorem dL_law_404 : decode cL_law 404 = .ok (.aload_n 0, 1) := by decide +kernel
theorem dL_law_405 : decode cL_law 405 = .ok (.iload_n 3, 1) := by decide +kernel
theorem dL_law_406 : decode cL_law 406 = .ok (.iconst 2, 1) := by decide +kernel
theorem dL_law_407 : decode cL_law 407 = .ok (.iadd, 1) := by decide +kernel
theorem dL_law_408 : decode cL_law 408 = .ok (.iaload, 1) := by decide +kernel
theorem dL_law_409 : decode cL_law 409 = .ok (.invokevirtual 56, 3) := by decide +kernel
theorem dL_law_412 : decode cL_law 412 = .ok (.aload_n 2, 1) := by decide +kernel
theorem dL_law_413 : decode cL_law 413 = .ok (.aload_n 0, 1) := by decide +kernel
theorem dL_law_414 : decode cL_law 414 = .ok (.iload_n 3, 1) := by decide +kernel
theorem dL_law_415 : decode cL_law 415 = .ok (.iconst 1, 1) := by decide +kernel
theorem dL_law_416 : decode cL_law 416 = .ok (.iadd, 1) := by decide +kernel
theorem dL_law_417 : decode cL_law 417 = .ok (.iaload, 1) := by decide +kernel
theorem dL_law_418 : decode cL_law 418 = .ok (.aload_n 0, 1) := by decide +kernel
theorem dL_law_419 : decode cL_law 419 = .ok (.iload_n 3, 1) := by decide +kernel
theorem dL_law_420 : decode cL_law 420 = .ok (.iconst 2, 1) := by decide +kernel
theorem dL_law_421 : decode cL_law 421 = .ok (.iadd, 1) := by decide +kernel
theorem dL_law_422 : decode cL_law 422 = .ok (.iaload, 1) := by decide +kernel
theorem dL_law_423 : decode cL_law 423 = .ok (.invokevirtual 59, 3) := by decide +kernel
theorem dL_law_426 : decode cL_law 426 = .ok (.if_icmp .eq 611, 3) := by decide +kernel
theorem dL_law_429 : decode cL_law 429 = .ok (.iconst 0, 1) := by decide +kernel
theorem dL_law_430 : decode cL_law 430 = .ok (.ireturn, 1) := by decide +kernel
theorem dL_law_431 : decode cL_law 431 = .ok (.aload_n 1, 1) := by decide +kernel
theorem dL_law_432 : decode cL_law 432 = .ok (.invokevirtual 60, 3) := by decide +kernel
theorem dL_law_435 : decode cL_law 435 = .ok (.aload_n 2, 1) := by decide +kernel
theorem dL_law_436 : decode cL_law 436 = .ok (.invokevirtual 63, 3) := by decide +kernel
theorem dL_law_439 : decode cL_law 439 = .ok (.if_icmp .eq 598, 3) := by decide +kernel
theorem dL_law_442 : decode cL_law 442 = .ok (.iconst 0, 1) := by decide +kernel
theorem dL_law_443 : decode cL_law 443 = .ok (.ireturn, 1) := by decide +kernel
theorem dL_law_444 : decode cL_law 444 = .ok (.aload_n 1, 1) := by decide +kernel
theorem dL_law_445 : decode cL_law 445 = .ok (.invokevirtual 64, 3) := by decide +kernel
theorem dL_law_448 : decode cL_law 448 = .ok (.aload_n 2, 1) := by decide +kernel
theorem dL_law_449 : decode cL_law 449 = .ok (.invokevirtual 67, 3) := by decide +kernel
theorem dL_law_452 : decode cL_law 452 = .ok (.if_icmp .eq 585, 3) := by decide +kernel
theorem dL_law_455 : decode cL_law 455 = .ok (.iconst 0, 1) := by decide +kernel
theorem dL_law_456 : decode cL_law 456 = .ok (.ireturn, 1) := by decide +kernel
theorem dL_law_457 : decode cL_law 457 = .ok (.aload_n 1, 1) := by decide +kernel
theorem dL_law_458 : decode cL_law 458 = .ok (.invokevirtual 68, 3) := by decide +kernel
theorem dL_law_461 : decode cL_law 461 = .ok (.aload_n 2, 1) := by decide +kernel
theorem dL_law_462 : decode cL_law 462 = .ok (.invokevirtual 71, 3) := by decide +kernel
theorem dL_law_465 : decode cL_law 465 = .ok (.if_icmp .eq 572, 3) := by decide +kernel
theorem dL_law_468 : decode cL_law 468 = .ok (.iconst 0, 1) := by decide +kernel
theorem dL_law_469 : decode cL_law 469 = .ok (.ireturn, 1) := by decide +kernel
theorem dL_law_470 : decode cL_law 470 = .ok (.aload_n 1, 1) := by decide +kernel
theorem dL_law_471 : decode cL_law 471 = .ok (.aload_n 0, 1) := by decide +kernel
theorem dL_law_472 : decode cL_law 472 = .ok (.iload_n 3, 1) := by decide +kernel
theorem dL_law_473 : decode cL_law 473 = .ok (.iconst 1, 1) := by decide +kernel
theorem dL_law_474 : decode cL_law 474 = .ok (.iadd, 1) := by decide +kernel
theorem dL_law_475 : decode cL_law 475 = .ok (.iaload, 1) := by decide +kernel
theorem dL_law_476 : decode cL_law 476 = .ok (.aload_n 0, 1) := by decide +kernel
theorem dL_law_477 : decode cL_law 477 = .ok (.iload_n 3, 1) := by decide +kernel
theorem dL_law_478 : decode cL_law 478 = .ok (.iconst 2, 1) := by decide +kernel
theorem dL_law_479 : decode cL_law 479 = .ok (.iadd, 1) := by decide +kernel
theorem dL_law_480 : decode cL_law 480 = .ok (.iaload, 1) := by decide +kernel
theorem dL_law_481 : decode cL_law 481 = .ok (.invokevirtual 72, 3) := by decide +kernel
theorem dL_law_484 : decode cL_law 484 = .ok (.aload_n 2, 1) := by decide +kernel
theorem dL_law_485 : decode cL_law 485 = .ok (.aload_n 0, 1) := by decide +kernel
theorem dL_law_486 : decode cL_law 486 = .ok (.iload_n 3, 1) := by decide +kernel
theorem dL_law_487 : decode cL_law 487 = .ok (.iconst 1, 1) := by decide +kernel
theorem dL_law_488 : decode cL_law 488 = .ok (.iadd, 1) := by decide +kernel
theorem dL_law_489 : decode cL_law 489 = .ok (.iaload, 1) := by decide +kernel
theorem dL_law_490 : decode cL_law 490 = .ok (.aload_n 0, 1) := by decide +kernel
theorem dL_law_491 : decode cL_law 491 = .ok (.iload_n 3, 1) := by decide +kernel
theorem dL_law_492 : decode cL_law 492 = .ok (.iconst 2, 1) := by decide +kernel
theorem dL_law_493 : decode cL_law 493 = .ok (.iadd, 1) := by decide +kernel
theorem dL_law_494 : decode cL_law 494 = .ok (.iaload, 1) := by decide +kernel
theorem dL_law_495 : decode cL_law 495 = .ok (.invokevirtual 75, 3) := by decide +kernel
theorem dL_law_498 : decode cL_law 498 = .ok (.if_icmp .eq 539, 3) := by decide +kernel
theorem dL_law_501 : decode cL_law 501 = .ok (.iconst 0, 1) := by decide +kernel
theorem dL_law_502 : decode cL_law 502 = .ok (.ireturn, 1) := by decide +kernel
theorem dL_law_503 : decode cL_law 503 = .ok (.aload_n 1, 1) := by decide +kernel
theorem dL_law_504 : decode cL_law 504 = .ok (.aload_n 0, 1) := by decide +kernel
theorem dL_law_505 : decode cL_law 505 = .ok (.iload_n 3, 1) := by decide +kernel
theorem dL_law_506 : decode cL_law 506 = .ok (.iconst 1, 1) := by decide +kernel
theorem dL_law_507 : decode cL_law 507 = .ok (.iadd, 1) := by decide +kernel
theorem dL_law_508 : decode cL_law 508 = .ok (.iaload, 1) := by decide +kernel
theorem dL_law_509 : decode cL_law 509 = .ok (.aload_n 0, 1) := by decide +kernel
theorem dL_law_510 : decode cL_law 510 = .ok (.iload_n 3, 1) := by decide +kernel
theorem dL_law_511 : decode cL_law 511 = .ok (.iconst 2, 1) := by decide +kernel
theorem dL_law_512 : decode cL_law 512 = .ok (.iadd, 1) := by decide +kernel
theorem dL_law_513 : decode cL_law 513 = .ok (.iaload, 1) := by decide +kernel
theorem dL_law_514 : decode cL_law 514 = .ok (.invokevirtual 76, 3) := by decide +kernel
theorem dL_law_517 : decode cL_law 517 = .ok (.aload_n 2, 1) := by decide +kernel
theorem dL_law_518 : decode cL_law 518 = .ok (.aload_n 0, 1) := by decide +kernel
theorem dL_law_519 : decode cL_law 519 = .ok (.iload_n 3, 1) := by decide +kernel
theorem dL_law_520 : decode cL_law 520 = .ok (.iconst 1, 1) := by decide +kernel
theorem dL_law_521 : decode cL_law 521 = .ok (.iadd, 1) := by decide +kernel
theorem dL_law_522 : decode cL_law 522 = .ok (.iaload, 1) := by decide +kernel
theorem dL_law_523 : decode cL_law 523 = .ok (.aload_n 0, 1) := by decide +kernel
theorem dL_law_524 : decode cL_law 524 = .ok (.iload_n 3, 1) := by decide +kernel
theorem dL_law_525 : decode cL_law 525 = .ok (.iconst 2, 1) := by decide +kernel
theorem dL_law_526 : decode cL_law 526 = .ok (.iadd, 1) := by decide +kernel
theorem dL_law_527 : decode cL_law 527 = .ok (.iaload, 1) := by decide +kernel
theorem dL_law_528 : decode cL_law 528 = .ok (.invokevirtual 79, 3) := by decide +kernel
theorem dL_law_531 : decode cL_law 531 = .ok (.if_icmp .eq 506, 3) := by decide +kernel
theorem dL_law_534 : decode cL_law 534 = .ok (.iconst 0, 1) := by decide +kernel
theorem dL_law_535 : decode cL_law 535 = .ok (.ireturn, 1) := by decide +kernel
theorem dL_law_536 : decode cL_law 536 = .ok (.aload_n 1, 1) := by decide +kernel
theorem dL_law_537 : decode cL_law 537 = .ok (.aload_n 0, 1) := by decide +kernel
theorem dL_law_538 : decode cL_law 538 = .ok (.iload_n 3, 1) := by decide +kernel
theorem dL_law_539 : decode cL_law 539 = .ok (.iconst 1, 1) := by decide +kernel
theorem dL_law_540 : decode cL_law 540 = .ok (.iadd, 1) := by decide +kernel
theorem dL_law_541 : decode cL_law 541 = .ok (.iaload, 1) := by decide +kernel
theorem dL_law_542 : decode cL_law 542 = .ok (.aload_n 0, 1) := by decide +kernel
theorem dL_law_543 : decode cL_law 543 = .ok (.iload_n 3, 1) := by decide +kernel
theorem dL_law_544 : decode cL_law 544 = .ok (.iconst 2, 1) := by decide +kernel
theorem dL_law_545 : decode cL_law 545 = .ok (.iadd, 1) := by decide +kernel
theorem dL_law_546 : decode cL_law 546 = .ok (.iaload, 1) := by decide +kernel
theorem dL_law_547 : decode cL_law 547 = .ok (.invokevirtual 80, 3) := by decide +kernel
theorem dL_law_550 : decode cL_law 550 = .ok (.aload_n 2, 1) := by decide +kernel
theorem dL_law_551 : decode cL_law 551 = .ok (.aload_n 0, 1) := by decide +kernel
theorem dL_law_552 : decode cL_law 552 = .ok (.iload_n 3, 1) := by decide +kernel
theorem dL_law_553 : decode cL_law 553 = .ok (.iconst 1, 1) := by decide +kernel
theorem dL_law_554 : decode cL_law 554 = .ok (.iadd, 1) := by decide +kernel
theorem dL_law_555 : decode cL_law 555 = .ok (.iaload, 1) := by decide +kernel
theorem dL_law_556 : decode cL_law 556 = .ok (.aload_n 0, 1) := by decide +kernel
theorem dL_law_557 : decode cL_law 557 = .ok (.iload_n 3, 1) := by decide +kernel
theorem dL_law_558 : decode cL_law 558 = .ok (.iconst 2, 1) := by decide +kernel
theorem dL_law_559 : decode cL_law 559 = .ok (.iadd, 1) := by decide +kernel
theorem dL_law_560 : decode cL_law 560 = .ok (.iaload, 1) := by decide +kernel
theorem dL_law_561 : decode cL_law 561 = .ok (.invokevirtual 83, 3) := by decide +kernel
theorem dL_law_564 : decode cL_law 564 = .ok (.if_icmp .eq 473, 3) := by decide +kernel
theorem dL_law_567 : decode cL_law 567 = .ok (.iconst 0, 1) := by decide +kernel
theorem dL_law_568 : decode cL_law 568 = .ok (.ireturn, 1) := by decide +kernel
theorem dL_law_569 : decode cL_law 569 = .ok (.aload_n 1, 1) := by decide +kernel
theorem dL_law_570 : decode cL_law 570 = .ok (.aload_n 0, 1) := by decide +kernel
theorem dL_law_571 : decode cL_law 571 = .ok (.iload_n 3, 1) := by decide +kernel
theorem dL_law_572 : decode cL_law 572 = .ok (.iconst 1, 1) := by decide +kernel
theorem dL_law_573 : decode cL_law 573 = .ok (.iadd, 1) := by decide +kernel
theorem dL_law_574 : decode cL_law 574 = .ok (.iaload, 1) := by decide +kernel
theorem dL_law_575 : decode cL_law 575 = .ok (.aload_n 0, 1) := by decide +kernel
theorem dL_law_576 : decode cL_law 576 = .ok (.iload_n 3, 1) := by decide +kernel
theorem dL_law_577 : decode cL_law 577 = .ok (.iconst 2, 1) := by decide +kernel
theorem dL_law_578 : decode cL_law 578 = .ok (.iadd, 1) := by decide +kernel
theorem dL_law_579 : decode cL_law 579 = .ok (.iaload, 1) := by decide +kernel
theorem dL_law_580 : decode cL_law 580 = .ok (.aload_n 0, 1) := by decide +kernel
theorem dL_law_581 : decode cL_law 581 = .ok (.iload_n 3, 1) := by decide +kernel
theorem dL_law_582 : decode cL_law 582 = .ok (.iconst 3, 1) := by decide +kernel
theorem dL_law_583 : decode cL_law 583 = .ok (.iadd, 1) := by decide +kernel
theorem dL_law_584 : decode cL_law 584 = .ok (.iaload, 1) := by decide +kernel
theorem dL_law_585 : decode cL_law 585 = .ok (.ifCond .eq 7, 3) := by decide +kernel
theorem dL_law_588 : decode cL_law 588 = .ok (.iconst 1, 1) := by decide +kernel
theorem dL_law_589 : decode cL_law 589 = .ok (.goto 4, 3) := by decide +kernel
theorem dL_law_592 : decode cL_law 592 = .ok (.iconst 0, 1) := by decide +kernel
theorem dL_law_593 : decode cL_law 593 = .ok (.invokevirtual 84, 3) := by decide +kernel
theorem dL_law_596 : decode cL_law 596 = .ok (.aload_n 2, 1) := by decide +kernel
theorem dL_law_597 : decode cL_law 597 = .ok (.aload_n 0, 1) := by decide +kernel
theorem dL_law_598 : decode cL_law 598 = .ok (.iload_n 3, 1) := by decide +kernel
theorem dL_law_599 : decode cL_law 599 = .ok (.iconst 1, 1) := by decide +kernel
theorem dL_law_600 : decode cL_law 600 = .ok (.iadd, 1) := by decide +kernel
theorem dL_law_601 : decode cL_law 601 = .ok (.iaload, 1) := by decide +kernel
theorem dL_law_602 : decode cL_law 602 = .ok (.aload_n 0, 1) := by decide +kernel
theorem dL_law_603 : decode cL_law 603 = .ok (.iload_n 3, 1) := by decide +kernel
theorem dL_law_604 : decode cL_law 604 = .ok (.iconst 2, 1) := by decide +kernel
theorem dL_law_605 : decode cL_law 605 = .ok (.iadd, 1) := by decide +kernel
theorem dL_law_606 : decode cL_law 606 = .ok (.iaload, 1) := by decide +kernel
theorem dL_law_607 : decode cL_law 607 = .ok (.aload_n 0, 1) := by decide +kernel
theorem dL_law_608 : decode cL_law 608 = .ok (.iload_n 3, 1) := by decide +kernel
theorem dL_law_609 : decode cL_law 609 = .ok (.iconst 3, 1) := by decide +kernel
theorem dL_law_610 : decode cL_law 610 = .ok (.iadd, 1) := by decide +kernel
theorem dL_law_611 : decode cL_law 611 = .ok (.iaload, 1) := by decide +kernel
theorem dL_law_612 : decode cL_law 612 = .ok (.ifCond .eq 7, 3) := by decide +kernel
theorem dL_law_615 : decode cL_law 615 = .ok (.iconst 1, 1) := by decide +kernel
theorem dL_law_616 : decode cL_law 616 = .ok (.goto 4, 3) := by decide +kernel
theorem dL_law_619 : decode cL_law 619 = .ok (.iconst 0, 1) := by decide +kernel
theorem dL_law_620 : decode cL_law 620 = .ok (.invokevirtual 88, 3) := by decide +kernel
theorem dL_law_623 : decode cL_law 623 = .ok (.if_icmp .eq 414, 3) := by decide +kernel
theorem dL_law_626 : decode cL_law 626 = .ok (.iconst 0, 1) := by decide +kernel
theorem dL_law_627 : decode cL_law 627 = .ok (.ireturn, 1) := by decide +kernel
theorem dL_law_628 : decode cL_law 628 = .ok (.aload_n 1, 1) := by decide +kernel
theorem dL_law_629 : decode cL_law 629 = .ok (.aload_n 0, 1) := by decide +kernel
theorem dL_law_630 : decode cL_law 630 = .ok (.iload_n 3, 1) := by decide +kernel
theorem dL_law_631 : decode cL_law 631 = .ok (.iconst 1, 1) := by decide +kernel
theorem dL_law_632 : decode cL_law 632 = .ok (.iadd, 1) := by decide +kernel
theorem dL_law_633 : decode cL_law 633 = .ok (.iaload, 1) := by decide +kernel
theorem dL_law_634 : decode cL_law 634 = .ok (.aload_n 0, 1) := by decide +kernel
theorem dL_law_635 : decode cL_law 635 = .ok (.iload_n 3, 1) := by decide +kernel
theorem dL_law_636 : decode cL_law 636 = .ok (.iconst 2, 1) := by decide +kernel
theorem dL_law_637 : decode cL_law 637 = .ok (.iadd, 1) := by decide +kernel
theorem dL_law_638 : decode cL_law 638 = .ok (.iaload, 1) := by decide +kernel
theorem dL_law_639 : decode cL_law 639 = .ok (.invokevirtual 89, 3) := by decide +kernel
theorem dL_law_642 : decode cL_law 642 = .ok (.aload_n 2, 1) := by decide +kernel
theorem dL_law_643 : decode cL_law 643 = .ok (.aload_n 0, 1) := by decide +kernel
theorem dL_law_644 : decode cL_law 644 = .ok (.iload_n 3, 1) := by decide +kernel
theorem dL_law_645 : decode cL_law 645 = .ok (.iconst 1, 1) := by decide +kernel
theorem dL_law_646 : decode cL_law 646 = .ok (.iadd, 1) := by decide +kernel
theorem dL_law_647 : decode cL_law 647 = .ok (.iaload, 1) := by decide +kernel
theorem dL_law_648 : decode cL_law 648 = .ok (.aload_n 0, 1) := by decide +kernel
theorem dL_law_649 : decode cL_law 649 = .ok (.iload_n 3, 1) := by decide +kernel
theorem dL_law_650 : decode cL_law 650 = .ok (.iconst 2, 1) := by decide +kernel
theorem dL_law_651 : decode cL_law 651 = .ok (.iadd, 1) := by decide +kernel
theorem dL_law_652 : decode cL_law 652 = .ok (.iaload, 1) := by decide +kernel
theorem dL_law_653 : decode cL_law 653 = .ok (.invokevirtual 92, 3) := by decide +kernel
theorem dL_law_656 : decode cL_law 656 = .ok (.if_icmp .eq 381, 3) := by decide +kernel
theorem dL_law_659 : decode cL_law 659 = .ok (.iconst 0, 1) := by decide +kernel
theorem dL_law_660 : decode cL_law 660 = .ok (.ireturn, 1) := by decide +kernel
theorem dL_law_661 : decode cL_law 661 = .ok (.aload_n 1, 1) := by decide +kernel
theorem dL_law_662 : decode cL_law 662 = .ok (.aload_n 0, 1) := by decide +kernel
theorem dL_law_663 : decode cL_law 663 = .ok (.iload_n 3, 1) := by decide +kernel
theorem dL_law_664 : decode cL_law 664 = .ok (.iconst 1, 1) := by decide +kernel
theorem dL_law_665 : decode cL_law 665 = .ok (.iadd, 1) := by decide +kernel
theorem dL_law_666 : decode cL_law 666 = .ok (.iaload, 1) := by decide +kernel
theorem dL_law_667 : decode cL_law 667 = .ok (.invokevirtual 93, 3) := by decide +kernel
theorem dL_law_670 : decode cL_law 670 = .ok (.aload_n 2, 1) := by decide +kernel
theorem dL_law_671 : decode cL_law 671 = .ok (.aload_n 0, 1) := by decide +kernel
theorem dL_law_672 : decode cL_law 672 = .ok (.iload_n 3, 1) := by decide +kernel
theorem dL_law_673 : decode cL_law 673 = .ok (.iconst 1, 1) := by decide +kernel
theorem dL_law_674 : decode cL_law 674 = .ok (.iadd, 1) := by decide +kernel
theorem dL_law_675 : decode cL_law 675 = .ok (.iaload, 1) := by decide +kernel
theorem dL_law_676 : decode cL_law 676 = .ok (.invokevirtual 96, 3) := by decide +kernel
theorem dL_law_679 : decode cL_law 679 = .ok (.if_icmp .eq 358, 3) := by decide +kernel
theorem dL_law_682 : decode cL_law 682 = .ok (.iconst 0, 1) := by decide +kernel
theorem dL_law_683 : decode cL_law 683 = .ok (.ireturn, 1) := by decide +kernel
theorem dL_law_684 : decode cL_law 684 = .ok (.aload_n 1, 1) := by decide +kernel
theorem dL_law_685 : decode cL_law 685 = .ok (.aload_n 0, 1) := by decide +kernel
theorem dL_law_686 : decode cL_law 686 = .ok (.iload_n 3, 1) := by decide +kernel
theorem dL_law_687 : decode cL_law 687 = .ok (.iconst 1, 1) := by decide +kernel
theorem dL_law_688 : decode cL_law 688 = .ok (.iadd, 1) := by decide +kernel
theorem dL_law_689 : decode cL_law 689 = .ok (.iaload, 1) := by decide +kernel
theorem dL_law_690 : decode cL_law 690 = .ok (.aload_n 0, 1) := by decide +kernel
theorem dL_law_691 : decode cL_law 691 = .ok (.iload_n 3, 1) := by decide +kernel
theorem dL_law_692 : decode cL_law 692 = .ok (.iconst 2, 1) := by decide +kernel
theorem dL_law_693 : decode cL_law 693 = .ok (.iadd, 1) := by decide +kernel
theorem dL_law_694 : decode cL_law 694 = .ok (.iaload, 1) := by decide +kernel
theorem dL_law_695 : decode cL_law 695 = .ok (.aload_n 0, 1) := by decide +kernel
theorem dL_law_696 : decode cL_law 696 = .ok (.iload_n 3, 1) := by decide +kernel
theorem dL_law_697 : decode cL_law 697 = .ok (.iconst 3, 1) := by decide +kernel
theorem dL_law_698 : decode cL_law 698 = .ok (.iadd, 1) := by decide +kernel
theorem dL_law_699 : decode cL_law 699 = .ok (.iaload, 1) := by decide +kernel
theorem dL_law_700 : decode cL_law 700 = .ok (.aload_n 0, 1) := by decide +kernel
theorem dL_law_701 : decode cL_law 701 = .ok (.iload_n 3, 1) := by decide +kernel
theorem dL_law_702 : decode cL_law 702 = .ok (.iconst 4, 1) := by decide +kernel
theorem dL_law_703 : decode cL_law 703 = .ok (.iadd, 1) := by decide +kernel
theorem dL_law_704 : decode cL_law 704 = .ok (.iaload, 1) := by decide +kernel
theorem dL_law_705 : decode cL_law 705 = .ok (.invokevirtual 97, 3) := by decide +kernel
theorem dL_law_708 : decode cL_law 708 = .ok (.aload_n 2, 1) := by decide +kernel
theorem dL_law_709 : decode cL_law 709 = .ok (.aload_n 0, 1) := by decide +kernel
theorem dL_law_710 : decode cL_law 710 = .ok (.iload_n 3, 1) := by decide +kernel
theorem dL_law_711 : decode cL_law 711 = .ok (.iconst 1, 1) := by decide +kernel
theorem dL_law_712 : decode cL_law 712 = .ok (.iadd, 1) := by decide +kernel
theorem dL_law_713 : decode cL_law 713 = .ok (.iaload, 1) := by decide +kernel
theorem dL_law_714 : decode cL_law 714 = .ok (.aload_n 0, 1) := by decide +kernel
theorem dL_law_715 : decode cL_law 715 = .ok (.iload_n 3, 1) := by decide +kernel
theorem dL_law_716 : decode cL_law 716 = .ok (.iconst 2, 1) := by decide +kernel
theorem dL_law_717 : decode cL_law 717 = .ok (.iadd, 1) := by decide +kernel
theorem dL_law_718 : decode cL_law 718 = .ok (.iaload, 1) := by decide +kernel
theorem dL_law_719 : decode cL_law 719 = .ok (.aload_n 0, 1) := by decide +kernel
theorem dL_law_720 : decode cL_law 720 = .ok (.iload_n 3, 1) := by decide +kernel
theorem dL_law_721 : decode cL_law 721 = .ok (.iconst 3, 1) := by decide +kernel
theorem dL_law_722 : decode cL_law 722 = .ok (.iadd, 1) := by decide +kernel
theorem dL_law_723 : decode cL_law 723 = .ok (.iaload, 1) := by decide +kernel
theorem dL_law_724 : decode cL_law 724 = .ok (.aload_n 0, 1) := by decide +kernel
theorem dL_law_725 : decode cL_law 725 = .ok (.iload_n 3, 1) := by decide +kernel
theorem dL_law_726 : decode cL_law 726 = .ok (.iconst 4, 1) := by decide +kernel
theorem dL_law_727 : decode cL_law 727 = .ok (.iadd, 1) := by decide +kernel
theorem dL_law_728 : decode cL_law 728 = .ok (.iaload, 1) := by decide +kernel
theorem dL_law_729 : decode cL_law 729 = .ok (.invokevirtual 101, 3) := by decide +kernel
theorem dL_law_732 : decode cL_law 732 = .ok (.if_icmp .eq 305, 3) := by decide +kernel
theorem dL_law_735 : decode cL_law 735 = .ok (.iconst 0, 1) := by decide +kernel
theorem dL_law_736 : decode cL_law 736 = .ok (.ireturn, 1) := by decide +kernel
theorem dL_law_737 : decode cL_law 737 = .ok (.aload_n 1, 1) := by decide +kernel
theorem dL_law_738 : decode cL_law 738 = .ok (.aload_n 0, 1) := by decide +kernel
theorem dL_law_739 : decode cL_law 739 = .ok (.iload_n 3, 1) := by decide +kernel
theorem dL_law_740 : decode cL_law 740 = .ok (.iconst 1, 1) := by decide +kernel
theorem dL_law_741 : decode cL_law 741 = .ok (.iadd, 1) := by decide +kernel
theorem dL_law_742 : decode cL_law 742 = .ok (.iaload, 1) := by decide +kernel
theorem dL_law_743 : decode cL_law 743 = .ok (.aload_n 0, 1) := by decide +kernel
theorem dL_law_744 : decode cL_law 744 = .ok (.iload_n 3, 1) := by decide +kernel
theorem dL_law_745 : decode cL_law 745 = .ok (.iconst 2, 1) := by decide +kernel
theorem dL_law_746 : decode cL_law 746 = .ok (.iadd, 1) := by decide +kernel
theorem dL_law_747 : decode cL_law 747 = .ok (.iaload, 1) := by decide +kernel
theorem dL_law_748 : decode cL_law 748 = .ok (.aload_n 0, 1) := by decide +kernel
theorem dL_law_749 : decode cL_law 749 = .ok (.iload_n 3, 1) := by decide +kernel
theorem dL_law_750 : decode cL_law 750 = .ok (.iconst 3, 1) := by decide +kernel
theorem dL_law_751 : decode cL_law 751 = .ok (.iadd, 1) := by decide +kernel
theorem dL_law_752 : decode cL_law 752 = .ok (.iaload, 1) := by decide +kernel
theorem dL_law_753 : decode cL_law 753 = .ok (.ifCond .eq 7, 3) := by decide +kernel
theorem dL_law_756 : decode cL_law 756 = .ok (.iconst 1, 1) := by decide +kernel
theorem dL_law_757 : decode cL_law 757 = .ok (.goto 4, 3) := by decide +kernel
theorem dL_law_760 : decode cL_law 760 = .ok (.iconst 0, 1) := by decide +kernel
theorem dL_law_761 : decode cL_law 761 = .ok (.invokevirtual 102, 3) := by decide +kernel
theorem dL_law_764 : decode cL_law 764 = .ok (.aload_n 2, 1) := by decide +kernel
theorem dL_law_765 : decode cL_law 765 = .ok (.aload_n 0, 1) := by decide +kernel
theorem dL_law_766 : decode cL_law 766 = .ok (.iload_n 3, 1) := by decide +kernel
theorem dL_law_767 : decode cL_law 767 = .ok (.iconst 1, 1) := by decide +kernel
theorem dL_law_768 : decode cL_law 768 = .ok (.iadd, 1) := by decide +kernel
theorem dL_law_769 : decode cL_law 769 = .ok (.iaload, 1) := by decide +kernel
theorem dL_law_770 : decode cL_law 770 = .ok (.aload_n 0, 1) := by decide +kernel
theorem dL_law_771 : decode cL_law 771 = .ok (.iload_n 3, 1) := by decide +kernel
theorem dL_law_772 : decode cL_law 772 = .ok (.iconst 2, 1) := by decide +kernel
theorem dL_law_773 : decode cL_law 773 = .ok (.iadd, 1) := by decide +kernel
theorem dL_law_774 : decode cL_law 774 = .ok (.iaload, 1) := by decide +kernel
theorem dL_law_775 : decode cL_law 775 = .ok (.aload_n 0, 1) := by decide +kernel
theorem dL_law_776 : decode cL_law 776 = .ok (.iload_n 3, 1) := by decide +kernel
theorem dL_law_777 : decode cL_law 777 = .ok (.iconst 3, 1) := by decide +kernel
theorem dL_law_778 : decode cL_law 778 = .ok (.iadd, 1) := by decide +kernel
theorem dL_law_779 : decode cL_law 779 = .ok (.iaload, 1) := by decide +kernel
theorem dL_law_780 : decode cL_law 780 = .ok (.ifCond .eq 7, 3) := by decide +kernel
theorem dL_law_783 : decode cL_law 783 = .ok (.iconst 1, 1) := by decide +kernel
theorem dL_law_784 : decode cL_law 784 = .ok (.goto 4, 3) := by decide +kernel
theorem dL_law_787 : decode cL_law 787 = .ok (.iconst 0, 1) := by decide +kernel
theorem dL_law_788 : decode cL_law 788 = .ok (.invokevirtual 105, 3) := by decide +kernel
theorem dL_law_791 : decode cL_law 791 = .ok (.if_icmp .eq 246, 3) := by decide +kernel
theorem dL_law_794 : decode cL_law 794 = .ok (.iconst 0, 1) := by decide +kernel
theorem dL_law_795 : decode cL_law 795 = .ok (.ireturn, 1) := by decide +kernel
theorem dL_law_796 : decode cL_law 796 = .ok (.aload_n 1, 1) := by decide +kernel
theorem dL_law_797 : decode cL_law 797 = .ok (.invokevirtual 106, 3) := by decide +kernel
theorem dL_law_800 : decode cL_law 800 = .ok (.aload_n 2, 1) := by decide +kernel
theorem dL_law_801 : decode cL_law 801 = .ok (.invokevirtual 109, 3) := by decide +kernel
theorem dL_law_804 : decode cL_law 804 = .ok (.if_icmp .eq 233, 3) := by decide +kernel
theorem dL_law_807 : decode cL_law 807 = .ok (.iconst 0, 1) := by decide +kernel
theorem dL_law_808 : decode cL_law 808 = .ok (.ireturn, 1) := by decide +kernel
theorem dL_law_809 : decode cL_law 809 = .ok (.aload_n 1, 1) := by decide +kernel
theorem dL_law_810 : decode cL_law 810 = .ok (.aload_n 0, 1) := by decide +kernel
theorem dL_law_811 : decode cL_law 811 = .ok (.iload_n 3, 1) := by decide +kernel
theorem dL_law_812 : decode cL_law 812 = .ok (.iconst 1, 1) := by decide +kernel
theorem dL_law_813 : decode cL_law 813 = .ok (.iadd, 1) := by decide +kernel
theorem dL_law_814 : decode cL_law 814 = .ok (.iaload, 1) := by decide +kernel
theorem dL_law_815 : decode cL_law 815 = .ok (.invokevirtual 110, 3) := by decide +kernel
theorem dL_law_818 : decode cL_law 818 = .ok (.aload_n 2, 1) := by decide +kernel
theorem dL_law_819 : decode cL_law 819 = .ok (.aload_n 0, 1) := by decide +kernel
theorem dL_law_820 : decode cL_law 820 = .ok (.iload_n 3, 1) := by decide +kernel
theorem dL_law_821 : decode cL_law 821 = .ok (.iconst 1, 1) := by decide +kernel
theorem dL_law_822 : decode cL_law 822 = .ok (.iadd, 1) := by decide +kernel
theorem dL_law_823 : decode cL_law 823 = .ok (.iaload, 1) := by decide +kernel
theorem dL_law_824 : decode cL_law 824 = .ok (.invokevirtual 113, 3) := by decide +kernel
theorem dL_law_827 : decode cL_law 827 = .ok (.if_icmp .eq 210, 3) := by decide +kernel
theorem dL_law_830 : decode cL_law 830 = .ok (.iconst 0, 1) := by decide +kernel
theorem dL_law_831 : decode cL_law 831 = .ok (.ireturn, 1) := by decide +kernel
theorem dL_law_832 : decode cL_law 832 = .ok (.aload_n 1, 1) := by decide +kernel
theorem dL_law_833 : decode cL_law 833 = .ok (.invokevirtual 114, 3) := by decide +kernel
theorem dL_law_836 : decode cL_law 836 = .ok (.aload_n 2, 1) := by decide +kernel
theorem dL_law_837 : decode cL_law 837 = .ok (.invokevirtual 117, 3) := by decide +kernel
theorem dL_law_840 : decode cL_law 840 = .ok (.if_icmp .eq 197, 3) := by decide +kernel
theorem dL_law_843 : decode cL_law 843 = .ok (.iconst 0, 1) := by decide +kernel
theorem dL_law_844 : decode cL_law 844 = .ok (.ireturn, 1) := by decide +kernel
theorem dL_law_845 : decode cL_law 845 = .ok (.aload_n 1, 1) := by decide +kernel
theorem dL_law_846 : decode cL_law 846 = .ok (.aload_n 0, 1) := by decide +kernel
theorem dL_law_847 : decode cL_law 847 = .ok (.iload_n 3, 1) := by decide +kernel
theorem dL_law_848 : decode cL_law 848 = .ok (.iconst 1, 1) := by decide +kernel
theorem dL_law_849 : decode cL_law 849 = .ok (.iadd, 1) := by decide +kernel
theorem dL_law_850 : decode cL_law 850 = .ok (.iaload, 1) := by decide +kernel
theorem dL_law_851 : decode cL_law 851 = .ok (.aload_n 0, 1) := by decide +kernel
theorem dL_law_852 : decode cL_law 852 = .ok (.iload_n 3, 1) := by decide +kernel
theorem dL_law_853 : decode cL_law 853 = .ok (.iconst 2, 1) := by decide +kernel
theorem dL_law_854 : decode cL_law 854 = .ok (.iadd, 1) := by decide +kernel
theorem dL_law_855 : decode cL_law 855 = .ok (.iaload, 1) := by decide +kernel
theorem dL_law_856 : decode cL_law 856 = .ok (.aload_n 0, 1) := by decide +kernel
theorem dL_law_857 : decode cL_law 857 = .ok (.iload_n 3, 1) := by decide +kernel
theorem dL_law_858 : decode cL_law 858 = .ok (.iconst 3, 1) := by decide +kernel
theorem dL_law_859 : decode cL_law 859 = .ok (.iadd, 1) := by decide +kernel
theorem dL_law_860 : decode cL_law 860 = .ok (.iaload, 1) := by decide +kernel
theorem dL_law_861 : decode cL_law 861 = .ok (.aload_n 0, 1) := by decide +kernel
theorem dL_law_862 : decode cL_law 862 = .ok (.iload_n 3, 1) := by decide +kernel
theorem dL_law_863 : decode cL_law 863 = .ok (.iconst 4, 1) := by decide +kernel
theorem dL_law_864 : decode cL_law 864 = .ok (.iadd, 1) := by decide +kernel
theorem dL_law_865 : decode cL_law 865 = .ok (.iaload, 1) := by decide +kernel
theorem dL_law_866 : decode cL_law 866 = .ok (.ifCond .eq 7, 3) := by decide +kernel
theorem dL_law_869 : decode cL_law 869 = .ok (.iconst 1, 1) := by decide +kernel
theorem dL_law_870 : decode cL_law 870 = .ok (.goto 4, 3) := by decide +kernel
theorem dL_law_873 : decode cL_law 873 = .ok (.iconst 0, 1) := by decide +kernel
theorem dL_law_874 : decode cL_law 874 = .ok (.invokevirtual 118, 3) := by decide +kernel
theorem dL_law_877 : decode cL_law 877 = .ok (.aload_n 2, 1) := by decide +kernel
theorem dL_law_878 : decode cL_law 878 = .ok (.aload_n 0, 1) := by decide +kernel
theorem dL_law_879 : decode cL_law 879 = .ok (.iload_n 3, 1) := by decide +kernel
theorem dL_law_880 : decode cL_law 880 = .ok (.iconst 1, 1) := by decide +kernel
theorem dL_law_881 : decode cL_law 881 = .ok (.iadd, 1) := by decide +kernel
theorem dL_law_882 : decode cL_law 882 = .ok (.iaload, 1) := by decide +kernel
theorem dL_law_883 : decode cL_law 883 = .ok (.aload_n 0, 1) := by decide +kernel
theorem dL_law_884 : decode cL_law 884 = .ok (.iload_n 3, 1) := by decide +kernel
theorem dL_law_885 : decode cL_law 885 = .ok (.iconst 2, 1) := by decide +kernel
theorem dL_law_886 : decode cL_law 886 = .ok (.iadd, 1) := by decide +kernel
theorem dL_law_887 : decode cL_law 887 = .ok (.iaload, 1) := by decide +kernel
theorem dL_law_888 : decode cL_law 888 = .ok (.aload_n 0, 1) := by decide +kernel
theorem dL_law_889 : decode cL_law 889 = .ok (.iload_n 3, 1) := by decide +kernel
theorem dL_law_890 : decode cL_law 890 = .ok (.iconst 3, 1) := by decide +kernel
theorem dL_law_891 : decode cL_law 891 = .ok (.iadd, 1) := by decide +kernel
theorem dL_law_892 : decode cL_law 892 = .ok (.iaload, 1) := by decide +kernel
theorem dL_law_893 : decode cL_law 893 = .ok (.aload_n 0, 1) := by decide +kernel
theorem dL_law_894 : decode cL_law 894 = .ok (.iload_n 3, 1) := by decide +kernel
theorem dL_law_895 : decode cL_law 895 = .ok (.iconst 4, 1) := by decide +kernel
theorem dL_law_896 : decode cL_law 896 = .ok (.iadd, 1) := by decide +kernel
theorem dL_law_897 : decode cL_law 897 = .ok (.iaload, 1) := by decide +kernel
theorem dL_law_898 : decode cL_law 898 = .ok (.ifCond .eq 7, 3) := by decide +kernel
theorem dL_law_901 : decode cL_law 901 = .ok (.iconst 1, 1) := by decide +kernel
theorem dL_law_902 : decode cL_law 902 = .ok (.goto 4, 3) := by decide +kernel
theorem dL_law_905 : decode cL_law 905 = .ok (.iconst 0, 1) := by decide +kernel
theorem dL_law_906 : decode cL_law 906 = .ok (.invokevirtual 122, 3) := by decide +kernel
theorem dL_law_909 : decode cL_law 909 = .ok (.if_icmp .eq 128, 3) := by decide +kernel
theorem dL_law_912 : decode cL_law 912 = .ok (.iconst 0, 1) := by decide +kernel
theorem dL_law_913 : decode cL_law 913 = .ok (.ireturn, 1) := by decide +kernel
theorem dL_law_914 : decode cL_law 914 = .ok (.aload_n 1, 1) := by decide +kernel
theorem dL_law_915 : decode cL_law 915 = .ok (.aload_n 0, 1) := by decide +kernel
theorem dL_law_916 : decode cL_law 916 = .ok (.iload_n 3, 1) := by decide +kernel
theorem dL_law_917 : decode cL_law 917 = .ok (.iconst 1, 1) := by decide +kernel
theorem dL_law_918 : decode cL_law 918 = .ok (.iadd, 1) := by decide +kernel
theorem dL_law_919 : decode cL_law 919 = .ok (.iaload, 1) := by decide +kernel
theorem dL_law_920 : decode cL_law 920 = .ok (.i2l, 1) := by decide +kernel
theorem dL_law_921 : decode cL_law 921 = .ok (.bipush 32, 2) := by decide +kernel
theorem dL_law_923 : decode cL_law 923 = .ok (.lshl, 1) := by decide +kernel
theorem dL_law_924 : decode cL_law 924 = .ok (.aload_n 0, 1) := by decide +kernel
theorem dL_law_925 : decode cL_law 925 = .ok (.iload_n 3, 1) := by decide +kernel
theorem dL_law_926 : decode cL_law 926 = .ok (.iconst 2, 1) := by decide +kernel
theorem dL_law_927 : decode cL_law 927 = .ok (.iadd, 1) := by decide +kernel
theorem dL_law_928 : decode cL_law 928 = .ok (.iaload, 1) := by decide +kernel
theorem dL_law_929 : decode cL_law 929 = .ok (.i2l, 1) := by decide +kernel
theorem dL_law_930 : decode cL_law 930 = .ok (.ldc2_w 123, 3) := by decide +kernel
theorem dL_law_933 : decode cL_law 933 = .ok (.land, 1) := by decide +kernel
theorem dL_law_934 : decode cL_law 934 = .ok (.lor, 1) := by decide +kernel
theorem dL_law_935 : decode cL_law 935 = .ok (.invokevirtual 125, 3) := by decide +kernel
theorem dL_law_938 : decode cL_law 938 = .ok (.aload_n 2, 1) := by decide +kernel
theorem dL_law_939 : decode cL_law 939 = .ok (.aload_n 0, 1) := by decide +kernel
theorem dL_law_940 : decode cL_law 940 = .ok (.iload_n 3, 1) := by decide +kernel
theorem dL_law_941 : decode cL_law 941 = .ok (.iconst 1, 1) := by decide +kernel
theorem dL_law_942 : decode cL_law 942 = .ok (.iadd, 1) := by decide +kernel
theorem dL_law_943 : decode cL_law 943 = .ok (.iaload, 1) := by decide +kernel
theorem dL_law_944 : decode cL_law 944 = .ok (.i2l, 1) := by decide +kernel
theorem dL_law_945 : decode cL_law 945 = .ok (.bipush 32, 2) := by decide +kernel
theorem dL_law_947 : decode cL_law 947 = .ok (.lshl, 1) := by decide +kernel
theorem dL_law_948 : decode cL_law 948 = .ok (.aload_n 0, 1) := by decide +kernel
theorem dL_law_949 : decode cL_law 949 = .ok (.iload_n 3, 1) := by decide +kernel
theorem dL_law_950 : decode cL_law 950 = .ok (.iconst 2, 1) := by decide +kernel
theorem dL_law_951 : decode cL_law 951 = .ok (.iadd, 1) := by decide +kernel
theorem dL_law_952 : decode cL_law 952 = .ok (.iaload, 1) := by decide +kernel
theorem dL_law_953 : decode cL_law 953 = .ok (.i2l, 1) := by decide +kernel
theorem dL_law_954 : decode cL_law 954 = .ok (.ldc2_w 123, 3) := by decide +kernel
theorem dL_law_957 : decode cL_law 957 = .ok (.land, 1) := by decide +kernel
theorem dL_law_958 : decode cL_law 958 = .ok (.lor, 1) := by decide +kernel
theorem dL_law_959 : decode cL_law 959 = .ok (.invokevirtual 129, 3) := by decide +kernel
theorem dL_law_962 : decode cL_law 962 = .ok (.lcmp, 1) := by decide +kernel
theorem dL_law_963 : decode cL_law 963 = .ok (.ifCond .eq 74, 3) := by decide +kernel
theorem dL_law_966 : decode cL_law 966 = .ok (.iconst 0, 1) := by decide +kernel
theorem dL_law_967 : decode cL_law 967 = .ok (.ireturn, 1) := by decide +kernel
theorem dL_law_968 : decode cL_law 968 = .ok (.aload_n 1, 1) := by decide +kernel
theorem dL_law_969 : decode cL_law 969 = .ok (.aload_n 0, 1) := by decide +kernel
theorem dL_law_970 : decode cL_law 970 = .ok (.iload_n 3, 1) := by decide +kernel
theorem dL_law_971 : decode cL_law 971 = .ok (.iconst 1, 1) := by decide +kernel
theorem dL_law_972 : decode cL_law 972 = .ok (.iadd, 1) := by decide +kernel
theorem dL_law_973 : decode cL_law 973 = .ok (.iaload, 1) := by decide +kernel
theorem dL_law_974 : decode cL_law 974 = .ok (.invokevirtual 130, 3) := by decide +kernel
theorem dL_law_977 : decode cL_law 977 = .ok (.aload_n 2, 1) := by decide +kernel
theorem dL_law_978 : decode cL_law 978 = .ok (.aload_n 0, 1) := by decide +kernel
theorem dL_law_979 : decode cL_law 979 = .ok (.iload_n 3, 1) := by decide +kernel
theorem dL_law_980 : decode cL_law 980 = .ok (.iconst 1, 1) := by decide +kernel
theorem dL_law_981 : decode cL_law 981 = .ok (.iadd, 1) := by decide +kernel
theorem dL_law_982 : decode cL_law 982 = .ok (.iaload, 1) := by decide +kernel
theorem dL_law_983 : decode cL_law 983 = .ok (.invokevirtual 133, 3) := by decide +kernel
theorem dL_law_986 : decode cL_law 986 = .ok (.if_icmp .eq 51, 3) := by decide +kernel
theorem dL_law_989 : decode cL_law 989 = .ok (.iconst 0, 1) := by decide +kernel
theorem dL_law_990 : decode cL_law 990 = .ok (.ireturn, 1) := by decide +kernel
theorem dL_law_991 : decode cL_law 991 = .ok (.aload_n 1, 1) := by decide +kernel
theorem dL_law_992 : decode cL_law 992 = .ok (.aload_n 0, 1) := by decide +kernel
theorem dL_law_993 : decode cL_law 993 = .ok (.iload_n 3, 1) := by decide +kernel
theorem dL_law_994 : decode cL_law 994 = .ok (.iconst 1, 1) := by decide +kernel
theorem dL_law_995 : decode cL_law 995 = .ok (.iadd, 1) := by decide +kernel
theorem dL_law_996 : decode cL_law 996 = .ok (.iaload, 1) := by decide +kernel
theorem dL_law_997 : decode cL_law 997 = .ok (.invokevirtual 134, 3) := by decide +kernel
theorem dL_law_1000 : decode cL_law 1000 = .ok (.aload_n 2, 1) := by decide +kernel
theorem dL_law_1001 : decode cL_law 1001 = .ok (.aload_n 0, 1) := by decide +kernel
theorem dL_law_1002 : decode cL_law 1002 = .ok (.iload_n 3, 1) := by decide +kernel
theorem dL_law_1003 : decode cL_law 1003 = .ok (.iconst 1, 1) := by decide +kernel
theorem dL_law_1004 : decode cL_law 1004 = .ok (.iadd, 1) := by decide +kernel
theorem dL_law_1005 : decode cL_law 1005 = .ok (.iaload, 1) := by decide +kernel
theorem dL_law_1006 : decode cL_law 1006 = .ok (.invokevirtual 137, 3) := by decide +kernel
theorem dL_law_1009 : decode cL_law 1009 = .ok (.if_icmp .eq 28, 3) := by decide +kernel
theorem dL_law_1012 : decode cL_law 1012 = .ok (.iconst 0, 1) := by decide +kernel
theorem dL_law_1013 : decode cL_law 1013 = .ok (.ireturn, 1) := by decide +kernel
theorem dL_law_1014 : decode cL_law 1014 = .ok (.aload_n 1, 1) := by decide +kernel
theorem dL_law_1015 : decode cL_law 1015 = .ok (.aload_n 0, 1) := by decide +kernel
theorem dL_law_1016 : decode cL_law 1016 = .ok (.iload_n 3, 1) := by decide +kernel
theorem dL_law_1017 : decode cL_law 1017 = .ok (.iconst 1, 1) := by decide +kernel
theorem dL_law_1018 : decode cL_law 1018 = .ok (.iadd, 1) := by decide +kernel
theorem dL_law_1019 : decode cL_law 1019 = .ok (.iaload, 1) := by decide +kernel
theorem dL_law_1020 : decode cL_law 1020 = .ok (.invokevirtual 138, 3) := by decide +kernel
theorem dL_law_1023 : decode cL_law 1023 = .ok (.aload_n 2, 1) := by decide +kernel
theorem dL_law_1024 : decode cL_law 1024 = .ok (.aload_n 0, 1) := by decide +kernel
theorem dL_law_1025 : decode cL_law 1025 = .ok (.iload_n 3, 1) := by decide +kernel
theorem dL_law_1026 : decode cL_law 1026 = .ok (.iconst 1, 1) := by decide +kernel
theorem dL_law_1027 : decode cL_law 1027 = .ok (.iadd, 1) := by decide +kernel
theorem dL_law_1028 : decode cL_law 1028 = .ok (.iaload, 1) := by decide +kernel
theorem dL_law_1029 : decode cL_law 1029 = .ok (.invokevirtual 141, 3) := by decide +kernel
theorem dL_law_1032 : decode cL_law 1032 = .ok (.if_icmp .eq 5, 3) := by decide +kernel
theorem dL_law_1035 : decode cL_law 1035 = .ok (.iconst 0, 1) := by decide +kernel
theorem dL_law_1036 : decode cL_law 1036 = .ok (.ireturn, 1) := by decide +kernel
theorem dL_law_1037 : decode cL_law 1037 = .ok (.iinc 3 5, 3) := by decide +kernel
theorem dL_law_1040 : decode cL_law 1040 = .ok (.goto (-1022), 3) := by decide +kernel
theorem dL_law_1043 : decode cL_law 1043 = .ok (.iconst 1, 1) := by decide +kernel
theorem dL_law_1044 : decode cL_law 1044 = .ok (.ireturn, 1) := by decide +kernel
