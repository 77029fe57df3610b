theorem dX7_init_0 : decode cX7_init 0 = .ok (.aload_n 0, 1) := by decide +kernel
theorem dX7_init_1 : decode cX7_init 1 = .ok (.invokespecial 1, 3) := by decide +kernel
theorem dX7_init_4 : decode cX7_init 4 = .ok (.aload_n 0, 1) := by decide +kernel
theorem dX7_init_5 : decode cX7_init 5 = .ok (.bipush 16, 2) := by decide +kernel
theorem dX7_init_7 : decode cX7_init 7 = .ok (.newarray .int, 2) := by decide +kernel
theorem dX7_init_9 : decode cX7_init 9 = .ok (.putfield 7, 3) := by decide +kernel
theorem dX7_init_12 : decode cX7_init 12 = .ok (.aload_n 0, 1) := by decide +kernel
theorem dX7_init_13 : decode cX7_init 13 = .ok (.bipush 16, 2) := by decide +kernel
theorem dX7_init_15 : decode cX7_init 15 = .ok (.newarray .int, 2) := by decide +kernel
theorem dX7_init_17 : decode cX7_init 17 = .ok (.putfield 13, 3) := by decide +kernel
theorem dX7_init_20 : decode cX7_init 20 = .ok (.aload_n 0, 1) := by decide +kernel
theorem dX7_init_21 : decode cX7_init 21 = .ok (.bipush 16, 2) := by decide +kernel
theorem dX7_init_23 : decode cX7_init 23 = .ok (.newarray .boolean, 2) := by decide +kernel
theorem dX7_init_25 : decode cX7_init 25 = .ok (.putfield 16, 3) := by decide +kernel
theorem dX7_init_28 : decode cX7_init 28 = .ok (.aload_n 0, 1) := by decide +kernel
theorem dX7_init_29 : decode cX7_init 29 = .ok (.bipush 16, 2) := by decide +kernel
theorem dX7_init_31 : decode cX7_init 31 = .ok (.newarray .int, 2) := by decide +kernel
theorem dX7_init_33 : decode cX7_init 33 = .ok (.putfield 20, 3) := by decide +kernel
theorem dX7_init_36 : decode cX7_init 36 = .ok (.aload_n 0, 1) := by decide +kernel
theorem dX7_init_37 : decode cX7_init 37 = .ok (.bipush 48, 2) := by decide +kernel
theorem dX7_init_39 : decode cX7_init 39 = .ok (.newarray .int, 2) := by decide +kernel
theorem dX7_init_41 : decode cX7_init 41 = .ok (.putfield 23, 3) := by decide +kernel
theorem dX7_init_44 : decode cX7_init 44 = .ok (.aload_n 0, 1) := by decide +kernel
theorem dX7_init_45 : decode cX7_init 45 = .ok (.bipush 80, 2) := by decide +kernel
theorem dX7_init_47 : decode cX7_init 47 = .ok (.newarray .int, 2) := by decide +kernel
theorem dX7_init_49 : decode cX7_init 49 = .ok (.putfield 26, 3) := by decide +kernel
theorem dX7_init_52 : decode cX7_init 52 = .ok (.aload_n 0, 1) := by decide +kernel
theorem dX7_init_53 : decode cX7_init 53 = .ok (.bipush 80, 2) := by decide +kernel
theorem dX7_init_55 : decode cX7_init 55 = .ok (.newarray .int, 2) := by decide +kernel
theorem dX7_init_57 : decode cX7_init 57 = .ok (.putfield 29, 3) := by decide +kernel
theorem dX7_init_60 : decode cX7_init 60 = .ok (.aload_n 0, 1) := by decide +kernel
theorem dX7_init_61 : decode cX7_init 61 = .ok (.bipush 16, 2) := by decide +kernel
theorem dX7_init_63 : decode cX7_init 63 = .ok (.newarray .int, 2) := by decide +kernel
theorem dX7_init_65 : decode cX7_init 65 = .ok (.putfield 32, 3) := by decide +kernel
theorem dX7_init_68 : decode cX7_init 68 = .ok (.aload_n 0, 1) := by decide +kernel
theorem dX7_init_69 : decode cX7_init 69 = .ok (.sipush 512, 3) := by decide +kernel
theorem dX7_init_72 : decode cX7_init 72 = .ok (.newarray .int, 2) := by decide +kernel
theorem dX7_init_74 : decode cX7_init 74 = .ok (.putfield 35, 3) := by decide +kernel
theorem dX7_init_77 : decode cX7_init 77 = .ok (.aload_n 0, 1) := by decide +kernel
theorem dX7_init_78 : decode cX7_init 78 = .ok (.bipush 80, 2) := by decide +kernel
theorem dX7_init_80 : decode cX7_init 80 = .ok (.newarray .int, 2) := by decide +kernel
theorem dX7_init_82 : decode cX7_init 82 = .ok (.putfield 38, 3) := by decide +kernel
theorem dX7_init_85 : decode cX7_init 85 = .ok (.aload_n 0, 1) := by decide +kernel
theorem dX7_init_86 : decode cX7_init 86 = .ok (.sipush 400, 3) := by decide +kernel
theorem dX7_init_89 : decode cX7_init 89 = .ok (.newarray .int, 2) := by decide +kernel
theorem dX7_init_91 : decode cX7_init 91 = .ok (.putfield 41, 3) := by decide +kernel
theorem dX7_init_94 : decode cX7_init 94 = .ok (.aload_n 0, 1) := by decide +kernel
theorem dX7_init_95 : decode cX7_init 95 = .ok (.bipush 64, 2) := by decide +kernel
theorem dX7_init_97 : decode cX7_init 97 = .ok (.newarray .int, 2) := by decide +kernel
theorem dX7_init_99 : decode cX7_init 99 = .ok (.putfield 44, 3) := by decide +kernel
theorem dX7_init_102 : decode cX7_init 102 = .ok (.aload_n 0, 1) := by decide +kernel
theorem dX7_init_103 : decode cX7_init 103 = .ok (.iconst 4, 1) := by decide +kernel
theorem dX7_init_104 : decode cX7_init 104 = .ok (.newarray .int, 2) := by decide +kernel
theorem dX7_init_106 : decode cX7_init 106 = .ok (.putfield 47, 3) := by decide +kernel
theorem dX7_init_109 : decode cX7_init 109 = .ok (.aload_n 0, 1) := by decide +kernel
theorem dX7_init_110 : decode cX7_init 110 = .ok (.sipush 600, 3) := by decide +kernel
theorem dX7_init_113 : decode cX7_init 113 = .ok (.newarray .int, 2) := by decide +kernel
theorem dX7_init_115 : decode cX7_init 115 = .ok (.putfield 50, 3) := by decide +kernel
theorem dX7_init_118 : decode cX7_init 118 = .ok (.aload_n 0, 1) := by decide +kernel
theorem dX7_init_119 : decode cX7_init 119 = .ok (.bipush 100, 2) := by decide +kernel
theorem dX7_init_121 : decode cX7_init 121 = .ok (.newarray .int, 2) := by decide +kernel
theorem dX7_init_123 : decode cX7_init 123 = .ok (.putfield 53, 3) := by decide +kernel
theorem dX7_init_126 : decode cX7_init 126 = .ok (.aload_n 0, 1) := by decide +kernel
theorem dX7_init_127 : decode cX7_init 127 = .ok (.iconst 4, 1) := by decide +kernel
theorem dX7_init_128 : decode cX7_init 128 = .ok (.newarray .int, 2) := by decide +kernel
theorem dX7_init_130 : decode cX7_init 130 = .ok (.putfield 56, 3) := by decide +kernel
theorem dX7_init_133 : decode cX7_init 133 = .ok (.aload_n 0, 1) := by decide +kernel
theorem dX7_init_134 : decode cX7_init 134 = .ok (.sipush 2400, 3) := by decide +kernel
theorem dX7_init_137 : decode cX7_init 137 = .ok (.newarray .int, 2) := by decide +kernel
theorem dX7_init_139 : decode cX7_init 139 = .ok (.putfield 59, 3) := by decide +kernel
theorem dX7_init_142 : decode cX7_init 142 = .ok (.aload_n 0, 1) := by decide +kernel
theorem dX7_init_143 : decode cX7_init 143 = .ok (.sipush 2400, 3) := by decide +kernel
theorem dX7_init_146 : decode cX7_init 146 = .ok (.newarray .int, 2) := by decide +kernel
theorem dX7_init_148 : decode cX7_init 148 = .ok (.putfield 62, 3) := by decide +kernel
theorem dX7_init_151 : decode cX7_init 151 = .ok (.aload_n 0, 1) := by decide +kernel
theorem dX7_init_152 : decode cX7_init 152 = .ok (.bipush 16, 2) := by decide +kernel
theorem dX7_init_154 : decode cX7_init 154 = .ok (.newarray .int, 2) := by decide +kernel
theorem dX7_init_156 : decode cX7_init 156 = .ok (.putfield 65, 3) := by decide +kernel
theorem dX7_init_159 : decode cX7_init 159 = .ok (.aload_n 0, 1) := by decide +kernel
theorem dX7_init_160 : decode cX7_init 160 = .ok (.bipush 16, 2) := by decide +kernel
theorem dX7_init_162 : decode cX7_init 162 = .ok (.newarray .int, 2) := by decide +kernel
theorem dX7_init_164 : decode cX7_init 164 = .ok (.putfield 68, 3) := by decide +kernel
theorem dX7_init_167 : decode cX7_init 167 = .ok (.aload_n 0, 1) := by decide +kernel
theorem dX7_init_168 : decode cX7_init 168 = .ok (.bipush 16, 2) := by decide +kernel
theorem dX7_init_170 : decode cX7_init 170 = .ok (.newarray .int, 2) := by decide +kernel
theorem dX7_init_172 : decode cX7_init 172 = .ok (.putfield 71, 3) := by decide +kernel
theorem dX7_init_175 : decode cX7_init 175 = .ok (.aload_n 0, 1) := by decide +kernel
theorem dX7_init_176 : decode cX7_init 176 = .ok (.bipush 16, 2) := by decide +kernel
theorem dX7_init_178 : decode cX7_init 178 = .ok (.newarray .int, 2) := by decide +kernel
theorem dX7_init_180 : decode cX7_init 180 = .ok (.putfield 74, 3) := by decide +kernel
theorem dX7_init_183 : decode cX7_init 183 = .ok (.aload_n 0, 1) := by decide +kernel
theorem dX7_init_184 : decode cX7_init 184 = .ok (.bipush 16, 2) := by decide +kernel
theorem dX7_init_186 : decode cX7_init 186 = .ok (.newarray .int, 2) := by decide +kernel
theorem dX7_init_188 : decode cX7_init 188 = .ok (.putfield 77, 3) := by decide +kernel
theorem dX7_init_191 : decode cX7_init 191 = .ok (.aload_n 0, 1) := by decide +kernel
theorem dX7_init_192 : decode cX7_init 192 = .ok (.sipush 256, 3) := by decide +kernel
theorem dX7_init_195 : decode cX7_init 195 = .ok (.newarray .int, 2) := by decide +kernel
theorem dX7_init_197 : decode cX7_init 197 = .ok (.putfield 80, 3) := by decide +kernel
theorem dX7_init_200 : decode cX7_init 200 = .ok (.aload_n 0, 1) := by decide +kernel
theorem dX7_init_201 : decode cX7_init 201 = .ok (.bipush 16, 2) := by decide +kernel
theorem dX7_init_203 : decode cX7_init 203 = .ok (.newarray .int, 2) := by decide +kernel
theorem dX7_init_205 : decode cX7_init 205 = .ok (.putfield 83, 3) := by decide +kernel
theorem dX7_init_208 : decode cX7_init 208 = .ok (.aload_n 0, 1) := by decide +kernel
theorem dX7_init_209 : decode cX7_init 209 = .ok (.bipush 16, 2) := by decide +kernel
theorem dX7_init_211 : decode cX7_init 211 = .ok (.newarray .boolean, 2) := by decide +kernel
theorem dX7_init_213 : decode cX7_init 213 = .ok (.putfield 86, 3) := by decide +kernel
theorem dX7_init_216 : decode cX7_init 216 = .ok (.aload_n 0, 1) := by decide +kernel
theorem dX7_init_217 : decode cX7_init 217 = .ok (.bipush 17, 2) := by decide +kernel
theorem dX7_init_219 : decode cX7_init 219 = .ok (.newarray .int, 2) := by decide +kernel
theorem dX7_init_221 : decode cX7_init 221 = .ok (.putfield 89, 3) := by decide +kernel
theorem dX7_init_224 : decode cX7_init 224 = .ok (.aload_n 0, 1) := by decide +kernel
theorem dX7_init_225 : decode cX7_init 225 = .ok (.bipush 17, 2) := by decide +kernel
theorem dX7_init_227 : decode cX7_init 227 = .ok (.newarray .int, 2) := by decide +kernel
theorem dX7_init_229 : decode cX7_init 229 = .ok (.putfield 92, 3) := by decide +kernel
theorem dX7_init_232 : decode cX7_init 232 = .ok (.aload_n 0, 1) := by decide +kernel
theorem dX7_init_233 : decode cX7_init 233 = .ok (.bipush 80, 2) := by decide +kernel
theorem dX7_init_235 : decode cX7_init 235 = .ok (.newarray .int, 2) := by decide +kernel
theorem dX7_init_237 : decode cX7_init 237 = .ok (.putfield 95, 3) := by decide +kernel
theorem dX7_init_240 : decode cX7_init 240 = .ok (.aload_n 0, 1) := by decide +kernel
theorem dX7_init_241 : decode cX7_init 241 = .ok (.invokevirtual 98, 3) := by decide +kernel
theorem dX7_init_244 : decode cX7_init 244 = .ok (.return_, 1) := by decide +kernel
theorem dX7_begins_0 : decode cX7_begins 0 = .ok (.aload_n 0, 1) := by decide +kernel
theorem dX7_begins_1 : decode cX7_begins 1 = .ok (.iconst 0, 1) := by decide +kernel
theorem dX7_begins_2 : decode cX7_begins 2 = .ok (.putfield 101, 3) := by decide +kernel
theorem dX7_begins_5 : decode cX7_begins 5 = .ok (.aload_n 0, 1) := by decide +kernel
theorem dX7_begins_6 : decode cX7_begins 6 = .ok (.iconst 0, 1) := by decide +kernel
theorem dX7_begins_7 : decode cX7_begins 7 = .ok (.putfield 105, 3) := by decide +kernel
theorem dX7_begins_10 : decode cX7_begins 10 = .ok (.aload_n 0, 1) := by decide +kernel
theorem dX7_begins_11 : decode cX7_begins 11 = .ok (.iconst 0, 1) := by decide +kernel
theorem dX7_begins_12 : decode cX7_begins 12 = .ok (.putfield 108, 3) := by decide +kernel
theorem dX7_begins_15 : decode cX7_begins 15 = .ok (.aload_n 0, 1) := by decide +kernel
theorem dX7_begins_16 : decode cX7_begins 16 = .ok (.iconst 0, 1) := by decide +kernel
theorem dX7_begins_17 : decode cX7_begins 17 = .ok (.putfield 111, 3) := by decide +kernel
theorem dX7_begins_20 : decode cX7_begins 20 = .ok (.aload_n 0, 1) := by decide +kernel
theorem dX7_begins_21 : decode cX7_begins 21 = .ok (.iconst 0, 1) := by decide +kernel
theorem dX7_begins_22 : decode cX7_begins 22 = .ok (.putfield 114, 3) := by decide +kernel
theorem dX7_begins_25 : decode cX7_begins 25 = .ok (.aload_n 0, 1) := by decide +kernel
theorem dX7_begins_26 : decode cX7_begins 26 = .ok (.iconst 0, 1) := by decide +kernel
theorem dX7_begins_27 : decode cX7_begins 27 = .ok (.putfield 117, 3) := by decide +kernel
theorem dX7_begins_30 : decode cX7_begins 30 = .ok (.iconst 0, 1) := by decide +kernel
theorem dX7_begins_31 : decode cX7_begins 31 = .ok (.istore_n 1, 1) := by decide +kernel
theorem dX7_begins_32 : decode cX7_begins 32 = .ok (.iload_n 1, 1) := by decide +kernel
theorem dX7_begins_33 : decode cX7_begins 33 = .ok (.bipush 16, 2) := by decide +kernel
theorem dX7_begins_35 : decode cX7_begins 35 = .ok (.if_icmp .ge 23, 3) := by decide +kernel
theorem dX7_begins_38 : decode cX7_begins 38 = .ok (.aload_n 0, 1) := by decide +kernel
theorem dX7_begins_39 : decode cX7_begins 39 = .ok (.getfield 20, 3) := by decide +kernel
theorem dX7_begins_42 : decode cX7_begins 42 = .ok (.iload_n 1, 1) := by decide +kernel
theorem dX7_begins_43 : decode cX7_begins 43 = .ok (.iconst 0, 1) := by decide +kernel
theorem dX7_begins_44 : decode cX7_begins 44 = .ok (.iastore, 1) := by decide +kernel
theorem dX7_begins_45 : decode cX7_begins 45 = .ok (.aload_n 0, 1) := by decide +kernel
theorem dX7_begins_46 : decode cX7_begins 46 = .ok (.getfield 32, 3) := by decide +kernel
theorem dX7_begins_49 : decode cX7_begins 49 = .ok (.iload_n 1, 1) := by decide +kernel
theorem dX7_begins_50 : decode cX7_begins 50 = .ok (.iconst 0, 1) := by decide +kernel
theorem dX7_begins_51 : decode cX7_begins 51 = .ok (.iastore, 1) := by decide +kernel
theorem dX7_begins_52 : decode cX7_begins 52 = .ok (.iinc 1 1, 3) := by decide +kernel
theorem dX7_begins_55 : decode cX7_begins 55 = .ok (.goto (-23), 3) := by decide +kernel
theorem dX7_begins_58 : decode cX7_begins 58 = .ok (.iconst 0, 1) := by decide +kernel
theorem dX7_begins_59 : decode cX7_begins 59 = .ok (.istore_n 1, 1) := by decide +kernel
theorem dX7_begins_60 : decode cX7_begins 60 = .ok (.iload_n 1, 1) := by decide +kernel
theorem dX7_begins_61 : decode cX7_begins 61 = .ok (.bipush 80, 2) := by decide +kernel
theorem dX7_begins_63 : decode cX7_begins 63 = .ok (.if_icmp .ge 23, 3) := by decide +kernel
theorem dX7_begins_66 : decode cX7_begins 66 = .ok (.aload_n 0, 1) := by decide +kernel
theorem dX7_begins_67 : decode cX7_begins 67 = .ok (.getfield 26, 3) := by decide +kernel
theorem dX7_begins_70 : decode cX7_begins 70 = .ok (.iload_n 1, 1) := by decide +kernel
theorem dX7_begins_71 : decode cX7_begins 71 = .ok (.iconst 0, 1) := by decide +kernel
theorem dX7_begins_72 : decode cX7_begins 72 = .ok (.iastore, 1) := by decide +kernel
theorem dX7_begins_73 : decode cX7_begins 73 = .ok (.aload_n 0, 1) := by decide +kernel
theorem dX7_begins_74 : decode cX7_begins 74 = .ok (.getfield 38, 3) := by decide +kernel
theorem dX7_begins_77 : decode cX7_begins 77 = .ok (.iload_n 1, 1) := by decide +kernel
theorem dX7_begins_78 : decode cX7_begins 78 = .ok (.iconst 0, 1) := by decide +kernel
theorem dX7_begins_79 : decode cX7_begins 79 = .ok (.iastore, 1) := by decide +kernel
theorem dX7_begins_80 : decode cX7_begins 80 = .ok (.iinc 1 1, 3) := by decide +kernel
theorem dX7_begins_83 : decode cX7_begins 83 = .ok (.goto (-23), 3) := by decide +kernel
theorem dX7_begins_86 : decode cX7_begins 86 = .ok (.iconst 0, 1) := by decide +kernel
theorem dX7_begins_87 : decode cX7_begins 87 = .ok (.istore_n 1, 1) := by decide +kernel
theorem dX7_begins_88 : decode cX7_begins 88 = .ok (.iload_n 1, 1) := by decide +kernel
theorem dX7_begins_89 : decode cX7_begins 89 = .ok (.sipush 400, 3) := by decide +kernel
theorem dX7_begins_92 : decode cX7_begins 92 = .ok (.if_icmp .ge 16, 3) := by decide +kernel
theorem dX7_begins_95 : decode cX7_begins 95 = .ok (.aload_n 0, 1) := by decide +kernel
theorem dX7_begins_96 : decode cX7_begins 96 = .ok (.getfield 41, 3) := by decide +kernel
theorem dX7_begins_99 : decode cX7_begins 99 = .ok (.iload_n 1, 1) := by decide +kernel
theorem dX7_begins_100 : decode cX7_begins 100 = .ok (.iconst 0, 1) := by decide +kernel
theorem dX7_begins_101 : decode cX7_begins 101 = .ok (.iastore, 1) := by decide +kernel
theorem dX7_begins_102 : decode cX7_begins 102 = .ok (.iinc 1 1, 3) := by decide +kernel
theorem dX7_begins_105 : decode cX7_begins 105 = .ok (.goto (-17), 3) := by decide +kernel
theorem dX7_begins_108 : decode cX7_begins 108 = .ok (.iconst 0, 1) := by decide +kernel
theorem dX7_begins_109 : decode cX7_begins 109 = .ok (.istore_n 1, 1) := by decide +kernel
theorem dX7_begins_110 : decode cX7_begins 110 = .ok (.iload_n 1, 1) := by decide +kernel
theorem dX7_begins_111 : decode cX7_begins 111 = .ok (.bipush 64, 2) := by decide +kernel
theorem dX7_begins_113 : decode cX7_begins 113 = .ok (.if_icmp .ge 16, 3) := by decide +kernel
theorem dX7_begins_116 : decode cX7_begins 116 = .ok (.aload_n 0, 1) := by decide +kernel
theorem dX7_begins_117 : decode cX7_begins 117 = .ok (.getfield 44, 3) := by decide +kernel
theorem dX7_begins_120 : decode cX7_begins 120 = .ok (.iload_n 1, 1) := by decide +kernel
theorem dX7_begins_121 : decode cX7_begins 121 = .ok (.iconst 0, 1) := by decide +kernel
theorem dX7_begins_122 : decode cX7_begins 122 = .ok (.iastore, 1) := by decide +kernel
theorem dX7_begins_123 : decode cX7_begins 123 = .ok (.iinc 1 1, 3) := by decide +kernel
theorem dX7_begins_126 : decode cX7_begins 126 = .ok (.goto (-16), 3) := by decide +kernel
theorem dX7_begins_129 : decode cX7_begins 129 = .ok (.iconst 0, 1) := by decide +kernel
theorem dX7_begins_130 : decode cX7_begins 130 = .ok (.istore_n 1, 1) := by decide +kernel
theorem dX7_begins_131 : decode cX7_begins 131 = .ok (.iload_n 1, 1) := by decide +kernel
theorem dX7_begins_132 : decode cX7_begins 132 = .ok (.iconst 4, 1) := by decide +kernel
theorem dX7_begins_133 : decode cX7_begins 133 = .ok (.if_icmp .ge 25, 3) := by decide +kernel
theorem dX7_begins_136 : decode cX7_begins 136 = .ok (.aload_n 0, 1) := by decide +kernel
theorem dX7_begins_137 : decode cX7_begins 137 = .ok (.getfield 47, 3) := by decide +kernel
theorem dX7_begins_140 : decode cX7_begins 140 = .ok (.iload_n 1, 1) := by decide +kernel
theorem dX7_begins_141 : decode cX7_begins 141 = .ok (.sipush 1000, 3) := by decide +kernel
theorem dX7_begins_144 : decode cX7_begins 144 = .ok (.iastore, 1) := by decide +kernel
theorem dX7_begins_145 : decode cX7_begins 145 = .ok (.aload_n 0, 1) := by decide +kernel
theorem dX7_begins_146 : decode cX7_begins 146 = .ok (.getfield 56, 3) := by decide +kernel
theorem dX7_begins_149 : decode cX7_begins 149 = .ok (.iload_n 1, 1) := by decide +kernel
theorem dX7_begins_150 : decode cX7_begins 150 = .ok (.iconst 0, 1) := by decide +kernel
theorem dX7_begins_151 : decode cX7_begins 151 = .ok (.iastore, 1) := by decide +kernel
theorem dX7_begins_152 : decode cX7_begins 152 = .ok (.iinc 1 1, 3) := by decide +kernel
theorem dX7_begins_155 : decode cX7_begins 155 = .ok (.goto (-24), 3) := by decide +kernel
theorem dX7_begins_158 : decode cX7_begins 158 = .ok (.return_, 1) := by decide +kernel
theorem dX7_thrown_0 : decode cX7_thrown 0 = .ok (.aload_n 0, 1) := by decide +kernel
theorem dX7_thrown_1 : decode cX7_thrown 1 = .ok (.getfield 120, 3) := by decide +kernel
theorem dX7_thrown_4 : decode cX7_thrown 4 = .ok (.ireturn, 1) := by decide +kernel
theorem dX7_in_0 : decode cX7_in 0 = .ok (.iload_n 0, 1) := by decide +kernel
theorem dX7_in_1 : decode cX7_in 1 = .ok (.iload_n 1, 1) := by decide +kernel
theorem dX7_in_2 : decode cX7_in 2 = .ok (.if_icmp .lt 12, 3) := by decide +kernel
theorem dX7_in_5 : decode cX7_in 5 = .ok (.iload_n 0, 1) := by decide +kernel
theorem dX7_in_6 : decode cX7_in 6 = .ok (.iload_n 2, 1) := by decide +kernel
theorem dX7_in_7 : decode cX7_in 7 = .ok (.if_icmp .gt 7, 3) := by decide +kernel
theorem dX7_in_10 : decode cX7_in 10 = .ok (.iconst 1, 1) := by decide +kernel
theorem dX7_in_11 : decode cX7_in 11 = .ok (.goto 4, 3) := by decide +kernel
theorem dX7_in_14 : decode cX7_in 14 = .ok (.iconst 0, 1) := by decide +kernel
theorem dX7_in_15 : decode cX7_in 15 = .ok (.ireturn, 1) := by decide +kernel
theorem dX7_isType_0 : decode cX7_isType 0 = .ok (.iload_n 1, 1) := by decide +kernel
theorem dX7_isType_1 : decode cX7_isType 1 = .ok (.iconst 0, 1) := by decide +kernel
theorem dX7_isType_2 : decode cX7_isType 2 = .ok (.aload_n 0, 1) := by decide +kernel
theorem dX7_isType_3 : decode cX7_isType 3 = .ok (.getfield 101, 3) := by decide +kernel
theorem dX7_isType_6 : decode cX7_isType 6 = .ok (.iconst 1, 1) := by decide +kernel
theorem dX7_isType_7 : decode cX7_isType 7 = .ok (.isub, 1) := by decide +kernel
theorem dX7_isType_8 : decode cX7_isType 8 = .ok (.invokestatic 123, 3) := by decide +kernel
theorem dX7_isType_11 : decode cX7_isType 11 = .ok (.ireturn, 1) := by decide +kernel
theorem dX7_isSession_0 : decode cX7_isSession 0 = .ok (.iload_n 0, 1) := by decide +kernel
theorem dX7_isSession_1 : decode cX7_isSession 1 = .ok (.iconst 0, 1) := by decide +kernel
theorem dX7_isSession_2 : decode cX7_isSession 2 = .ok (.iconst 3, 1) := by decide +kernel
theorem dX7_isSession_3 : decode cX7_isSession 3 = .ok (.invokestatic 123, 3) := by decide +kernel
theorem dX7_isSession_6 : decode cX7_isSession 6 = .ok (.ireturn, 1) := by decide +kernel
theorem dX7_type_0 : decode cX7_type 0 = .ok (.aload_n 0, 1) := by decide +kernel
theorem dX7_type_1 : decode cX7_type 1 = .ok (.iconst 0, 1) := by decide +kernel
theorem dX7_type_2 : decode cX7_type 2 = .ok (.putfield 120, 3) := by decide +kernel
theorem dX7_type_5 : decode cX7_type 5 = .ok (.iload_n 1, 1) := by decide +kernel
theorem dX7_type_6 : decode cX7_type 6 = .ok (.iconst 0, 1) := by decide +kernel
theorem dX7_type_7 : decode cX7_type 7 = .ok (.iconst 2, 1) := by decide +kernel
theorem dX7_type_8 : decode cX7_type 8 = .ok (.invokestatic 123, 3) := by decide +kernel
theorem dX7_type_11 : decode cX7_type 11 = .ok (.ifCond .ne 6, 3) := by decide +kernel
theorem dX7_type_14 : decode cX7_type 14 = .ok (.bipush (-102), 2) := by decide +kernel
theorem dX7_type_16 : decode cX7_type 16 = .ok (.ireturn, 1) := by decide +kernel
theorem dX7_type_17 : decode cX7_type 17 = .ok (.iload_n 2, 1) := by decide +kernel
theorem dX7_type_18 : decode cX7_type 18 = .ok (.iconst (-1), 1) := by decide +kernel
theorem dX7_type_19 : decode cX7_type 19 = .ok (.if_icmp .eq 27, 3) := by decide +kernel
theorem dX7_type_22 : decode cX7_type 22 = .ok (.iload_n 1, 1) := by decide +kernel
theorem dX7_type_23 : decode cX7_type 23 = .ok (.ifCond .ne 20, 3) := by decide +kernel
theorem dX7_type_26 : decode cX7_type 26 = .ok (.aload_n 0, 1) := by decide +kernel
theorem dX7_type_27 : decode cX7_type 27 = .ok (.iload_n 2, 1) := by decide +kernel
theorem dX7_type_28 : decode cX7_type 28 = .ok (.invokevirtual 127, 3) := by decide +kernel
theorem dX7_type_31 : decode cX7_type 31 = .ok (.ifCond .eq 12, 3) := by decide +kernel
theorem dX7_type_34 : decode cX7_type 34 = .ok (.aload_n 0, 1) := by decide +kernel
theorem dX7_type_35 : decode cX7_type 35 = .ok (.getfield 7, 3) := by decide +kernel
theorem dX7_type_38 : decode cX7_type 38 = .ok (.iload_n 2, 1) := by decide +kernel
theorem dX7_type_39 : decode cX7_type 39 = .ok (.iaload, 1) := by decide +kernel
theorem dX7_type_40 : decode cX7_type 40 = .ok (.ifCond .eq 6, 3) := by decide +kernel
theorem dX7_type_43 : decode cX7_type 43 = .ok (.bipush (-101), 2) := by decide +kernel
theorem dX7_type_45 : decode cX7_type 45 = .ok (.ireturn, 1) := by decide +kernel
theorem dX7_type_46 : decode cX7_type 46 = .ok (.iload_n 3, 1) := by decide +kernel
theorem dX7_type_47 : decode cX7_type 47 = .ok (.ifCond .eq 20, 3) := by decide +kernel
theorem dX7_type_50 : decode cX7_type 50 = .ok (.iload_n 2, 1) := by decide +kernel
theorem dX7_type_51 : decode cX7_type 51 = .ok (.iconst (-1), 1) := by decide +kernel
theorem dX7_type_52 : decode cX7_type 52 = .ok (.if_icmp .eq 15, 3) := by decide +kernel
theorem dX7_type_55 : decode cX7_type 55 = .ok (.aload_n 0, 1) := by decide +kernel
theorem dX7_type_56 : decode cX7_type 56 = .ok (.getfield 16, 3) := by decide +kernel
theorem dX7_type_59 : decode cX7_type 59 = .ok (.iload_n 2, 1) := by decide +kernel
theorem dX7_type_60 : decode cX7_type 60 = .ok (.baload, 1) := by decide +kernel
theorem dX7_type_61 : decode cX7_type 61 = .ok (.ifCond .ne 6, 3) := by decide +kernel
theorem dX7_type_64 : decode cX7_type 64 = .ok (.bipush (-103), 2) := by decide +kernel
theorem dX7_type_66 : decode cX7_type 66 = .ok (.ireturn, 1) := by decide +kernel
theorem dX7_type_67 : decode cX7_type 67 = .ok (.aload_n 0, 1) := by decide +kernel
theorem dX7_type_68 : decode cX7_type 68 = .ok (.getfield 101, 3) := by decide +kernel
theorem dX7_type_71 : decode cX7_type 71 = .ok (.bipush 16, 2) := by decide +kernel
theorem dX7_type_73 : decode cX7_type 73 = .ok (.if_icmp .ne 6, 3) := by decide +kernel
theorem dX7_type_76 : decode cX7_type 76 = .ok (.bipush (-104), 2) := by decide +kernel
theorem dX7_type_78 : decode cX7_type 78 = .ok (.ireturn, 1) := by decide +kernel
theorem dX7_type_79 : decode cX7_type 79 = .ok (.aload_n 0, 1) := by decide +kernel
theorem dX7_type_80 : decode cX7_type 80 = .ok (.getfield 7, 3) := by decide +kernel
theorem dX7_type_83 : decode cX7_type 83 = .ok (.aload_n 0, 1) := by decide +kernel
theorem dX7_type_84 : decode cX7_type 84 = .ok (.getfield 101, 3) := by decide +kernel
theorem dX7_type_87 : decode cX7_type 87 = .ok (.iload_n 1, 1) := by decide +kernel
theorem dX7_type_88 : decode cX7_type 88 = .ok (.iastore, 1) := by decide +kernel
theorem dX7_type_89 : decode cX7_type 89 = .ok (.aload_n 0, 1) := by decide +kernel
theorem dX7_type_90 : decode cX7_type 90 = .ok (.getfield 13, 3) := by decide +kernel
theorem dX7_type_93 : decode cX7_type 93 = .ok (.aload_n 0, 1) := by decide +kernel
theorem dX7_type_94 : decode cX7_type 94 = .ok (.getfield 101, 3) := by decide +kernel
theorem dX7_type_97 : decode cX7_type 97 = .ok (.iload_n 2, 1) := by decide +kernel
theorem dX7_type_98 : decode cX7_type 98 = .ok (.iastore, 1) := by decide +kernel
theorem dX7_type_99 : decode cX7_type 99 = .ok (.aload_n 0, 1) := by decide +kernel
theorem dX7_type_100 : decode cX7_type 100 = .ok (.getfield 16, 3) := by decide +kernel
theorem dX7_type_103 : decode cX7_type 103 = .ok (.aload_n 0, 1) := by decide +kernel
theorem dX7_type_104 : decode cX7_type 104 = .ok (.getfield 101, 3) := by decide +kernel
theorem dX7_type_107 : decode cX7_type 107 = .ok (.iload_n 3, 1) := by decide +kernel
theorem dX7_type_108 : decode cX7_type 108 = .ok (.bastore, 1) := by decide +kernel
theorem dX7_type_109 : decode cX7_type 109 = .ok (.aload_n 0, 1) := by decide +kernel
theorem dX7_type_110 : decode cX7_type 110 = .ok (.dup, 1) := by decide +kernel
theorem dX7_type_111 : decode cX7_type 111 = .ok (.getfield 101, 3) := by decide +kernel
theorem dX7_type_114 : decode cX7_type 114 = .ok (.iconst 1, 1) := by decide +kernel
theorem dX7_type_115 : decode cX7_type 115 = .ok (.iadd, 1) := by decide +kernel
theorem dX7_type_116 : decode cX7_type 116 = .ok (.putfield 101, 3) := by decide +kernel
theorem dX7_type_119 : decode cX7_type 119 = .ok (.aload_n 0, 1) := by decide +kernel
theorem dX7_type_120 : decode cX7_type 120 = .ok (.getfield 101, 3) := by decide +kernel
theorem dX7_type_123 : decode cX7_type 123 = .ok (.iconst 1, 1) := by decide +kernel
theorem dX7_type_124 : decode cX7_type 124 = .ok (.isub, 1) := by decide +kernel
theorem dX7_type_125 : decode cX7_type 125 = .ok (.ireturn, 1) := by decide +kernel
theorem dX7_face_0 : decode cX7_face 0 = .ok (.aload_n 0, 1) := by decide +kernel
theorem dX7_face_1 : decode cX7_face 1 = .ok (.iconst 0, 1) := by decide +kernel
theorem dX7_face_2 : decode cX7_face 2 = .ok (.putfield 120, 3) := by decide +kernel
theorem dX7_face_5 : decode cX7_face 5 = .ok (.aload_n 0, 1) := by decide +kernel
theorem dX7_face_6 : decode cX7_face 6 = .ok (.iload_n 1, 1) := by decide +kernel
theorem dX7_face_7 : decode cX7_face 7 = .ok (.invokevirtual 127, 3) := by decide +kernel
theorem dX7_face_10 : decode cX7_face 10 = .ok (.ifCond .eq 25, 3) := by decide +kernel
theorem dX7_face_13 : decode cX7_face 13 = .ok (.aload_n 0, 1) := by decide +kernel
theorem dX7_face_14 : decode cX7_face 14 = .ok (.iload_n 2, 1) := by decide +kernel
theorem dX7_face_15 : decode cX7_face 15 = .ok (.invokevirtual 127, 3) := by decide +kernel
theorem dX7_face_18 : decode cX7_face 18 = .ok (.ifCond .eq 17, 3) := by decide +kernel
theorem dX7_face_21 : decode cX7_face 21 = .ok (.aload_n 0, 1) := by decide +kernel
theorem dX7_face_22 : decode cX7_face 22 = .ok (.getfield 7, 3) := by decide +kernel
theorem dX7_face_25 : decode cX7_face 25 = .ok (.iload_n 2, 1) := by decide +kernel
theorem dX7_face_26 : decode cX7_face 26 = .ok (.iaload, 1) := by decide +kernel
theorem dX7_face_27 : decode cX7_face 27 = .ok (.ifCond .eq 8, 3) := by decide +kernel
theorem dX7_face_30 : decode cX7_face 30 = .ok (.iload_n 2, 1) := by decide +kernel
theorem dX7_face_31 : decode cX7_face 31 = .ok (.iload_n 1, 1) := by decide +kernel
theorem dX7_face_32 : decode cX7_face 32 = .ok (.if_icmp .lt 6, 3) := by decide +kernel
theorem dX7_face_35 : decode cX7_face 35 = .ok (.bipush (-101), 2) := by decide +kernel
theorem dX7_face_37 : decode cX7_face 37 = .ok (.ireturn, 1) := by decide +kernel
theorem dX7_face_38 : decode cX7_face 38 = .ok (.aload_n 0, 1) := by decide +kernel
theorem dX7_face_39 : decode cX7_face 39 = .ok (.getfield 16, 3) := by decide +kernel
theorem dX7_face_42 : decode cX7_face 42 = .ok (.iload_n 1, 1) := by decide +kernel
theorem dX7_face_43 : decode cX7_face 43 = .ok (.baload, 1) := by decide +kernel
theorem dX7_face_44 : decode cX7_face 44 = .ok (.ifCond .eq 16, 3) := by decide +kernel
theorem dX7_face_47 : decode cX7_face 47 = .ok (.aload_n 0, 1) := by decide +kernel
theorem dX7_face_48 : decode cX7_face 48 = .ok (.getfield 16, 3) := by decide +kernel
theorem dX7_face_51 : decode cX7_face 51 = .ok (.iload_n 2, 1) := by decide +kernel
theorem dX7_face_52 : decode cX7_face 52 = .ok (.baload, 1) := by decide +kernel
theorem dX7_face_53 : decode cX7_face 53 = .ok (.ifCond .ne 7, 3) := by decide +kernel
theorem dX7_face_56 : decode cX7_face 56 = .ok (.iconst 1, 1) := by decide +kernel
theorem dX7_face_57 : decode cX7_face 57 = .ok (.goto 4, 3) := by decide +kernel
theorem dX7_face_60 : decode cX7_face 60 = .ok (.iconst 0, 1) := by decide +kernel
theorem dX7_face_61 : decode cX7_face 61 = .ok (.istore_n 3, 1) := by decide +kernel
theorem dX7_face_62 : decode cX7_face 62 = .ok (.iconst 0, 1) := by decide +kernel
theorem dX7_face_63 : decode cX7_face 63 = .ok (.istore 4, 2) := by decide +kernel
theorem dX7_face_65 : decode cX7_face 65 = .ok (.iload 4, 2) := by decide +kernel
theorem dX7_face_67 : decode cX7_face 67 = .ok (.aload_n 0, 1) := by decide +kernel
theorem dX7_face_68 : decode cX7_face 68 = .ok (.getfield 20, 3) := by decide +kernel
theorem dX7_face_71 : decode cX7_face 71 = .ok (.iload_n 1, 1) := by decide +kernel
theorem dX7_face_72 : decode cX7_face 72 = .ok (.iaload, 1) := by decide +kernel
theorem dX7_face_73 : decode cX7_face 73 = .ok (.if_icmp .ge 34, 3) := by decide +kernel
theorem dX7_face_76 : decode cX7_face 76 = .ok (.iload_n 3, 1) := by decide +kernel
theorem dX7_face_77 : decode cX7_face 77 = .ok (.ifCond .ne 18, 3) := by decide +kernel
theorem dX7_face_80 : decode cX7_face 80 = .ok (.aload_n 0, 1) := by decide +kernel
theorem dX7_face_81 : decode cX7_face 81 = .ok (.getfield 23, 3) := by decide +kernel
theorem dX7_face_84 : decode cX7_face 84 = .ok (.iconst 3, 1) := by decide +kernel
theorem dX7_face_85 : decode cX7_face 85 = .ok (.iload_n 1, 1) := by decide +kernel
theorem dX7_face_86 : decode cX7_face 86 = .ok (.imul, 1) := by decide +kernel
theorem dX7_face_87 : decode cX7_face 87 = .ok (.iload 4, 2) := by decide +kernel
theorem dX7_face_89 : decode cX7_face 89 = .ok (.iadd, 1) := by decide +kernel
theorem dX7_face_90 : decode cX7_face 90 = .ok (.iaload, 1) := by decide +kernel
theorem dX7_face_91 : decode cX7_face 91 = .ok (.iload_n 2, 1) := by decide +kernel
theorem dX7_face_92 : decode cX7_face 92 = .ok (.if_icmp .ne 7, 3) := by decide +kernel
theorem dX7_face_95 : decode cX7_face 95 = .ok (.iconst 1, 1) := by decide +kernel
theorem dX7_face_96 : decode cX7_face 96 = .ok (.goto 4, 3) := by decide +kernel
theorem dX7_face_99 : decode cX7_face 99 = .ok (.iconst 0, 1) := by decide +kernel
theorem dX7_face_100 : decode cX7_face 100 = .ok (.istore_n 3, 1) := by decide +kernel
theorem dX7_face_101 : decode cX7_face 101 = .ok (.iinc 4 1, 3) := by decide +kernel
theorem dX7_face_104 : decode cX7_face 104 = .ok (.goto (-39), 3) := by decide +kernel
theorem dX7_face_107 : decode cX7_face 107 = .ok (.iload_n 3, 1) := by decide +kernel
theorem dX7_face_108 : decode cX7_face 108 = .ok (.ifCond .eq 6, 3) := by decide +kernel
theorem dX7_face_111 : decode cX7_face 111 = .ok (.bipush (-103), 2) := by decide +kernel
theorem dX7_face_113 : decode cX7_face 113 = .ok (.ireturn, 1) := by decide +kernel
theorem dX7_face_114 : decode cX7_face 114 = .ok (.aload_n 0, 1) := by decide +kernel
theorem dX7_face_115 : decode cX7_face 115 = .ok (.getfield 20, 3) := by decide +kernel
theorem dX7_face_118 : decode cX7_face 118 = .ok (.iload_n 1, 1) := by decide +kernel
theorem dX7_face_119 : decode cX7_face 119 = .ok (.iaload, 1) := by decide +kernel
theorem dX7_face_120 : decode cX7_face 120 = .ok (.iconst 3, 1) := by decide +kernel
theorem dX7_face_121 : decode cX7_face 121 = .ok (.if_icmp .ne 6, 3) := by decide +kernel
theorem dX7_face_124 : decode cX7_face 124 = .ok (.bipush (-104), 2) := by decide +kernel
theorem dX7_face_126 : decode cX7_face 126 = .ok (.ireturn, 1) := by decide +kernel
theorem dX7_face_127 : decode cX7_face 127 = .ok (.aload_n 0, 1) := by decide +kernel
theorem dX7_face_128 : decode cX7_face 128 = .ok (.getfield 23, 3) := by decide +kernel
theorem dX7_face_131 : decode cX7_face 131 = .ok (.iconst 3, 1) := by decide +kernel
theorem dX7_face_132 : decode cX7_face 132 = .ok (.iload_n 1, 1) := by decide +kernel
theorem dX7_face_133 : decode cX7_face 133 = .ok (.imul, 1) := by decide +kernel
theorem dX7_face_134 : decode cX7_face 134 = .ok (.aload_n 0, 1) := by decide +kernel
theorem dX7_face_135 : decode cX7_face 135 = .ok (.getfield 20, 3) := by decide +kernel
theorem dX7_face_138 : decode cX7_face 138 = .ok (.iload_n 1, 1) := by decide +kernel
theorem dX7_face_139 : decode cX7_face 139 = .ok (.iaload, 1) := by decide +kernel
theorem dX7_face_140 : decode cX7_face 140 = .ok (.iadd, 1) := by decide +kernel
theorem dX7_face_141 : decode cX7_face 141 = .ok (.iload_n 2, 1) := by decide +kernel
theorem dX7_face_142 : decode cX7_face 142 = .ok (.iastore, 1) := by decide +kernel
theorem dX7_face_143 : decode cX7_face 143 = .ok (.aload_n 0, 1) := by decide +kernel
theorem dX7_face_144 : decode cX7_face 144 = .ok (.getfield 20, 3) := by decide +kernel
theorem dX7_face_147 : decode cX7_face 147 = .ok (.iload_n 1, 1) := by decide +kernel
theorem dX7_face_148 : decode cX7_face 148 = .ok (.dup2, 1) := by decide +kernel
theorem dX7_face_149 : decode cX7_face 149 = .ok (.iaload, 1) := by decide +kernel
theorem dX7_face_150 : decode cX7_face 150 = .ok (.iconst 1, 1) := by decide +kernel
theorem dX7_face_151 : decode cX7_face 151 = .ok (.iadd, 1) := by decide +kernel
theorem dX7_face_152 : decode cX7_face 152 = .ok (.iastore, 1) := by decide +kernel
theorem dX7_face_153 : decode cX7_face 153 = .ok (.aload_n 0, 1) := by decide +kernel
theorem dX7_face_154 : decode cX7_face 154 = .ok (.getfield 20, 3) := by decide +kernel
theorem dX7_face_157 : decode cX7_face 157 = .ok (.iload_n 1, 1) := by decide +kernel
theorem dX7_face_158 : decode cX7_face 158 = .ok (.iaload, 1) := by decide +kernel
theorem dX7_face_159 : decode cX7_face 159 = .ok (.ireturn, 1) := by decide +kernel
theorem dX7_field_0 : decode cX7_field 0 = .ok (.aload_n 0, 1) := by decide +kernel
theorem dX7_field_1 : decode cX7_field 1 = .ok (.iconst 0, 1) := by decide +kernel
theorem dX7_field_2 : decode cX7_field 2 = .ok (.putfield 120, 3) := by decide +kernel
theorem dX7_field_5 : decode cX7_field 5 = .ok (.aload_n 0, 1) := by decide +kernel
theorem dX7_field_6 : decode cX7_field 6 = .ok (.iload_n 1, 1) := by decide +kernel
theorem dX7_field_7 : decode cX7_field 7 = .ok (.invokevirtual 127, 3) := by decide +kernel
theorem dX7_field_10 : decode cX7_field 10 = .ok (.ifCond .ne 6, 3) := by decide +kernel
theorem dX7_field_13 : decode cX7_field 13 = .ok (.bipush (-101), 2) := by decide +kernel
theorem dX7_field_15 : decode cX7_field 15 = .ok (.ireturn, 1) := by decide +kernel
theorem dX7_field_16 : decode cX7_field 16 = .ok (.iload_n 2, 1) := by decide +kernel
theorem dX7_field_17 : decode cX7_field 17 = .ok (.iconst 0, 1) := by decide +kernel
theorem dX7_field_18 : decode cX7_field 18 = .ok (.iconst 4, 1) := by decide +kernel
theorem dX7_field_19 : decode cX7_field 19 = .ok (.invokestatic 123, 3) := by decide +kernel
theorem dX7_field_22 : decode cX7_field 22 = .ok (.ifCond .eq 21, 3) := by decide +kernel
theorem dX7_field_25 : decode cX7_field 25 = .ok (.iload_n 3, 1) := by decide +kernel
theorem dX7_field_26 : decode cX7_field 26 = .ok (.ifCond .eq 20, 3) := by decide +kernel
theorem dX7_field_29 : decode cX7_field 29 = .ok (.iload 4, 2) := by decide +kernel
theorem dX7_field_31 : decode cX7_field 31 = .ok (.sipush (-999), 3) := by decide +kernel
theorem dX7_field_34 : decode cX7_field 34 = .ok (.sipush 999, 3) := by decide +kernel
theorem dX7_field_37 : decode cX7_field 37 = .ok (.invokestatic 123, 3) := by decide +kernel
theorem dX7_field_40 : decode cX7_field 40 = .ok (.ifCond .ne 6, 3) := by decide +kernel
theorem dX7_field_43 : decode cX7_field 43 = .ok (.bipush (-102), 2) := by decide +kernel
theorem dX7_field_45 : decode cX7_field 45 = .ok (.ireturn, 1) := by decide +kernel
theorem dX7_field_46 : decode cX7_field 46 = .ok (.aload_n 0, 1) := by decide +kernel
theorem dX7_field_47 : decode cX7_field 47 = .ok (.getfield 26, 3) := by decide +kernel
theorem dX7_field_50 : decode cX7_field 50 = .ok (.iconst 5, 1) := by decide +kernel
theorem dX7_field_51 : decode cX7_field 51 = .ok (.iload_n 1, 1) := by decide +kernel
theorem dX7_field_52 : decode cX7_field 52 = .ok (.imul, 1) := by decide +kernel
theorem dX7_field_53 : decode cX7_field 53 = .ok (.iload_n 2, 1) := by decide +kernel
theorem dX7_field_54 : decode cX7_field 54 = .ok (.iadd, 1) := by decide +kernel
theorem dX7_field_55 : decode cX7_field 55 = .ok (.iload_n 3, 1) := by decide +kernel
theorem dX7_field_56 : decode cX7_field 56 = .ok (.ifCond .eq 7, 3) := by decide +kernel
theorem dX7_field_59 : decode cX7_field 59 = .ok (.iconst 1, 1) := by decide +kernel
theorem dX7_field_60 : decode cX7_field 60 = .ok (.goto 4, 3) := by decide +kernel
theorem dX7_field_63 : decode cX7_field 63 = .ok (.iconst 2, 1) := by decide +kernel
theorem dX7_field_64 : decode cX7_field 64 = .ok (.iastore, 1) := by decide +kernel
theorem dX7_field_65 : decode cX7_field 65 = .ok (.aload_n 0, 1) := by decide +kernel
theorem dX7_field_66 : decode cX7_field 66 = .ok (.getfield 29, 3) := by decide +kernel
theorem dX7_field_69 : decode cX7_field 69 = .ok (.iconst 5, 1) := by decide +kernel
theorem dX7_field_70 : decode cX7_field 70 = .ok (.iload_n 1, 1) := by decide +kernel
theorem dX7_field_71 : decode cX7_field 71 = .ok (.imul, 1) := by decide +kernel
theorem dX7_field_72 : decode cX7_field 72 = .ok (.iload_n 2, 1) := by decide +kernel
theorem dX7_field_73 : decode cX7_field 73 = .ok (.iadd, 1) := by decide +kernel
theorem dX7_field_74 : decode cX7_field 74 = .ok (.iload_n 3, 1) := by decide +kernel
theorem dX7_field_75 : decode cX7_field 75 = .ok (.ifCond .eq 8, 3) := by decide +kernel
theorem dX7_field_78 : decode cX7_field 78 = .ok (.iload 4, 2) := by decide +kernel
theorem dX7_field_80 : decode cX7_field 80 = .ok (.goto 4, 3) := by decide +kernel
theorem dX7_field_83 : decode cX7_field 83 = .ok (.iconst 0, 1) := by decide +kernel
theorem dX7_field_84 : decode cX7_field 84 = .ok (.iastore, 1) := by decide +kernel
theorem dX7_field_85 : decode cX7_field 85 = .ok (.iload_n 3, 1) := by decide +kernel
theorem dX7_field_86 : decode cX7_field 86 = .ok (.ifCond .eq 7, 3) := by decide +kernel
theorem dX7_field_89 : decode cX7_field 89 = .ok (.iconst 1, 1) := by decide +kernel
theorem dX7_field_90 : decode cX7_field 90 = .ok (.goto 4, 3) := by decide +kernel
theorem dX7_field_93 : decode cX7_field 93 = .ok (.iconst 0, 1) := by decide +kernel
theorem dX7_field_94 : decode cX7_field 94 = .ok (.ireturn, 1) := by decide +kernel
theorem dX7_isLine_0 : decode cX7_isLine 0 = .ok (.iload_n 0, 1) := by decide +kernel
theorem dX7_isLine_1 : decode cX7_isLine 1 = .ok (.tableswitch 166 0 6 #[43, 71, 105, 113, 121, 130, 141], 43) := by decide +kernel
theorem dX7_isLine_44 : decode cX7_isLine 44 = .ok (.iload_n 1, 1) := by decide +kernel
theorem dX7_isLine_45 : decode cX7_isLine 45 = .ok (.iconst 0, 1) := by decide +kernel
theorem dX7_isLine_46 : decode cX7_isLine 46 = .ok (.iconst 4, 1) := by decide +kernel
theorem dX7_isLine_47 : decode cX7_isLine 47 = .ok (.invokestatic 123, 3) := by decide +kernel
theorem dX7_isLine_50 : decode cX7_isLine 50 = .ok (.ifCond .eq 20, 3) := by decide +kernel
theorem dX7_isLine_53 : decode cX7_isLine 53 = .ok (.iload_n 2, 1) := by decide +kernel
theorem dX7_isLine_54 : decode cX7_isLine 54 = .ok (.sipush (-999), 3) := by decide +kernel
theorem dX7_isLine_57 : decode cX7_isLine 57 = .ok (.sipush 999, 3) := by decide +kernel
theorem dX7_isLine_60 : decode cX7_isLine 60 = .ok (.invokestatic 123, 3) := by decide +kernel
theorem dX7_isLine_63 : decode cX7_isLine 63 = .ok (.ifCond .eq 7, 3) := by decide +kernel
theorem dX7_isLine_66 : decode cX7_isLine 66 = .ok (.iconst 1, 1) := by decide +kernel
theorem dX7_isLine_67 : decode cX7_isLine 67 = .ok (.goto 4, 3) := by decide +kernel
theorem dX7_isLine_70 : decode cX7_isLine 70 = .ok (.iconst 0, 1) := by decide +kernel
theorem dX7_isLine_71 : decode cX7_isLine 71 = .ok (.ireturn, 1) := by decide +kernel
theorem dX7_isLine_72 : decode cX7_isLine 72 = .ok (.iload_n 1, 1) := by decide +kernel
theorem dX7_isLine_73 : decode cX7_isLine 73 = .ok (.iconst 0, 1) := by decide +kernel
theorem dX7_isLine_74 : decode cX7_isLine 74 = .ok (.iconst 4, 1) := by decide +kernel
theorem dX7_isLine_75 : decode cX7_isLine 75 = .ok (.invokestatic 123, 3) := by decide +kernel
theorem dX7_isLine_78 : decode cX7_isLine 78 = .ok (.ifCond .eq 26, 3) := by decide +kernel
theorem dX7_isLine_81 : decode cX7_isLine 81 = .ok (.iload_n 2, 1) := by decide +kernel
theorem dX7_isLine_82 : decode cX7_isLine 82 = .ok (.iconst 0, 1) := by decide +kernel
theorem dX7_isLine_83 : decode cX7_isLine 83 = .ok (.bipush 15, 2) := by decide +kernel
theorem dX7_isLine_85 : decode cX7_isLine 85 = .ok (.invokestatic 123, 3) := by decide +kernel
theorem dX7_isLine_88 : decode cX7_isLine 88 = .ok (.ifCond .eq 16, 3) := by decide +kernel
theorem dX7_isLine_91 : decode cX7_isLine 91 = .ok (.iload_n 3, 1) := by decide +kernel
theorem dX7_isLine_92 : decode cX7_isLine 92 = .ok (.iconst 0, 1) := by decide +kernel
theorem dX7_isLine_93 : decode cX7_isLine 93 = .ok (.iconst 4, 1) := by decide +kernel
theorem dX7_isLine_94 : decode cX7_isLine 94 = .ok (.invokestatic 123, 3) := by decide +kernel
theorem dX7_isLine_97 : decode cX7_isLine 97 = .ok (.ifCond .eq 7, 3) := by decide +kernel
theorem dX7_isLine_100 : decode cX7_isLine 100 = .ok (.iconst 1, 1) := by decide +kernel
theorem dX7_isLine_101 : decode cX7_isLine 101 = .ok (.goto 4, 3) := by decide +kernel
theorem dX7_isLine_104 : decode cX7_isLine 104 = .ok (.iconst 0, 1) := by decide +kernel
theorem dX7_isLine_105 : decode cX7_isLine 105 = .ok (.ireturn, 1) := by decide +kernel
theorem dX7_isLine_106 : decode cX7_isLine 106 = .ok (.iload_n 1, 1) := by decide +kernel
theorem dX7_isLine_107 : decode cX7_isLine 107 = .ok (.iconst 0, 1) := by decide +kernel
theorem dX7_isLine_108 : decode cX7_isLine 108 = .ok (.bipush 15, 2) := by decide +kernel
theorem dX7_isLine_110 : decode cX7_isLine 110 = .ok (.invokestatic 123, 3) := by decide +kernel
theorem dX7_isLine_113 : decode cX7_isLine 113 = .ok (.ireturn, 1) := by decide +kernel
theorem dX7_isLine_114 : decode cX7_isLine 114 = .ok (.iload_n 1, 1) := by decide +kernel
theorem dX7_isLine_115 : decode cX7_isLine 115 = .ok (.iconst 0, 1) := by decide +kernel
theorem dX7_isLine_116 : decode cX7_isLine 116 = .ok (.bipush 6, 2) := by decide +kernel
theorem dX7_isLine_118 : decode cX7_isLine 118 = .ok (.invokestatic 123, 3) := by decide +kernel
theorem dX7_isLine_121 : decode cX7_isLine 121 = .ok (.ireturn, 1) := by decide +kernel
theorem dX7_isLine_122 : decode cX7_isLine 122 = .ok (.iload_n 1, 1) := by decide +kernel
theorem dX7_isLine_123 : decode cX7_isLine 123 = .ok (.iconst 0, 1) := by decide +kernel
theorem dX7_isLine_124 : decode cX7_isLine 124 = .ok (.sipush 1000, 3) := by decide +kernel
theorem dX7_isLine_127 : decode cX7_isLine 127 = .ok (.invokestatic 123, 3) := by decide +kernel
theorem dX7_isLine_130 : decode cX7_isLine 130 = .ok (.ireturn, 1) := by decide +kernel
theorem dX7_isLine_131 : decode cX7_isLine 131 = .ok (.iload_n 1, 1) := by decide +kernel
theorem dX7_isLine_132 : decode cX7_isLine 132 = .ok (.sipush (-999), 3) := by decide +kernel
theorem dX7_isLine_135 : decode cX7_isLine 135 = .ok (.sipush 999, 3) := by decide +kernel
theorem dX7_isLine_138 : decode cX7_isLine 138 = .ok (.invokestatic 123, 3) := by decide +kernel
theorem dX7_isLine_141 : decode cX7_isLine 141 = .ok (.ireturn, 1) := by decide +kernel
theorem dX7_isLine_142 : decode cX7_isLine 142 = .ok (.iload_n 1, 1) := by decide +kernel
theorem dX7_isLine_143 : decode cX7_isLine 143 = .ok (.iconst 0, 1) := by decide +kernel
theorem dX7_isLine_144 : decode cX7_isLine 144 = .ok (.iconst 4, 1) := by decide +kernel
theorem dX7_isLine_145 : decode cX7_isLine 145 = .ok (.invokestatic 123, 3) := by decide +kernel
theorem dX7_isLine_148 : decode cX7_isLine 148 = .ok (.ifCond .eq 17, 3) := by decide +kernel
theorem dX7_isLine_151 : decode cX7_isLine 151 = .ok (.iload_n 2, 1) := by decide +kernel
theorem dX7_isLine_152 : decode cX7_isLine 152 = .ok (.iconst 0, 1) := by decide +kernel
theorem dX7_isLine_153 : decode cX7_isLine 153 = .ok (.bipush 15, 2) := by decide +kernel
theorem dX7_isLine_155 : decode cX7_isLine 155 = .ok (.invokestatic 123, 3) := by decide +kernel
theorem dX7_isLine_158 : decode cX7_isLine 158 = .ok (.ifCond .eq 7, 3) := by decide +kernel
theorem dX7_isLine_161 : decode cX7_isLine 161 = .ok (.iconst 1, 1) := by decide +kernel
theorem dX7_isLine_162 : decode cX7_isLine 162 = .ok (.goto 4, 3) := by decide +kernel
theorem dX7_isLine_165 : decode cX7_isLine 165 = .ok (.iconst 0, 1) := by decide +kernel
theorem dX7_isLine_166 : decode cX7_isLine 166 = .ok (.ireturn, 1) := by decide +kernel
theorem dX7_isLine_167 : decode cX7_isLine 167 = .ok (.iconst 0, 1) := by decide +kernel
theorem dX7_isLine_168 : decode cX7_isLine 168 = .ok (.ireturn, 1) := by decide +kernel
theorem dX7_line_0 : decode cX7_line 0 = .ok (.aload_n 0, 1) := by decide +kernel
theorem dX7_line_1 : decode cX7_line 1 = .ok (.iconst 0, 1) := by decide +kernel
theorem dX7_line_2 : decode cX7_line 2 = .ok (.putfield 120, 3) := by decide +kernel
theorem dX7_line_5 : decode cX7_line 5 = .ok (.aload_n 0, 1) := by decide +kernel
theorem dX7_line_6 : decode cX7_line 6 = .ok (.iload_n 1, 1) := by decide +kernel
theorem dX7_line_7 : decode cX7_line 7 = .ok (.invokevirtual 127, 3) := by decide +kernel
theorem dX7_line_10 : decode cX7_line 10 = .ok (.ifCond .ne 6, 3) := by decide +kernel
theorem dX7_line_13 : decode cX7_line 13 = .ok (.bipush (-101), 2) := by decide +kernel
theorem dX7_line_15 : decode cX7_line 15 = .ok (.ireturn, 1) := by decide +kernel
theorem dX7_line_16 : decode cX7_line 16 = .ok (.iload_n 2, 1) := by decide +kernel
theorem dX7_line_17 : decode cX7_line 17 = .ok (.iload_n 3, 1) := by decide +kernel
theorem dX7_line_18 : decode cX7_line 18 = .ok (.iload 4, 2) := by decide +kernel
theorem dX7_line_20 : decode cX7_line 20 = .ok (.iload 5, 2) := by decide +kernel
theorem dX7_line_22 : decode cX7_line 22 = .ok (.invokestatic 131, 3) := by decide +kernel
theorem dX7_line_25 : decode cX7_line 25 = .ok (.ifCond .ne 6, 3) := by decide +kernel
theorem dX7_line_28 : decode cX7_line 28 = .ok (.bipush (-102), 2) := by decide +kernel
theorem dX7_line_30 : decode cX7_line 30 = .ok (.ireturn, 1) := by decide +kernel
theorem dX7_line_31 : decode cX7_line 31 = .ok (.aload_n 0, 1) := by decide +kernel
theorem dX7_line_32 : decode cX7_line 32 = .ok (.getfield 32, 3) := by decide +kernel
theorem dX7_line_35 : decode cX7_line 35 = .ok (.iload_n 1, 1) := by decide +kernel
theorem dX7_line_36 : decode cX7_line 36 = .ok (.iaload, 1) := by decide +kernel
theorem dX7_line_37 : decode cX7_line 37 = .ok (.bipush 8, 2) := by decide +kernel
theorem dX7_line_39 : decode cX7_line 39 = .ok (.if_icmp .ne 6, 3) := by decide +kernel
theorem dX7_line_42 : decode cX7_line 42 = .ok (.bipush (-104), 2) := by decide +kernel
theorem dX7_line_44 : decode cX7_line 44 = .ok (.ireturn, 1) := by decide +kernel
theorem dX7_line_45 : decode cX7_line 45 = .ok (.bipush 32, 2) := by decide +kernel
theorem dX7_line_47 : decode cX7_line 47 = .ok (.iload_n 1, 1) := by decide +kernel
theorem dX7_line_48 : decode cX7_line 48 = .ok (.imul, 1) := by decide +kernel
theorem dX7_line_49 : decode cX7_line 49 = .ok (.iconst 4, 1) := by decide +kernel
theorem dX7_line_50 : decode cX7_line 50 = .ok (.aload_n 0, 1) := by decide +kernel
theorem dX7_line_51 : decode cX7_line 51 = .ok (.getfield 32, 3) := by decide +kernel
theorem dX7_line_54 : decode cX7_line 54 = .ok (.iload_n 1, 1) := by decide +kernel
theorem dX7_line_55 : decode cX7_line 55 = .ok (.iaload, 1) := by decide +kernel
theorem dX7_line_56 : decode cX7_line 56 = .ok (.imul, 1) := by decide +kernel
theorem dX7_line_57 : decode cX7_line 57 = .ok (.iadd, 1) := by decide +kernel
theorem dX7_line_58 : decode cX7_line 58 = .ok (.istore 6, 2) := by decide +kernel
theorem dX7_line_60 : decode cX7_line 60 = .ok (.aload_n 0, 1) := by decide +kernel
theorem dX7_line_61 : decode cX7_line 61 = .ok (.getfield 35, 3) := by decide +kernel
theorem dX7_line_64 : decode cX7_line 64 = .ok (.iload 6, 2) := by decide +kernel
theorem dX7_line_66 : decode cX7_line 66 = .ok (.iload_n 2, 1) := by decide +kernel
theorem dX7_line_67 : decode cX7_line 67 = .ok (.iastore, 1) := by decide +kernel
theorem dX7_line_68 : decode cX7_line 68 = .ok (.aload_n 0, 1) := by decide +kernel
theorem dX7_line_69 : decode cX7_line 69 = .ok (.getfield 35, 3) := by decide +kernel
theorem dX7_line_72 : decode cX7_line 72 = .ok (.iload 6, 2) := by decide +kernel
theorem dX7_line_74 : decode cX7_line 74 = .ok (.iconst 1, 1) := by decide +kernel
theorem dX7_line_75 : decode cX7_line 75 = .ok (.iadd, 1) := by decide +kernel
theorem dX7_line_76 : decode cX7_line 76 = .ok (.iload_n 3, 1) := by decide +kernel
theorem dX7_line_77 : decode cX7_line 77 = .ok (.iastore, 1) := by decide +kernel
theorem dX7_line_78 : decode cX7_line 78 = .ok (.aload_n 0, 1) := by decide +kernel
theorem dX7_line_79 : decode cX7_line 79 = .ok (.getfield 35, 3) := by decide +kernel
theorem dX7_line_82 : decode cX7_line 82 = .ok (.iload 6, 2) := by decide +kernel
theorem dX7_line_84 : decode cX7_line 84 = .ok (.iconst 2, 1) := by decide +kernel
theorem dX7_line_85 : decode cX7_line 85 = .ok (.iadd, 1) := by decide +kernel
theorem dX7_line_86 : decode cX7_line 86 = .ok (.iload 4, 2) := by decide +kernel
theorem dX7_line_88 : decode cX7_line 88 = .ok (.iastore, 1) := by decide +kernel
theorem dX7_line_89 : decode cX7_line 89 = .ok (.aload_n 0, 1) := by decide +kernel
theorem dX7_line_90 : decode cX7_line 90 = .ok (.getfield 35, 3) := by decide +kernel
theorem dX7_line_93 : decode cX7_line 93 = .ok (.iload 6, 2) := by decide +kernel
theorem dX7_line_95 : decode cX7_line 95 = .ok (.iconst 3, 1) := by decide +kernel
theorem dX7_line_96 : decode cX7_line 96 = .ok (.iadd, 1) := by decide +kernel
theorem dX7_line_97 : decode cX7_line 97 = .ok (.iload 5, 2) := by decide +kernel
theorem dX7_line_99 : decode cX7_line 99 = .ok (.iastore, 1) := by decide +kernel
theorem dX7_line_100 : decode cX7_line 100 = .ok (.aload_n 0, 1) := by decide +kernel
theorem dX7_line_101 : decode cX7_line 101 = .ok (.getfield 32, 3) := by decide +kernel
theorem dX7_line_104 : decode cX7_line 104 = .ok (.iload_n 1, 1) := by decide +kernel
theorem dX7_line_105 : decode cX7_line 105 = .ok (.dup2, 1) := by decide +kernel
theorem dX7_line_106 : decode cX7_line 106 = .ok (.iaload, 1) := by decide +kernel
theorem dX7_line_107 : decode cX7_line 107 = .ok (.iconst 1, 1) := by decide +kernel
theorem dX7_line_108 : decode cX7_line 108 = .ok (.iadd, 1) := by decide +kernel
theorem dX7_line_109 : decode cX7_line 109 = .ok (.iastore, 1) := by decide +kernel
theorem dX7_line_110 : decode cX7_line 110 = .ok (.aload_n 0, 1) := by decide +kernel
theorem dX7_line_111 : decode cX7_line 111 = .ok (.getfield 32, 3) := by decide +kernel
theorem dX7_line_114 : decode cX7_line 114 = .ok (.iload_n 1, 1) := by decide +kernel
theorem dX7_line_115 : decode cX7_line 115 = .ok (.iaload, 1) := by decide +kernel
theorem dX7_line_116 : decode cX7_line 116 = .ok (.ireturn, 1) := by decide +kernel
theorem dX7_at_0 : decode cX7_at 0 = .ok (.aload_n 0, 1) := by decide +kernel
theorem dX7_at_1 : decode cX7_at 1 = .ok (.getfield 16, 3) := by decide +kernel
theorem dX7_at_4 : decode cX7_at 4 = .ok (.iload_n 2, 1) := by decide +kernel
theorem dX7_at_5 : decode cX7_at 5 = .ok (.baload, 1) := by decide +kernel
theorem dX7_at_6 : decode cX7_at 6 = .ok (.ifCond .eq 10, 3) := by decide +kernel
theorem dX7_at_9 : decode cX7_at 9 = .ok (.bipush 64, 2) := by decide +kernel
theorem dX7_at_11 : decode cX7_at 11 = .ok (.iload_n 2, 1) := by decide +kernel
theorem dX7_at_12 : decode cX7_at 12 = .ok (.iadd, 1) := by decide +kernel
theorem dX7_at_13 : decode cX7_at 13 = .ok (.goto 9, 3) := by decide +kernel
theorem dX7_at_16 : decode cX7_at 16 = .ok (.bipush 16, 2) := by decide +kernel
theorem dX7_at_18 : decode cX7_at 18 = .ok (.iload_n 1, 1) := by decide +kernel
theorem dX7_at_19 : decode cX7_at 19 = .ok (.imul, 1) := by decide +kernel
theorem dX7_at_20 : decode cX7_at 20 = .ok (.iload_n 2, 1) := by decide +kernel
theorem dX7_at_21 : decode cX7_at 21 = .ok (.iadd, 1) := by decide +kernel
theorem dX7_at_22 : decode cX7_at 22 = .ok (.ireturn, 1) := by decide +kernel
theorem dX7_wakes_0 : decode cX7_wakes 0 = .ok (.aload_n 0, 1) := by decide +kernel
theorem dX7_wakes_1 : decode cX7_wakes 1 = .ok (.iconst 0, 1) := by decide +kernel
theorem dX7_wakes_2 : decode cX7_wakes 2 = .ok (.putfield 135, 3) := by decide +kernel
theorem dX7_wakes_5 : decode cX7_wakes 5 = .ok (.aload_n 0, 1) := by decide +kernel
theorem dX7_wakes_6 : decode cX7_wakes 6 = .ok (.iload_n 1, 1) := by decide +kernel
theorem dX7_wakes_7 : decode cX7_wakes 7 = .ok (.iload_n 2, 1) := by decide +kernel
theorem dX7_wakes_8 : decode cX7_wakes 8 = .ok (.invokevirtual 138, 3) := by decide +kernel
theorem dX7_wakes_11 : decode cX7_wakes 11 = .ok (.aload_n 0, 1) := by decide +kernel
theorem dX7_wakes_12 : decode cX7_wakes 12 = .ok (.getfield 135, 3) := by decide +kernel
theorem dX7_wakes_15 : decode cX7_wakes 15 = .ok (.ifCond .le 26, 3) := by decide +kernel
theorem dX7_wakes_18 : decode cX7_wakes 18 = .ok (.aload_n 0, 1) := by decide +kernel
theorem dX7_wakes_19 : decode cX7_wakes 19 = .ok (.getfield 142, 3) := by decide +kernel
theorem dX7_wakes_22 : decode cX7_wakes 22 = .ok (.ifCond .eq 11, 3) := by decide +kernel
theorem dX7_wakes_25 : decode cX7_wakes 25 = .ok (.aload_n 0, 1) := by decide +kernel
theorem dX7_wakes_26 : decode cX7_wakes 26 = .ok (.iload_n 1, 1) := by decide +kernel
theorem dX7_wakes_27 : decode cX7_wakes 27 = .ok (.invokevirtual 146, 3) := by decide +kernel
theorem dX7_wakes_30 : decode cX7_wakes 30 = .ok (.goto (-19), 3) := by decide +kernel
theorem dX7_wakes_33 : decode cX7_wakes 33 = .ok (.aload_n 0, 1) := by decide +kernel
theorem dX7_wakes_34 : decode cX7_wakes 34 = .ok (.iload_n 1, 1) := by decide +kernel
theorem dX7_wakes_35 : decode cX7_wakes 35 = .ok (.invokevirtual 150, 3) := by decide +kernel
theorem dX7_wakes_38 : decode cX7_wakes 38 = .ok (.goto (-27), 3) := by decide +kernel
theorem dX7_wakes_41 : decode cX7_wakes 41 = .ok (.aload_n 0, 1) := by decide +kernel
theorem dX7_wakes_42 : decode cX7_wakes 42 = .ok (.getfield 153, 3) := by decide +kernel
theorem dX7_wakes_45 : decode cX7_wakes 45 = .ok (.ireturn, 1) := by decide +kernel
theorem dX7_ask_0 : decode cX7_ask 0 = .ok (.aload_n 0, 1) := by decide +kernel
theorem dX7_ask_1 : decode cX7_ask 1 = .ok (.getfield 38, 3) := by decide +kernel
theorem dX7_ask_4 : decode cX7_ask 4 = .ok (.aload_n 0, 1) := by decide +kernel
theorem dX7_ask_5 : decode cX7_ask 5 = .ok (.iload_n 1, 1) := by decide +kernel
theorem dX7_ask_6 : decode cX7_ask 6 = .ok (.iload_n 2, 1) := by decide +kernel
theorem dX7_ask_7 : decode cX7_ask 7 = .ok (.invokevirtual 156, 3) := by decide +kernel
theorem dX7_ask_10 : decode cX7_ask 10 = .ok (.iaload, 1) := by decide +kernel
theorem dX7_ask_11 : decode cX7_ask 11 = .ok (.istore_n 3, 1) := by decide +kernel
theorem dX7_ask_12 : decode cX7_ask 12 = .ok (.aload_n 0, 1) := by decide +kernel
theorem dX7_ask_13 : decode cX7_ask 13 = .ok (.iload_n 3, 1) := by decide +kernel
theorem dX7_ask_14 : decode cX7_ask 14 = .ok (.ifCond .eq 7, 3) := by decide +kernel
theorem dX7_ask_17 : decode cX7_ask 17 = .ok (.iconst 1, 1) := by decide +kernel
theorem dX7_ask_18 : decode cX7_ask 18 = .ok (.goto 4, 3) := by decide +kernel
theorem dX7_ask_21 : decode cX7_ask 21 = .ok (.iconst 0, 1) := by decide +kernel
theorem dX7_ask_22 : decode cX7_ask 22 = .ok (.putfield 142, 3) := by decide +kernel
theorem dX7_ask_25 : decode cX7_ask 25 = .ok (.aload_n 0, 1) := by decide +kernel
theorem dX7_ask_26 : decode cX7_ask 26 = .ok (.iload_n 3, 1) := by decide +kernel
theorem dX7_ask_27 : decode cX7_ask 27 = .ok (.iconst 3, 1) := by decide +kernel
theorem dX7_ask_28 : decode cX7_ask 28 = .ok (.if_icmp .ne 8, 3) := by decide +kernel
theorem dX7_ask_31 : decode cX7_ask 31 = .ok (.bipush 18, 2) := by decide +kernel
theorem dX7_ask_33 : decode cX7_ask 33 = .ok (.goto 4, 3) := by decide +kernel
theorem dX7_ask_36 : decode cX7_ask 36 = .ok (.iconst 0, 1) := by decide +kernel
theorem dX7_ask_37 : decode cX7_ask 37 = .ok (.putfield 153, 3) := by decide +kernel
theorem dX7_ask_40 : decode cX7_ask 40 = .ok (.iload_n 3, 1) := by decide +kernel
theorem dX7_ask_41 : decode cX7_ask 41 = .ok (.ifCond .ne 69, 3) := by decide +kernel
theorem dX7_ask_44 : decode cX7_ask 44 = .ok (.aload_n 0, 1) := by decide +kernel
theorem dX7_ask_45 : decode cX7_ask 45 = .ok (.getfield 38, 3) := by decide +kernel
theorem dX7_ask_48 : decode cX7_ask 48 = .ok (.aload_n 0, 1) := by decide +kernel
theorem dX7_ask_49 : decode cX7_ask 49 = .ok (.iload_n 1, 1) := by decide +kernel
theorem dX7_ask_50 : decode cX7_ask 50 = .ok (.iload_n 2, 1) := by decide +kernel
theorem dX7_ask_51 : decode cX7_ask 51 = .ok (.invokevirtual 156, 3) := by decide +kernel
theorem dX7_ask_54 : decode cX7_ask 54 = .ok (.iconst 1, 1) := by decide +kernel
theorem dX7_ask_55 : decode cX7_ask 55 = .ok (.iastore, 1) := by decide +kernel
theorem dX7_ask_56 : decode cX7_ask 56 = .ok (.aload_n 0, 1) := by decide +kernel
theorem dX7_ask_57 : decode cX7_ask 57 = .ok (.getfield 65, 3) := by decide +kernel
theorem dX7_ask_60 : decode cX7_ask 60 = .ok (.aload_n 0, 1) := by decide +kernel
theorem dX7_ask_61 : decode cX7_ask 61 = .ok (.getfield 135, 3) := by decide +kernel
theorem dX7_ask_64 : decode cX7_ask 64 = .ok (.iload_n 2, 1) := by decide +kernel
theorem dX7_ask_65 : decode cX7_ask 65 = .ok (.iastore, 1) := by decide +kernel
theorem dX7_ask_66 : decode cX7_ask 66 = .ok (.aload_n 0, 1) := by decide +kernel
theorem dX7_ask_67 : decode cX7_ask 67 = .ok (.getfield 68, 3) := by decide +kernel
theorem dX7_ask_70 : decode cX7_ask 70 = .ok (.aload_n 0, 1) := by decide +kernel
theorem dX7_ask_71 : decode cX7_ask 71 = .ok (.getfield 135, 3) := by decide +kernel
theorem dX7_ask_74 : decode cX7_ask 74 = .ok (.iconst 0, 1) := by decide +kernel
theorem dX7_ask_75 : decode cX7_ask 75 = .ok (.iastore, 1) := by decide +kernel
theorem dX7_ask_76 : decode cX7_ask 76 = .ok (.aload_n 0, 1) := by decide +kernel
theorem dX7_ask_77 : decode cX7_ask 77 = .ok (.getfield 83, 3) := by decide +kernel
theorem dX7_ask_80 : decode cX7_ask 80 = .ok (.aload_n 0, 1) := by decide +kernel
theorem dX7_ask_81 : decode cX7_ask 81 = .ok (.getfield 135, 3) := by decide +kernel
theorem dX7_ask_84 : decode cX7_ask 84 = .ok (.iconst 0, 1) := by decide +kernel
theorem dX7_ask_85 : decode cX7_ask 85 = .ok (.iastore, 1) := by decide +kernel
theorem dX7_ask_86 : decode cX7_ask 86 = .ok (.aload_n 0, 1) := by decide +kernel
theorem dX7_ask_87 : decode cX7_ask 87 = .ok (.getfield 7, 3) := by decide +kernel
theorem dX7_ask_90 : decode cX7_ask 90 = .ok (.iload_n 2, 1) := by decide +kernel
theorem dX7_ask_91 : decode cX7_ask 91 = .ok (.iaload, 1) := by decide +kernel
theorem dX7_ask_92 : decode cX7_ask 92 = .ok (.ifCond .ne 8, 3) := by decide +kernel
theorem dX7_ask_95 : decode cX7_ask 95 = .ok (.aload_n 0, 1) := by decide +kernel
theorem dX7_ask_96 : decode cX7_ask 96 = .ok (.iload_n 2, 1) := by decide +kernel
theorem dX7_ask_97 : decode cX7_ask 97 = .ok (.invokevirtual 160, 3) := by decide +kernel
theorem dX7_ask_100 : decode cX7_ask 100 = .ok (.aload_n 0, 1) := by decide +kernel
theorem dX7_ask_101 : decode cX7_ask 101 = .ok (.dup, 1) := by decide +kernel
theorem dX7_ask_102 : decode cX7_ask 102 = .ok (.getfield 135, 3) := by decide +kernel
theorem dX7_ask_105 : decode cX7_ask 105 = .ok (.iconst 1, 1) := by decide +kernel
theorem dX7_ask_106 : decode cX7_ask 106 = .ok (.iadd, 1) := by decide +kernel
theorem dX7_ask_107 : decode cX7_ask 107 = .ok (.putfield 135, 3) := by decide +kernel
theorem dX7_ask_110 : decode cX7_ask 110 = .ok (.return_, 1) := by decide +kernel
theorem dX7_listFulls_0 : decode cX7_listFulls 0 = .ok (.iconst 0, 1) := by decide +kernel
theorem dX7_listFulls_1 : decode cX7_listFulls 1 = .ok (.istore_n 2, 1) := by decide +kernel
theorem dX7_listFulls_2 : decode cX7_listFulls 2 = .ok (.iload_n 2, 1) := by decide +kernel
theorem dX7_listFulls_3 : decode cX7_listFulls 3 = .ok (.bipush 16, 2) := by decide +kernel
theorem dX7_listFulls_5 : decode cX7_listFulls 5 = .ok (.if_icmp .ge 16, 3) := by decide +kernel
theorem dX7_listFulls_8 : decode cX7_listFulls 8 = .ok (.aload_n 0, 1) := by decide +kernel
theorem dX7_listFulls_9 : decode cX7_listFulls 9 = .ok (.getfield 86, 3) := by decide +kernel
theorem dX7_listFulls_12 : decode cX7_listFulls 12 = .ok (.iload_n 2, 1) := by decide +kernel
theorem dX7_listFulls_13 : decode cX7_listFulls 13 = .ok (.iconst 0, 1) := by decide +kernel
theorem dX7_listFulls_14 : decode cX7_listFulls 14 = .ok (.bastore, 1) := by decide +kernel
theorem dX7_listFulls_15 : decode cX7_listFulls 15 = .ok (.iinc 2 1, 3) := by decide +kernel
theorem dX7_listFulls_18 : decode cX7_listFulls 18 = .ok (.goto (-16), 3) := by decide +kernel
theorem dX7_listFulls_21 : decode cX7_listFulls 21 = .ok (.iconst 1, 1) := by decide +kernel
theorem dX7_listFulls_22 : decode cX7_listFulls 22 = .ok (.istore_n 2, 1) := by decide +kernel
theorem dX7_listFulls_23 : decode cX7_listFulls 23 = .ok (.aload_n 0, 1) := by decide +kernel
theorem dX7_listFulls_24 : decode cX7_listFulls 24 = .ok (.getfield 89, 3) := by decide +kernel
theorem dX7_listFulls_27 : decode cX7_listFulls 27 = .ok (.iconst 0, 1) := by decide +kernel
theorem dX7_listFulls_28 : decode cX7_listFulls 28 = .ok (.iload_n 1, 1) := by decide +kernel
theorem dX7_listFulls_29 : decode cX7_listFulls 29 = .ok (.iastore, 1) := by decide +kernel
theorem dX7_listFulls_30 : decode cX7_listFulls 30 = .ok (.aload_n 0, 1) := by decide +kernel
theorem dX7_listFulls_31 : decode cX7_listFulls 31 = .ok (.getfield 92, 3) := by decide +kernel
theorem dX7_listFulls_34 : decode cX7_listFulls 34 = .ok (.iconst 0, 1) := by decide +kernel
theorem dX7_listFulls_35 : decode cX7_listFulls 35 = .ok (.iconst 0, 1) := by decide +kernel
theorem dX7_listFulls_36 : decode cX7_listFulls 36 = .ok (.iastore, 1) := by decide +kernel
theorem dX7_listFulls_37 : decode cX7_listFulls 37 = .ok (.iload_n 2, 1) := by decide +kernel
theorem dX7_listFulls_38 : decode cX7_listFulls 38 = .ok (.ifCond .le 155, 3) := by decide +kernel
theorem dX7_listFulls_41 : decode cX7_listFulls 41 = .ok (.aload_n 0, 1) := by decide +kernel
theorem dX7_listFulls_42 : decode cX7_listFulls 42 = .ok (.getfield 89, 3) := by decide +kernel
theorem dX7_listFulls_45 : decode cX7_listFulls 45 = .ok (.iload_n 2, 1) := by decide +kernel
theorem dX7_listFulls_46 : decode cX7_listFulls 46 = .ok (.iconst 1, 1) := by decide +kernel
theorem dX7_listFulls_47 : decode cX7_listFulls 47 = .ok (.isub, 1) := by decide +kernel
theorem dX7_listFulls_48 : decode cX7_listFulls 48 = .ok (.iaload, 1) := by decide +kernel
theorem dX7_listFulls_49 : decode cX7_listFulls 49 = .ok (.istore_n 3, 1) := by decide +kernel
theorem dX7_listFulls_50 : decode cX7_listFulls 50 = .ok (.aload_n 0, 1) := by decide +kernel
theorem dX7_listFulls_51 : decode cX7_listFulls 51 = .ok (.getfield 92, 3) := by decide +kernel
theorem dX7_listFulls_54 : decode cX7_listFulls 54 = .ok (.iload_n 2, 1) := by decide +kernel
theorem dX7_listFulls_55 : decode cX7_listFulls 55 = .ok (.iconst 1, 1) := by decide +kernel
theorem dX7_listFulls_56 : decode cX7_listFulls 56 = .ok (.isub, 1) := by decide +kernel
theorem dX7_listFulls_57 : decode cX7_listFulls 57 = .ok (.iaload, 1) := by decide +kernel
theorem dX7_listFulls_58 : decode cX7_listFulls 58 = .ok (.aload_n 0, 1) := by decide +kernel
theorem dX7_listFulls_59 : decode cX7_listFulls 59 = .ok (.getfield 20, 3) := by decide +kernel
theorem dX7_listFulls_62 : decode cX7_listFulls 62 = .ok (.iload_n 3, 1) := by decide +kernel
theorem dX7_listFulls_63 : decode cX7_listFulls 63 = .ok (.iaload, 1) := by decide +kernel
theorem dX7_listFulls_64 : decode cX7_listFulls 64 = .ok (.if_icmp .ge 73, 3) := by decide +kernel
theorem dX7_listFulls_67 : decode cX7_listFulls 67 = .ok (.aload_n 0, 1) := by decide +kernel
theorem dX7_listFulls_68 : decode cX7_listFulls 68 = .ok (.getfield 23, 3) := by decide +kernel
theorem dX7_listFulls_71 : decode cX7_listFulls 71 = .ok (.iconst 3, 1) := by decide +kernel
theorem dX7_listFulls_72 : decode cX7_listFulls 72 = .ok (.iload_n 3, 1) := by decide +kernel
theorem dX7_listFulls_73 : decode cX7_listFulls 73 = .ok (.imul, 1) := by decide +kernel
theorem dX7_listFulls_74 : decode cX7_listFulls 74 = .ok (.aload_n 0, 1) := by decide +kernel
theorem dX7_listFulls_75 : decode cX7_listFulls 75 = .ok (.getfield 92, 3) := by decide +kernel
theorem dX7_listFulls_78 : decode cX7_listFulls 78 = .ok (.iload_n 2, 1) := by decide +kernel
theorem dX7_listFulls_79 : decode cX7_listFulls 79 = .ok (.iconst 1, 1) := by decide +kernel
theorem dX7_listFulls_80 : decode cX7_listFulls 80 = .ok (.isub, 1) := by decide +kernel
theorem dX7_listFulls_81 : decode cX7_listFulls 81 = .ok (.iaload, 1) := by decide +kernel
theorem dX7_listFulls_82 : decode cX7_listFulls 82 = .ok (.iadd, 1) := by decide +kernel
theorem dX7_listFulls_83 : decode cX7_listFulls 83 = .ok (.iaload, 1) := by decide +kernel
theorem dX7_listFulls_84 : decode cX7_listFulls 84 = .ok (.istore 4, 2) := by decide +kernel
theorem dX7_listFulls_86 : decode cX7_listFulls 86 = .ok (.aload_n 0, 1) := by decide +kernel
theorem dX7_listFulls_87 : decode cX7_listFulls 87 = .ok (.getfield 92, 3) := by decide +kernel
theorem dX7_listFulls_90 : decode cX7_listFulls 90 = .ok (.iload_n 2, 1) := by decide +kernel
theorem dX7_listFulls_91 : decode cX7_listFulls 91 = .ok (.iconst 1, 1) := by decide +kernel
theorem dX7_listFulls_92 : decode cX7_listFulls 92 = .ok (.isub, 1) := by decide +kernel
theorem dX7_listFulls_93 : decode cX7_listFulls 93 = .ok (.dup2, 1) := by decide +kernel
theorem dX7_listFulls_94 : decode cX7_listFulls 94 = .ok (.iaload, 1) := by decide +kernel
theorem dX7_listFulls_95 : decode cX7_listFulls 95 = .ok (.iconst 1, 1) := by decide +kernel
theorem dX7_listFulls_96 : decode cX7_listFulls 96 = .ok (.iadd, 1) := by decide +kernel
theorem dX7_listFulls_97 : decode cX7_listFulls 97 = .ok (.iastore, 1) := by decide +kernel
theorem dX7_listFulls_98 : decode cX7_listFulls 98 = .ok (.aload_n 0, 1) := by decide +kernel
theorem dX7_listFulls_99 : decode cX7_listFulls 99 = .ok (.getfield 86, 3) := by decide +kernel
theorem dX7_listFulls_102 : decode cX7_listFulls 102 = .ok (.iload 4, 2) := by decide +kernel
theorem dX7_listFulls_104 : decode cX7_listFulls 104 = .ok (.baload, 1) := by decide +kernel
theorem dX7_listFulls_105 : decode cX7_listFulls 105 = .ok (.ifCond .ne 29, 3) := by decide +kernel
theorem dX7_listFulls_108 : decode cX7_listFulls 108 = .ok (.aload_n 0, 1) := by decide +kernel
theorem dX7_listFulls_109 : decode cX7_listFulls 109 = .ok (.getfield 86, 3) := by decide +kernel
theorem dX7_listFulls_112 : decode cX7_listFulls 112 = .ok (.iload 4, 2) := by decide +kernel
theorem dX7_listFulls_114 : decode cX7_listFulls 114 = .ok (.iconst 1, 1) := by decide +kernel
theorem dX7_listFulls_115 : decode cX7_listFulls 115 = .ok (.bastore, 1) := by decide +kernel
theorem dX7_listFulls_116 : decode cX7_listFulls 116 = .ok (.aload_n 0, 1) := by decide +kernel
theorem dX7_listFulls_117 : decode cX7_listFulls 117 = .ok (.getfield 89, 3) := by decide +kernel
theorem dX7_listFulls_120 : decode cX7_listFulls 120 = .ok (.iload_n 2, 1) := by decide +kernel
theorem dX7_listFulls_121 : decode cX7_listFulls 121 = .ok (.iload 4, 2) := by decide +kernel
theorem dX7_listFulls_123 : decode cX7_listFulls 123 = .ok (.iastore, 1) := by decide +kernel
theorem dX7_listFulls_124 : decode cX7_listFulls 124 = .ok (.aload_n 0, 1) := by decide +kernel
theorem dX7_listFulls_125 : decode cX7_listFulls 125 = .ok (.getfield 92, 3) := by decide +kernel
theorem dX7_listFulls_128 : decode cX7_listFulls 128 = .ok (.iload_n 2, 1) := by decide +kernel
theorem dX7_listFulls_129 : decode cX7_listFulls 129 = .ok (.iconst 0, 1) := by decide +kernel
theorem dX7_listFulls_130 : decode cX7_listFulls 130 = .ok (.iastore, 1) := by decide +kernel
theorem dX7_listFulls_131 : decode cX7_listFulls 131 = .ok (.iinc 2 1, 3) := by decide +kernel
theorem dX7_listFulls_134 : decode cX7_listFulls 134 = .ok (.goto 56, 3) := by decide +kernel
theorem dX7_listFulls_137 : decode cX7_listFulls 137 = .ok (.iinc 2 (-1), 3) := by decide +kernel
theorem dX7_listFulls_140 : decode cX7_listFulls 140 = .ok (.iload_n 2, 1) := by decide +kernel
theorem dX7_listFulls_141 : decode cX7_listFulls 141 = .ok (.ifCond .le 49, 3) := by decide +kernel
theorem dX7_listFulls_144 : decode cX7_listFulls 144 = .ok (.aload_n 0, 1) := by decide +kernel
theorem dX7_listFulls_145 : decode cX7_listFulls 145 = .ok (.getfield 7, 3) := by decide +kernel
theorem dX7_listFulls_148 : decode cX7_listFulls 148 = .ok (.iload_n 3, 1) := by decide +kernel
theorem dX7_listFulls_149 : decode cX7_listFulls 149 = .ok (.iaload, 1) := by decide +kernel
theorem dX7_listFulls_150 : decode cX7_listFulls 150 = .ok (.iconst 2, 1) := by decide +kernel
theorem dX7_listFulls_151 : decode cX7_listFulls 151 = .ok (.if_icmp .ne 39, 3) := by decide +kernel
theorem dX7_listFulls_154 : decode cX7_listFulls 154 = .ok (.aload_n 0, 1) := by decide +kernel
theorem dX7_listFulls_155 : decode cX7_listFulls 155 = .ok (.getfield 80, 3) := by decide +kernel
theorem dX7_listFulls_158 : decode cX7_listFulls 158 = .ok (.bipush 16, 2) := by decide +kernel
theorem dX7_listFulls_160 : decode cX7_listFulls 160 = .ok (.aload_n 0, 1) := by decide +kernel
theorem dX7_listFulls_161 : decode cX7_listFulls 161 = .ok (.getfield 135, 3) := by decide +kernel
theorem dX7_listFulls_164 : decode cX7_listFulls 164 = .ok (.imul, 1) := by decide +kernel
theorem dX7_listFulls_165 : decode cX7_listFulls 165 = .ok (.aload_n 0, 1) := by decide +kernel
theorem dX7_listFulls_166 : decode cX7_listFulls 166 = .ok (.getfield 83, 3) := by decide +kernel
theorem dX7_listFulls_169 : decode cX7_listFulls 169 = .ok (.aload_n 0, 1) := by decide +kernel
theorem dX7_listFulls_170 : decode cX7_listFulls 170 = .ok (.getfield 135, 3) := by decide +kernel
theorem dX7_listFulls_173 : decode cX7_listFulls 173 = .ok (.iaload, 1) := by decide +kernel
theorem dX7_listFulls_174 : decode cX7_listFulls 174 = .ok (.iadd, 1) := by decide +kernel
theorem dX7_listFulls_175 : decode cX7_listFulls 175 = .ok (.iload_n 3, 1) := by decide +kernel
theorem dX7_listFulls_176 : decode cX7_listFulls 176 = .ok (.iastore, 1) := by decide +kernel
theorem dX7_listFulls_177 : decode cX7_listFulls 177 = .ok (.aload_n 0, 1) := by decide +kernel
theorem dX7_listFulls_178 : decode cX7_listFulls 178 = .ok (.getfield 83, 3) := by decide +kernel
theorem dX7_listFulls_181 : decode cX7_listFulls 181 = .ok (.aload_n 0, 1) := by decide +kernel
theorem dX7_listFulls_182 : decode cX7_listFulls 182 = .ok (.getfield 135, 3) := by decide +kernel
theorem dX7_listFulls_185 : decode cX7_listFulls 185 = .ok (.dup2, 1) := by decide +kernel
theorem dX7_listFulls_186 : decode cX7_listFulls 186 = .ok (.iaload, 1) := by decide +kernel
theorem dX7_listFulls_187 : decode cX7_listFulls 187 = .ok (.iconst 1, 1) := by decide +kernel
theorem dX7_listFulls_188 : decode cX7_listFulls 188 = .ok (.iadd, 1) := by decide +kernel
theorem dX7_listFulls_189 : decode cX7_listFulls 189 = .ok (.iastore, 1) := by decide +kernel
theorem dX7_listFulls_190 : decode cX7_listFulls 190 = .ok (.goto (-153), 3) := by decide +kernel
theorem dX7_listFulls_193 : decode cX7_listFulls 193 = .ok (.return_, 1) := by decide +kernel
theorem dX7_end_0 : decode cX7_end 0 = .ok (.aload_n 0, 1) := by decide +kernel
theorem dX7_end_1 : decode cX7_end 1 = .ok (.dup, 1) := by decide +kernel
theorem dX7_end_2 : decode cX7_end 2 = .ok (.getfield 135, 3) := by decide +kernel
theorem dX7_end_5 : decode cX7_end 5 = .ok (.iconst 1, 1) := by decide +kernel
theorem dX7_end_6 : decode cX7_end 6 = .ok (.isub, 1) := by decide +kernel
theorem dX7_end_7 : decode cX7_end 7 = .ok (.putfield 135, 3) := by decide +kernel
theorem dX7_end_10 : decode cX7_end 10 = .ok (.aload_n 0, 1) := by decide +kernel
theorem dX7_end_11 : decode cX7_end 11 = .ok (.getfield 65, 3) := by decide +kernel
theorem dX7_end_14 : decode cX7_end 14 = .ok (.aload_n 0, 1) := by decide +kernel
theorem dX7_end_15 : decode cX7_end 15 = .ok (.getfield 135, 3) := by decide +kernel
theorem dX7_end_18 : decode cX7_end 18 = .ok (.iaload, 1) := by decide +kernel
theorem dX7_end_19 : decode cX7_end 19 = .ok (.istore_n 3, 1) := by decide +kernel
theorem dX7_end_20 : decode cX7_end 20 = .ok (.aload_n 0, 1) := by decide +kernel
theorem dX7_end_21 : decode cX7_end 21 = .ok (.getfield 38, 3) := by decide +kernel
theorem dX7_end_24 : decode cX7_end 24 = .ok (.aload_n 0, 1) := by decide +kernel
theorem dX7_end_25 : decode cX7_end 25 = .ok (.iload_n 1, 1) := by decide +kernel
theorem dX7_end_26 : decode cX7_end 26 = .ok (.iload_n 3, 1) := by decide +kernel
theorem dX7_end_27 : decode cX7_end 27 = .ok (.invokevirtual 156, 3) := by decide +kernel
theorem dX7_end_30 : decode cX7_end 30 = .ok (.iload_n 2, 1) := by decide +kernel
theorem dX7_end_31 : decode cX7_end 31 = .ok (.ifCond .ne 7, 3) := by decide +kernel
theorem dX7_end_34 : decode cX7_end 34 = .ok (.iconst 2, 1) := by decide +kernel
theorem dX7_end_35 : decode cX7_end 35 = .ok (.goto 4, 3) := by decide +kernel
theorem dX7_end_38 : decode cX7_end 38 = .ok (.iconst 3, 1) := by decide +kernel
theorem dX7_end_39 : decode cX7_end 39 = .ok (.iastore, 1) := by decide +kernel
theorem dX7_end_40 : decode cX7_end 40 = .ok (.aload_n 0, 1) := by decide +kernel
theorem dX7_end_41 : decode cX7_end 41 = .ok (.getfield 111, 3) := by decide +kernel
theorem dX7_end_44 : decode cX7_end 44 = .ok (.sipush 150, 3) := by decide +kernel
theorem dX7_end_47 : decode cX7_end 47 = .ok (.if_icmp .ge 70, 3) := by decide +kernel
theorem dX7_end_50 : decode cX7_end 50 = .ok (.aload_n 0, 1) := by decide +kernel
theorem dX7_end_51 : decode cX7_end 51 = .ok (.getfield 50, 3) := by decide +kernel
theorem dX7_end_54 : decode cX7_end 54 = .ok (.iconst 4, 1) := by decide +kernel
theorem dX7_end_55 : decode cX7_end 55 = .ok (.aload_n 0, 1) := by decide +kernel
theorem dX7_end_56 : decode cX7_end 56 = .ok (.getfield 111, 3) := by decide +kernel
theorem dX7_end_59 : decode cX7_end 59 = .ok (.imul, 1) := by decide +kernel
theorem dX7_end_60 : decode cX7_end 60 = .ok (.iload_n 3, 1) := by decide +kernel
theorem dX7_end_61 : decode cX7_end 61 = .ok (.iastore, 1) := by decide +kernel
theorem dX7_end_62 : decode cX7_end 62 = .ok (.aload_n 0, 1) := by decide +kernel
theorem dX7_end_63 : decode cX7_end 63 = .ok (.getfield 50, 3) := by decide +kernel
theorem dX7_end_66 : decode cX7_end 66 = .ok (.iconst 4, 1) := by decide +kernel
theorem dX7_end_67 : decode cX7_end 67 = .ok (.aload_n 0, 1) := by decide +kernel
theorem dX7_end_68 : decode cX7_end 68 = .ok (.getfield 111, 3) := by decide +kernel
theorem dX7_end_71 : decode cX7_end 71 = .ok (.imul, 1) := by decide +kernel
theorem dX7_end_72 : decode cX7_end 72 = .ok (.iconst 1, 1) := by decide +kernel
theorem dX7_end_73 : decode cX7_end 73 = .ok (.iadd, 1) := by decide +kernel
theorem dX7_end_74 : decode cX7_end 74 = .ok (.iload_n 1, 1) := by decide +kernel
theorem dX7_end_75 : decode cX7_end 75 = .ok (.iastore, 1) := by decide +kernel
theorem dX7_end_76 : decode cX7_end 76 = .ok (.aload_n 0, 1) := by decide +kernel
theorem dX7_end_77 : decode cX7_end 77 = .ok (.getfield 50, 3) := by decide +kernel
theorem dX7_end_80 : decode cX7_end 80 = .ok (.iconst 4, 1) := by decide +kernel
theorem dX7_end_81 : decode cX7_end 81 = .ok (.aload_n 0, 1) := by decide +kernel
theorem dX7_end_82 : decode cX7_end 82 = .ok (.getfield 111, 3) := by decide +kernel
theorem dX7_end_85 : decode cX7_end 85 = .ok (.imul, 1) := by decide +kernel
theorem dX7_end_86 : decode cX7_end 86 = .ok (.iconst 2, 1) := by decide +kernel
theorem dX7_end_87 : decode cX7_end 87 = .ok (.iadd, 1) := by decide +kernel
theorem dX7_end_88 : decode cX7_end 88 = .ok (.iload_n 2, 1) := by decide +kernel
theorem dX7_end_89 : decode cX7_end 89 = .ok (.iastore, 1) := by decide +kernel
theorem dX7_end_90 : decode cX7_end 90 = .ok (.aload_n 0, 1) := by decide +kernel
theorem dX7_end_91 : decode cX7_end 91 = .ok (.getfield 50, 3) := by decide +kernel
theorem dX7_end_94 : decode cX7_end 94 = .ok (.iconst 4, 1) := by decide +kernel
theorem dX7_end_95 : decode cX7_end 95 = .ok (.aload_n 0, 1) := by decide +kernel
theorem dX7_end_96 : decode cX7_end 96 = .ok (.getfield 111, 3) := by decide +kernel
theorem dX7_end_99 : decode cX7_end 99 = .ok (.imul, 1) := by decide +kernel
theorem dX7_end_100 : decode cX7_end 100 = .ok (.iconst 3, 1) := by decide +kernel
theorem dX7_end_101 : decode cX7_end 101 = .ok (.iadd, 1) := by decide +kernel
theorem dX7_end_102 : decode cX7_end 102 = .ok (.aload_n 0, 1) := by decide +kernel
theorem dX7_end_103 : decode cX7_end 103 = .ok (.getfield 108, 3) := by decide +kernel
theorem dX7_end_106 : decode cX7_end 106 = .ok (.iastore, 1) := by decide +kernel
theorem dX7_end_107 : decode cX7_end 107 = .ok (.aload_n 0, 1) := by decide +kernel
theorem dX7_end_108 : decode cX7_end 108 = .ok (.dup, 1) := by decide +kernel
theorem dX7_end_109 : decode cX7_end 109 = .ok (.getfield 111, 3) := by decide +kernel
theorem dX7_end_112 : decode cX7_end 112 = .ok (.iconst 1, 1) := by decide +kernel
theorem dX7_end_113 : decode cX7_end 113 = .ok (.iadd, 1) := by decide +kernel
theorem dX7_end_114 : decode cX7_end 114 = .ok (.putfield 111, 3) := by decide +kernel
theorem dX7_end_117 : decode cX7_end 117 = .ok (.aload_n 0, 1) := by decide +kernel
theorem dX7_end_118 : decode cX7_end 118 = .ok (.iconst 1, 1) := by decide +kernel
theorem dX7_end_119 : decode cX7_end 119 = .ok (.putfield 142, 3) := by decide +kernel
theorem dX7_end_122 : decode cX7_end 122 = .ok (.aload_n 0, 1) := by decide +kernel
theorem dX7_end_123 : decode cX7_end 123 = .ok (.iload_n 2, 1) := by decide +kernel
theorem dX7_end_124 : decode cX7_end 124 = .ok (.putfield 153, 3) := by decide +kernel
theorem dX7_end_127 : decode cX7_end 127 = .ok (.return_, 1) := by decide +kernel
theorem dX7_heard_0 : decode cX7_heard 0 = .ok (.aload_n 0, 1) := by decide +kernel
theorem dX7_heard_1 : decode cX7_heard 1 = .ok (.getfield 135, 3) := by decide +kernel
theorem dX7_heard_4 : decode cX7_heard 4 = .ok (.iconst 1, 1) := by decide +kernel
theorem dX7_heard_5 : decode cX7_heard 5 = .ok (.isub, 1) := by decide +kernel
theorem dX7_heard_6 : decode cX7_heard 6 = .ok (.istore_n 2, 1) := by decide +kernel
theorem dX7_heard_7 : decode cX7_heard 7 = .ok (.aload_n 0, 1) := by decide +kernel
theorem dX7_heard_8 : decode cX7_heard 8 = .ok (.getfield 65, 3) := by decide +kernel
theorem dX7_heard_11 : decode cX7_heard 11 = .ok (.iload_n 2, 1) := by decide +kernel
theorem dX7_heard_12 : decode cX7_heard 12 = .ok (.iaload, 1) := by decide +kernel
theorem dX7_heard_13 : decode cX7_heard 13 = .ok (.istore_n 3, 1) := by decide +kernel
theorem dX7_heard_14 : decode cX7_heard 14 = .ok (.aload_n 0, 1) := by decide +kernel
theorem dX7_heard_15 : decode cX7_heard 15 = .ok (.getfield 74, 3) := by decide +kernel
theorem dX7_heard_18 : decode cX7_heard 18 = .ok (.iload_n 2, 1) := by decide +kernel
theorem dX7_heard_19 : decode cX7_heard 19 = .ok (.iaload, 1) := by decide +kernel
theorem dX7_heard_20 : decode cX7_heard 20 = .ok (.istore 4, 2) := by decide +kernel
theorem dX7_heard_22 : decode cX7_heard 22 = .ok (.aload_n 0, 1) := by decide +kernel
theorem dX7_heard_23 : decode cX7_heard 23 = .ok (.getfield 35, 3) := by decide +kernel
theorem dX7_heard_26 : decode cX7_heard 26 = .ok (.iload 4, 2) := by decide +kernel
theorem dX7_heard_28 : decode cX7_heard 28 = .ok (.iconst 1, 1) := by decide +kernel
theorem dX7_heard_29 : decode cX7_heard 29 = .ok (.iadd, 1) := by decide +kernel
theorem dX7_heard_30 : decode cX7_heard 30 = .ok (.iaload, 1) := by decide +kernel
theorem dX7_heard_31 : decode cX7_heard 31 = .ok (.istore 5, 2) := by decide +kernel
theorem dX7_heard_33 : decode cX7_heard 33 = .ok (.aload_n 0, 1) := by decide +kernel
theorem dX7_heard_34 : decode cX7_heard 34 = .ok (.getfield 153, 3) := by decide +kernel
theorem dX7_heard_37 : decode cX7_heard 37 = .ok (.istore 6, 2) := by decide +kernel
theorem dX7_heard_39 : decode cX7_heard 39 = .ok (.aload_n 0, 1) := by decide +kernel
theorem dX7_heard_40 : decode cX7_heard 40 = .ok (.iconst 0, 1) := by decide +kernel
theorem dX7_heard_41 : decode cX7_heard 41 = .ok (.putfield 142, 3) := by decide +kernel
theorem dX7_heard_44 : decode cX7_heard 44 = .ok (.aload_n 0, 1) := by decide +kernel
theorem dX7_heard_45 : decode cX7_heard 45 = .ok (.getfield 71, 3) := by decide +kernel
theorem dX7_heard_48 : decode cX7_heard 48 = .ok (.iload_n 2, 1) := by decide +kernel
theorem dX7_heard_49 : decode cX7_heard 49 = .ok (.iaload, 1) := by decide +kernel
theorem dX7_heard_50 : decode cX7_heard 50 = .ok (.iconst 1, 1) := by decide +kernel
theorem dX7_heard_51 : decode cX7_heard 51 = .ok (.if_icmp .eq 13, 3) := by decide +kernel
theorem dX7_heard_54 : decode cX7_heard 54 = .ok (.aload_n 0, 1) := by decide +kernel
theorem dX7_heard_55 : decode cX7_heard 55 = .ok (.getfield 71, 3) := by decide +kernel
theorem dX7_heard_58 : decode cX7_heard 58 = .ok (.iload_n 2, 1) := by decide +kernel
theorem dX7_heard_59 : decode cX7_heard 59 = .ok (.iaload, 1) := by decide +kernel
theorem dX7_heard_60 : decode cX7_heard 60 = .ok (.iconst 2, 1) := by decide +kernel
theorem dX7_heard_61 : decode cX7_heard 61 = .ok (.if_icmp .ne 80, 3) := by decide +kernel
theorem dX7_heard_64 : decode cX7_heard 64 = .ok (.aload_n 0, 1) := by decide +kernel
theorem dX7_heard_65 : decode cX7_heard 65 = .ok (.getfield 71, 3) := by decide +kernel
theorem dX7_heard_68 : decode cX7_heard 68 = .ok (.iload_n 2, 1) := by decide +kernel
theorem dX7_heard_69 : decode cX7_heard 69 = .ok (.iaload, 1) := by decide +kernel
theorem dX7_heard_70 : decode cX7_heard 70 = .ok (.iconst 1, 1) := by decide +kernel
theorem dX7_heard_71 : decode cX7_heard 71 = .ok (.if_icmp .ne 8, 3) := by decide +kernel
theorem dX7_heard_74 : decode cX7_heard 74 = .ok (.iload 5, 2) := by decide +kernel
theorem dX7_heard_76 : decode cX7_heard 76 = .ok (.goto 12, 3) := by decide +kernel
theorem dX7_heard_79 : decode cX7_heard 79 = .ok (.aload_n 0, 1) := by decide +kernel
theorem dX7_heard_80 : decode cX7_heard 80 = .ok (.getfield 35, 3) := by decide +kernel
theorem dX7_heard_83 : decode cX7_heard 83 = .ok (.iload 4, 2) := by decide +kernel
theorem dX7_heard_85 : decode cX7_heard 85 = .ok (.iconst 2, 1) := by decide +kernel
theorem dX7_heard_86 : decode cX7_heard 86 = .ok (.iadd, 1) := by decide +kernel
theorem dX7_heard_87 : decode cX7_heard 87 = .ok (.iaload, 1) := by decide +kernel
theorem dX7_heard_88 : decode cX7_heard 88 = .ok (.istore 7, 2) := by decide +kernel
theorem dX7_heard_90 : decode cX7_heard 90 = .ok (.iload 6, 2) := by decide +kernel
theorem dX7_heard_92 : decode cX7_heard 92 = .ok (.ifCond .ne 19, 3) := by decide +kernel
theorem dX7_heard_95 : decode cX7_heard 95 = .ok (.aload_n 0, 1) := by decide +kernel
theorem dX7_heard_96 : decode cX7_heard 96 = .ok (.getfield 44, 3) := by decide +kernel
theorem dX7_heard_99 : decode cX7_heard 99 = .ok (.bipush 16, 2) := by decide +kernel
theorem dX7_heard_101 : decode cX7_heard 101 = .ok (.iload_n 1, 1) := by decide +kernel
theorem dX7_heard_102 : decode cX7_heard 102 = .ok (.imul, 1) := by decide +kernel
theorem dX7_heard_103 : decode cX7_heard 103 = .ok (.iload 7, 2) := by decide +kernel
theorem dX7_heard_105 : decode cX7_heard 105 = .ok (.iadd, 1) := by decide +kernel
theorem dX7_heard_106 : decode cX7_heard 106 = .ok (.dup2, 1) := by decide +kernel
theorem dX7_heard_107 : decode cX7_heard 107 = .ok (.iaload, 1) := by decide +kernel
theorem dX7_heard_108 : decode cX7_heard 108 = .ok (.iconst 1, 1) := by decide +kernel
theorem dX7_heard_109 : decode cX7_heard 109 = .ok (.iadd, 1) := by decide +kernel
theorem dX7_heard_110 : decode cX7_heard 110 = .ok (.iastore, 1) := by decide +kernel
theorem dX7_heard_111 : decode cX7_heard 111 = .ok (.aload_n 0, 1) := by decide +kernel
theorem dX7_heard_112 : decode cX7_heard 112 = .ok (.getfield 71, 3) := by decide +kernel
theorem dX7_heard_115 : decode cX7_heard 115 = .ok (.iload_n 2, 1) := by decide +kernel
theorem dX7_heard_116 : decode cX7_heard 116 = .ok (.iaload, 1) := by decide +kernel
theorem dX7_heard_117 : decode cX7_heard 117 = .ok (.iconst 1, 1) := by decide +kernel
theorem dX7_heard_118 : decode cX7_heard 118 = .ok (.if_icmp .ne 8, 3) := by decide +kernel
theorem dX7_heard_121 : decode cX7_heard 121 = .ok (.iload 6, 2) := by decide +kernel
theorem dX7_heard_123 : decode cX7_heard 123 = .ok (.goto 13, 3) := by decide +kernel
theorem dX7_heard_126 : decode cX7_heard 126 = .ok (.aload_n 0, 1) := by decide +kernel
theorem dX7_heard_127 : decode cX7_heard 127 = .ok (.iload_n 1, 1) := by decide +kernel
theorem dX7_heard_128 : decode cX7_heard 128 = .ok (.iload_n 3, 1) := by decide +kernel
theorem dX7_heard_129 : decode cX7_heard 129 = .ok (.iload 5, 2) := by decide +kernel
theorem dX7_heard_131 : decode cX7_heard 131 = .ok (.iload 6, 2) := by decide +kernel
theorem dX7_heard_133 : decode cX7_heard 133 = .ok (.invokevirtual 163, 3) := by decide +kernel
theorem dX7_heard_136 : decode cX7_heard 136 = .ok (.istore 6, 2) := by decide +kernel
theorem dX7_heard_138 : decode cX7_heard 138 = .ok (.goto 57, 3) := by decide +kernel
theorem dX7_heard_141 : decode cX7_heard 141 = .ok (.aload_n 0, 1) := by decide +kernel
theorem dX7_heard_142 : decode cX7_heard 142 = .ok (.getfield 71, 3) := by decide +kernel
theorem dX7_heard_145 : decode cX7_heard 145 = .ok (.iload_n 2, 1) := by decide +kernel
theorem dX7_heard_146 : decode cX7_heard 146 = .ok (.iaload, 1) := by decide +kernel
theorem dX7_heard_147 : decode cX7_heard 147 = .ok (.iconst 3, 1) := by decide +kernel
theorem dX7_heard_148 : decode cX7_heard 148 = .ok (.if_icmp .ne 47, 3) := by decide +kernel
theorem dX7_heard_151 : decode cX7_heard 151 = .ok (.iload 6, 2) := by decide +kernel
theorem dX7_heard_153 : decode cX7_heard 153 = .ok (.ifCond .ne 42, 3) := by decide +kernel
theorem dX7_heard_156 : decode cX7_heard 156 = .ok (.aload_n 0, 1) := by decide +kernel
theorem dX7_heard_157 : decode cX7_heard 157 = .ok (.iload_n 1, 1) := by decide +kernel
theorem dX7_heard_158 : decode cX7_heard 158 = .ok (.iload_n 3, 1) := by decide +kernel
theorem dX7_heard_159 : decode cX7_heard 159 = .ok (.iload 5, 2) := by decide +kernel
theorem dX7_heard_161 : decode cX7_heard 161 = .ok (.aload_n 0, 1) := by decide +kernel
theorem dX7_heard_162 : decode cX7_heard 162 = .ok (.iload_n 1, 1) := by decide +kernel
theorem dX7_heard_163 : decode cX7_heard 163 = .ok (.iload_n 3, 1) := by decide +kernel
theorem dX7_heard_164 : decode cX7_heard 164 = .ok (.iload 5, 2) := by decide +kernel
theorem dX7_heard_166 : decode cX7_heard 166 = .ok (.invokevirtual 167, 3) := by decide +kernel
theorem dX7_heard_169 : decode cX7_heard 169 = .ok (.aload_n 0, 1) := by decide +kernel
theorem dX7_heard_170 : decode cX7_heard 170 = .ok (.iload_n 1, 1) := by decide +kernel
theorem dX7_heard_171 : decode cX7_heard 171 = .ok (.aload_n 0, 1) := by decide +kernel
theorem dX7_heard_172 : decode cX7_heard 172 = .ok (.getfield 77, 3) := by decide +kernel
theorem dX7_heard_175 : decode cX7_heard 175 = .ok (.iload_n 2, 1) := by decide +kernel
theorem dX7_heard_176 : decode cX7_heard 176 = .ok (.iaload, 1) := by decide +kernel
theorem dX7_heard_177 : decode cX7_heard 177 = .ok (.aload_n 0, 1) := by decide +kernel
theorem dX7_heard_178 : decode cX7_heard 178 = .ok (.getfield 35, 3) := by decide +kernel
theorem dX7_heard_181 : decode cX7_heard 181 = .ok (.iload 4, 2) := by decide +kernel
theorem dX7_heard_183 : decode cX7_heard 183 = .ok (.iconst 3, 1) := by decide +kernel
theorem dX7_heard_184 : decode cX7_heard 184 = .ok (.iadd, 1) := by decide +kernel
theorem dX7_heard_185 : decode cX7_heard 185 = .ok (.iaload, 1) := by decide +kernel
theorem dX7_heard_186 : decode cX7_heard 186 = .ok (.invokevirtual 167, 3) := by decide +kernel
theorem dX7_heard_189 : decode cX7_heard 189 = .ok (.iadd, 1) := by decide +kernel
theorem dX7_heard_190 : decode cX7_heard 190 = .ok (.invokevirtual 163, 3) := by decide +kernel
theorem dX7_heard_193 : decode cX7_heard 193 = .ok (.istore 6, 2) := by decide +kernel
theorem dX7_heard_195 : decode cX7_heard 195 = .ok (.iload 6, 2) := by decide +kernel
theorem dX7_heard_197 : decode cX7_heard 197 = .ok (.ifCond .eq 10, 3) := by decide +kernel
theorem dX7_heard_200 : decode cX7_heard 200 = .ok (.aload_n 0, 1) := by decide +kernel
theorem dX7_heard_201 : decode cX7_heard 201 = .ok (.iload_n 1, 1) := by decide +kernel
theorem dX7_heard_202 : decode cX7_heard 202 = .ok (.iload 6, 2) := by decide +kernel
theorem dX7_heard_204 : decode cX7_heard 204 = .ok (.invokevirtual 171, 3) := by decide +kernel
theorem dX7_heard_207 : decode cX7_heard 207 = .ok (.return_, 1) := by decide +kernel
theorem dX7_goes_0 : decode cX7_goes 0 = .ok (.aload_n 0, 1) := by decide +kernel
theorem dX7_goes_1 : decode cX7_goes 1 = .ok (.getfield 135, 3) := by decide +kernel
theorem dX7_goes_4 : decode cX7_goes 4 = .ok (.iconst 1, 1) := by decide +kernel
theorem dX7_goes_5 : decode cX7_goes 5 = .ok (.isub, 1) := by decide +kernel
theorem dX7_goes_6 : decode cX7_goes 6 = .ok (.istore_n 2, 1) := by decide +kernel
theorem dX7_goes_7 : decode cX7_goes 7 = .ok (.aload_n 0, 1) := by decide +kernel
theorem dX7_goes_8 : decode cX7_goes 8 = .ok (.getfield 65, 3) := by decide +kernel
theorem dX7_goes_11 : decode cX7_goes 11 = .ok (.iload_n 2, 1) := by decide +kernel
theorem dX7_goes_12 : decode cX7_goes 12 = .ok (.iaload, 1) := by decide +kernel
theorem dX7_goes_13 : decode cX7_goes 13 = .ok (.istore_n 3, 1) := by decide +kernel
theorem dX7_goes_14 : decode cX7_goes 14 = .ok (.aload_n 0, 1) := by decide +kernel
theorem dX7_goes_15 : decode cX7_goes 15 = .ok (.getfield 68, 3) := by decide +kernel
theorem dX7_goes_18 : decode cX7_goes 18 = .ok (.iload_n 2, 1) := by decide +kernel
theorem dX7_goes_19 : decode cX7_goes 19 = .ok (.iaload, 1) := by decide +kernel
theorem dX7_goes_20 : decode cX7_goes 20 = .ok (.istore 4, 2) := by decide +kernel
theorem dX7_goes_22 : decode cX7_goes 22 = .ok (.aload_n 0, 1) := by decide +kernel
theorem dX7_goes_23 : decode cX7_goes 23 = .ok (.getfield 68, 3) := by decide +kernel
theorem dX7_goes_26 : decode cX7_goes 26 = .ok (.iload_n 2, 1) := by decide +kernel
theorem dX7_goes_27 : decode cX7_goes 27 = .ok (.dup2, 1) := by decide +kernel
theorem dX7_goes_28 : decode cX7_goes 28 = .ok (.iaload, 1) := by decide +kernel
theorem dX7_goes_29 : decode cX7_goes 29 = .ok (.iconst 1, 1) := by decide +kernel
theorem dX7_goes_30 : decode cX7_goes 30 = .ok (.iadd, 1) := by decide +kernel
theorem dX7_goes_31 : decode cX7_goes 31 = .ok (.iastore, 1) := by decide +kernel
theorem dX7_goes_32 : decode cX7_goes 32 = .ok (.iload 4, 2) := by decide +kernel
theorem dX7_goes_34 : decode cX7_goes 34 = .ok (.ifCond .ne 34, 3) := by decide +kernel
theorem dX7_goes_37 : decode cX7_goes 37 = .ok (.aload_n 0, 1) := by decide +kernel
theorem dX7_goes_38 : decode cX7_goes 38 = .ok (.getfield 13, 3) := by decide +kernel
theorem dX7_goes_41 : decode cX7_goes 41 = .ok (.iload_n 3, 1) := by decide +kernel
theorem dX7_goes_42 : decode cX7_goes 42 = .ok (.iaload, 1) := by decide +kernel
theorem dX7_goes_43 : decode cX7_goes 43 = .ok (.iconst (-1), 1) := by decide +kernel
theorem dX7_goes_44 : decode cX7_goes 44 = .ok (.if_icmp .eq 123, 3) := by decide +kernel
theorem dX7_goes_47 : decode cX7_goes 47 = .ok (.aload_n 0, 1) := by decide +kernel
theorem dX7_goes_48 : decode cX7_goes 48 = .ok (.getfield 71, 3) := by decide +kernel
theorem dX7_goes_51 : decode cX7_goes 51 = .ok (.iload_n 2, 1) := by decide +kernel
theorem dX7_goes_52 : decode cX7_goes 52 = .ok (.iconst 0, 1) := by decide +kernel
theorem dX7_goes_53 : decode cX7_goes 53 = .ok (.iastore, 1) := by decide +kernel
theorem dX7_goes_54 : decode cX7_goes 54 = .ok (.aload_n 0, 1) := by decide +kernel
theorem dX7_goes_55 : decode cX7_goes 55 = .ok (.iload_n 1, 1) := by decide +kernel
theorem dX7_goes_56 : decode cX7_goes 56 = .ok (.aload_n 0, 1) := by decide +kernel
theorem dX7_goes_57 : decode cX7_goes 57 = .ok (.getfield 13, 3) := by decide +kernel
theorem dX7_goes_60 : decode cX7_goes 60 = .ok (.iload_n 3, 1) := by decide +kernel
theorem dX7_goes_61 : decode cX7_goes 61 = .ok (.iaload, 1) := by decide +kernel
theorem dX7_goes_62 : decode cX7_goes 62 = .ok (.invokevirtual 138, 3) := by decide +kernel
theorem dX7_goes_65 : decode cX7_goes 65 = .ok (.goto 102, 3) := by decide +kernel
theorem dX7_goes_68 : decode cX7_goes 68 = .ok (.iload 4, 2) := by decide +kernel
theorem dX7_goes_70 : decode cX7_goes 70 = .ok (.aload_n 0, 1) := by decide +kernel
theorem dX7_goes_71 : decode cX7_goes 71 = .ok (.getfield 83, 3) := by decide +kernel
theorem dX7_goes_74 : decode cX7_goes 74 = .ok (.iload_n 2, 1) := by decide +kernel
theorem dX7_goes_75 : decode cX7_goes 75 = .ok (.iaload, 1) := by decide +kernel
theorem dX7_goes_76 : decode cX7_goes 76 = .ok (.if_icmp .gt 32, 3) := by decide +kernel
theorem dX7_goes_79 : decode cX7_goes 79 = .ok (.aload_n 0, 1) := by decide +kernel
theorem dX7_goes_80 : decode cX7_goes 80 = .ok (.getfield 71, 3) := by decide +kernel
theorem dX7_goes_83 : decode cX7_goes 83 = .ok (.iload_n 2, 1) := by decide +kernel
theorem dX7_goes_84 : decode cX7_goes 84 = .ok (.iconst 0, 1) := by decide +kernel
theorem dX7_goes_85 : decode cX7_goes 85 = .ok (.iastore, 1) := by decide +kernel
theorem dX7_goes_86 : decode cX7_goes 86 = .ok (.aload_n 0, 1) := by decide +kernel
theorem dX7_goes_87 : decode cX7_goes 87 = .ok (.iload_n 1, 1) := by decide +kernel
theorem dX7_goes_88 : decode cX7_goes 88 = .ok (.aload_n 0, 1) := by decide +kernel
theorem dX7_goes_89 : decode cX7_goes 89 = .ok (.getfield 80, 3) := by decide +kernel
theorem dX7_goes_92 : decode cX7_goes 92 = .ok (.bipush 16, 2) := by decide +kernel
theorem dX7_goes_94 : decode cX7_goes 94 = .ok (.iload_n 2, 1) := by decide +kernel
theorem dX7_goes_95 : decode cX7_goes 95 = .ok (.imul, 1) := by decide +kernel
theorem dX7_goes_96 : decode cX7_goes 96 = .ok (.iload 4, 2) := by decide +kernel
theorem dX7_goes_98 : decode cX7_goes 98 = .ok (.iadd, 1) := by decide +kernel
theorem dX7_goes_99 : decode cX7_goes 99 = .ok (.iconst 1, 1) := by decide +kernel
theorem dX7_goes_100 : decode cX7_goes 100 = .ok (.isub, 1) := by decide +kernel
theorem dX7_goes_101 : decode cX7_goes 101 = .ok (.iaload, 1) := by decide +kernel
theorem dX7_goes_102 : decode cX7_goes 102 = .ok (.invokevirtual 138, 3) := by decide +kernel
theorem dX7_goes_105 : decode cX7_goes 105 = .ok (.goto 62, 3) := by decide +kernel
theorem dX7_goes_108 : decode cX7_goes 108 = .ok (.iload 4, 2) := by decide +kernel
theorem dX7_goes_110 : decode cX7_goes 110 = .ok (.iconst 1, 1) := by decide +kernel
theorem dX7_goes_111 : decode cX7_goes 111 = .ok (.isub, 1) := by decide +kernel
theorem dX7_goes_112 : decode cX7_goes 112 = .ok (.aload_n 0, 1) := by decide +kernel
theorem dX7_goes_113 : decode cX7_goes 113 = .ok (.getfield 83, 3) := by decide +kernel
theorem dX7_goes_116 : decode cX7_goes 116 = .ok (.iload_n 2, 1) := by decide +kernel
theorem dX7_goes_117 : decode cX7_goes 117 = .ok (.iaload, 1) := by decide +kernel
theorem dX7_goes_118 : decode cX7_goes 118 = .ok (.isub, 1) := by decide +kernel
theorem dX7_goes_119 : decode cX7_goes 119 = .ok (.aload_n 0, 1) := by decide +kernel
theorem dX7_goes_120 : decode cX7_goes 120 = .ok (.getfield 32, 3) := by decide +kernel
theorem dX7_goes_123 : decode cX7_goes 123 = .ok (.iload_n 3, 1) := by decide +kernel
theorem dX7_goes_124 : decode cX7_goes 124 = .ok (.iaload, 1) := by decide +kernel
theorem dX7_goes_125 : decode cX7_goes 125 = .ok (.if_icmp .ge 36, 3) := by decide +kernel
theorem dX7_goes_128 : decode cX7_goes 128 = .ok (.aload_n 0, 1) := by decide +kernel
theorem dX7_goes_129 : decode cX7_goes 129 = .ok (.getfield 74, 3) := by decide +kernel
theorem dX7_goes_132 : decode cX7_goes 132 = .ok (.iload_n 2, 1) := by decide +kernel
theorem dX7_goes_133 : decode cX7_goes 133 = .ok (.bipush 32, 2) := by decide +kernel
theorem dX7_goes_135 : decode cX7_goes 135 = .ok (.iload_n 3, 1) := by decide +kernel
theorem dX7_goes_136 : decode cX7_goes 136 = .ok (.imul, 1) := by decide +kernel
theorem dX7_goes_137 : decode cX7_goes 137 = .ok (.iconst 4, 1) := by decide +kernel
theorem dX7_goes_138 : decode cX7_goes 138 = .ok (.iload 4, 2) := by decide +kernel
theorem dX7_goes_140 : decode cX7_goes 140 = .ok (.iconst 1, 1) := by decide +kernel
theorem dX7_goes_141 : decode cX7_goes 141 = .ok (.isub, 1) := by decide +kernel
theorem dX7_goes_142 : decode cX7_goes 142 = .ok (.aload_n 0, 1) := by decide +kernel
theorem dX7_goes_143 : decode cX7_goes 143 = .ok (.getfield 83, 3) := by decide +kernel
theorem dX7_goes_146 : decode cX7_goes 146 = .ok (.iload_n 2, 1) := by decide +kernel
theorem dX7_goes_147 : decode cX7_goes 147 = .ok (.iaload, 1) := by decide +kernel
theorem dX7_goes_148 : decode cX7_goes 148 = .ok (.isub, 1) := by decide +kernel
theorem dX7_goes_149 : decode cX7_goes 149 = .ok (.imul, 1) := by decide +kernel
theorem dX7_goes_150 : decode cX7_goes 150 = .ok (.iadd, 1) := by decide +kernel
theorem dX7_goes_151 : decode cX7_goes 151 = .ok (.iastore, 1) := by decide +kernel
theorem dX7_goes_152 : decode cX7_goes 152 = .ok (.aload_n 0, 1) := by decide +kernel
theorem dX7_goes_153 : decode cX7_goes 153 = .ok (.iload_n 1, 1) := by decide +kernel
theorem dX7_goes_154 : decode cX7_goes 154 = .ok (.iload_n 2, 1) := by decide +kernel
theorem dX7_goes_155 : decode cX7_goes 155 = .ok (.invokevirtual 174, 3) := by decide +kernel
theorem dX7_goes_158 : decode cX7_goes 158 = .ok (.goto 9, 3) := by decide +kernel
theorem dX7_goes_161 : decode cX7_goes 161 = .ok (.aload_n 0, 1) := by decide +kernel
theorem dX7_goes_162 : decode cX7_goes 162 = .ok (.iload_n 1, 1) := by decide +kernel
theorem dX7_goes_163 : decode cX7_goes 163 = .ok (.iconst 0, 1) := by decide +kernel
theorem dX7_goes_164 : decode cX7_goes 164 = .ok (.invokevirtual 171, 3) := by decide +kernel
theorem dX7_goes_167 : decode cX7_goes 167 = .ok (.return_, 1) := by decide +kernel
theorem dX7_does_0 : decode cX7_does 0 = .ok (.aload_n 0, 1) := by decide +kernel
theorem dX7_does_1 : decode cX7_does 1 = .ok (.getfield 74, 3) := by decide +kernel
theorem dX7_does_4 : decode cX7_does 4 = .ok (.iload_n 2, 1) := by decide +kernel
theorem dX7_does_5 : decode cX7_does 5 = .ok (.iaload, 1) := by decide +kernel
theorem dX7_does_6 : decode cX7_does 6 = .ok (.istore_n 3, 1) := by decide +kernel
theorem dX7_does_7 : decode cX7_does 7 = .ok (.aload_n 0, 1) := by decide +kernel
theorem dX7_does_8 : decode cX7_does 8 = .ok (.getfield 65, 3) := by decide +kernel
theorem dX7_does_11 : decode cX7_does 11 = .ok (.iload_n 2, 1) := by decide +kernel
theorem dX7_does_12 : decode cX7_does 12 = .ok (.iaload, 1) := by decide +kernel
theorem dX7_does_13 : decode cX7_does 13 = .ok (.istore 4, 2) := by decide +kernel
theorem dX7_does_15 : decode cX7_does 15 = .ok (.aload_n 0, 1) := by decide +kernel
theorem dX7_does_16 : decode cX7_does 16 = .ok (.getfield 35, 3) := by decide +kernel
theorem dX7_does_19 : decode cX7_does 19 = .ok (.iload_n 3, 1) := by decide +kernel
theorem dX7_does_20 : decode cX7_does 20 = .ok (.iaload, 1) := by decide +kernel
theorem dX7_does_21 : decode cX7_does 21 = .ok (.istore 5, 2) := by decide +kernel
theorem dX7_does_23 : decode cX7_does 23 = .ok (.aload_n 0, 1) := by decide +kernel
theorem dX7_does_24 : decode cX7_does 24 = .ok (.getfield 35, 3) := by decide +kernel
theorem dX7_does_27 : decode cX7_does 27 = .ok (.iload_n 3, 1) := by decide +kernel
theorem dX7_does_28 : decode cX7_does 28 = .ok (.iconst 1, 1) := by decide +kernel
theorem dX7_does_29 : decode cX7_does 29 = .ok (.iadd, 1) := by decide +kernel
theorem dX7_does_30 : decode cX7_does 30 = .ok (.iaload, 1) := by decide +kernel
theorem dX7_does_31 : decode cX7_does 31 = .ok (.istore 6, 2) := by decide +kernel
theorem dX7_does_33 : decode cX7_does 33 = .ok (.iload 5, 2) := by decide +kernel
theorem dX7_does_35 : decode cX7_does 35 = .ok (.iconst 4, 1) := by decide +kernel
theorem dX7_does_36 : decode cX7_does 36 = .ok (.if_icmp .ne 10, 3) := by decide +kernel
theorem dX7_does_39 : decode cX7_does 39 = .ok (.iconst 1, 1) := by decide +kernel
theorem dX7_does_40 : decode cX7_does 40 = .ok (.iload 6, 2) := by decide +kernel
theorem dX7_does_42 : decode cX7_does 42 = .ok (.iadd, 1) := by decide +kernel
theorem dX7_does_43 : decode cX7_does 43 = .ok (.goto 4, 3) := by decide +kernel
theorem dX7_does_46 : decode cX7_does 46 = .ok (.iconst 1, 1) := by decide +kernel
theorem dX7_does_47 : decode cX7_does 47 = .ok (.istore 7, 2) := by decide +kernel
theorem dX7_does_49 : decode cX7_does 49 = .ok (.aload_n 0, 1) := by decide +kernel
theorem dX7_does_50 : decode cX7_does 50 = .ok (.getfield 47, 3) := by decide +kernel
theorem dX7_does_53 : decode cX7_does 53 = .ok (.iload_n 1, 1) := by decide +kernel
theorem dX7_does_54 : decode cX7_does 54 = .ok (.iaload, 1) := by decide +kernel
theorem dX7_does_55 : decode cX7_does 55 = .ok (.iload 7, 2) := by decide +kernel
theorem dX7_does_57 : decode cX7_does 57 = .ok (.if_icmp .ge 8, 3) := by decide +kernel
theorem dX7_does_60 : decode cX7_does 60 = .ok (.bipush 17, 2) := by decide +kernel
theorem dX7_does_62 : decode cX7_does 62 = .ok (.goto 4, 3) := by decide +kernel
theorem dX7_does_65 : decode cX7_does 65 = .ok (.iconst 0, 1) := by decide +kernel
theorem dX7_does_66 : decode cX7_does 66 = .ok (.istore 8, 2) := by decide +kernel
theorem dX7_does_68 : decode cX7_does 68 = .ok (.iload 8, 2) := by decide +kernel
theorem dX7_does_70 : decode cX7_does 70 = .ok (.ifCond .ne 178, 3) := by decide +kernel
theorem dX7_does_73 : decode cX7_does 73 = .ok (.aload_n 0, 1) := by decide +kernel
theorem dX7_does_74 : decode cX7_does 74 = .ok (.getfield 47, 3) := by decide +kernel
theorem dX7_does_77 : decode cX7_does 77 = .ok (.iload_n 1, 1) := by decide +kernel
theorem dX7_does_78 : decode cX7_does 78 = .ok (.dup2, 1) := by decide +kernel
theorem dX7_does_79 : decode cX7_does 79 = .ok (.iaload, 1) := by decide +kernel
theorem dX7_does_80 : decode cX7_does 80 = .ok (.iload 7, 2) := by decide +kernel
theorem dX7_does_82 : decode cX7_does 82 = .ok (.isub, 1) := by decide +kernel
theorem dX7_does_83 : decode cX7_does 83 = .ok (.iastore, 1) := by decide +kernel
theorem dX7_does_84 : decode cX7_does 84 = .ok (.aload_n 0, 1) := by decide +kernel
theorem dX7_does_85 : decode cX7_does 85 = .ok (.dup, 1) := by decide +kernel
theorem dX7_does_86 : decode cX7_does 86 = .ok (.getfield 117, 3) := by decide +kernel
theorem dX7_does_89 : decode cX7_does 89 = .ok (.iload 7, 2) := by decide +kernel
theorem dX7_does_91 : decode cX7_does 91 = .ok (.iadd, 1) := by decide +kernel
theorem dX7_does_92 : decode cX7_does 92 = .ok (.putfield 117, 3) := by decide +kernel
theorem dX7_does_95 : decode cX7_does 95 = .ok (.iload 5, 2) := by decide +kernel
theorem dX7_does_97 : decode cX7_does 97 = .ok (.ifCond .ne 25, 3) := by decide +kernel
theorem dX7_does_100 : decode cX7_does 100 = .ok (.aload_n 0, 1) := by decide +kernel
theorem dX7_does_101 : decode cX7_does 101 = .ok (.iload_n 1, 1) := by decide +kernel
theorem dX7_does_102 : decode cX7_does 102 = .ok (.iload 4, 2) := by decide +kernel
theorem dX7_does_104 : decode cX7_does 104 = .ok (.iload 6, 2) := by decide +kernel
theorem dX7_does_106 : decode cX7_does 106 = .ok (.aload_n 0, 1) := by decide +kernel
theorem dX7_does_107 : decode cX7_does 107 = .ok (.getfield 35, 3) := by decide +kernel
theorem dX7_does_110 : decode cX7_does 110 = .ok (.iload_n 3, 1) := by decide +kernel
theorem dX7_does_111 : decode cX7_does 111 = .ok (.iconst 2, 1) := by decide +kernel
theorem dX7_does_112 : decode cX7_does 112 = .ok (.iadd, 1) := by decide +kernel
theorem dX7_does_113 : decode cX7_does 113 = .ok (.iaload, 1) := by decide +kernel
theorem dX7_does_114 : decode cX7_does 114 = .ok (.invokevirtual 163, 3) := by decide +kernel
theorem dX7_does_117 : decode cX7_does 117 = .ok (.istore 8, 2) := by decide +kernel
theorem dX7_does_119 : decode cX7_does 119 = .ok (.goto 129, 3) := by decide +kernel
theorem dX7_does_122 : decode cX7_does 122 = .ok (.iload 5, 2) := by decide +kernel
theorem dX7_does_124 : decode cX7_does 124 = .ok (.iconst 1, 1) := by decide +kernel
theorem dX7_does_125 : decode cX7_does 125 = .ok (.if_icmp .ne 14, 3) := by decide +kernel
theorem dX7_does_128 : decode cX7_does 128 = .ok (.aload_n 0, 1) := by decide +kernel
theorem dX7_does_129 : decode cX7_does 129 = .ok (.iload_n 1, 1) := by decide +kernel
theorem dX7_does_130 : decode cX7_does 130 = .ok (.iload_n 2, 1) := by decide +kernel
theorem dX7_does_131 : decode cX7_does 131 = .ok (.invokevirtual 177, 3) := by decide +kernel
theorem dX7_does_134 : decode cX7_does 134 = .ok (.istore 8, 2) := by decide +kernel
theorem dX7_does_136 : decode cX7_does 136 = .ok (.goto 112, 3) := by decide +kernel
theorem dX7_does_139 : decode cX7_does 139 = .ok (.iload 5, 2) := by decide +kernel
theorem dX7_does_141 : decode cX7_does 141 = .ok (.iconst 2, 1) := by decide +kernel
theorem dX7_does_142 : decode cX7_does 142 = .ok (.if_icmp .eq 10, 3) := by decide +kernel
theorem dX7_does_145 : decode cX7_does 145 = .ok (.iload 5, 2) := by decide +kernel
theorem dX7_does_147 : decode cX7_does 147 = .ok (.bipush 6, 2) := by decide +kernel
theorem dX7_does_149 : decode cX7_does 149 = .ok (.if_icmp .ne 47, 3) := by decide +kernel
theorem dX7_does_152 : decode cX7_does 152 = .ok (.aload_n 0, 1) := by decide +kernel
theorem dX7_does_153 : decode cX7_does 153 = .ok (.getfield 71, 3) := by decide +kernel
theorem dX7_does_156 : decode cX7_does 156 = .ok (.iload_n 2, 1) := by decide +kernel
theorem dX7_does_157 : decode cX7_does 157 = .ok (.iload 5, 2) := by decide +kernel
theorem dX7_does_159 : decode cX7_does 159 = .ok (.iconst 2, 1) := by decide +kernel
theorem dX7_does_160 : decode cX7_does 160 = .ok (.if_icmp .ne 7, 3) := by decide +kernel
theorem dX7_does_163 : decode cX7_does 163 = .ok (.iconst 1, 1) := by decide +kernel
theorem dX7_does_164 : decode cX7_does 164 = .ok (.goto 4, 3) := by decide +kernel
theorem dX7_does_167 : decode cX7_does 167 = .ok (.iconst 2, 1) := by decide +kernel
theorem dX7_does_168 : decode cX7_does 168 = .ok (.iastore, 1) := by decide +kernel
theorem dX7_does_169 : decode cX7_does 169 = .ok (.aload_n 0, 1) := by decide +kernel
theorem dX7_does_170 : decode cX7_does 170 = .ok (.iload_n 1, 1) := by decide +kernel
theorem dX7_does_171 : decode cX7_does 171 = .ok (.iload 5, 2) := by decide +kernel
theorem dX7_does_173 : decode cX7_does 173 = .ok (.iconst 2, 1) := by decide +kernel
theorem dX7_does_174 : decode cX7_does 174 = .ok (.if_icmp .ne 8, 3) := by decide +kernel
theorem dX7_does_177 : decode cX7_does 177 = .ok (.iload 6, 2) := by decide +kernel
theorem dX7_does_179 : decode cX7_does 179 = .ok (.goto 11, 3) := by decide +kernel
theorem dX7_does_182 : decode cX7_does 182 = .ok (.aload_n 0, 1) := by decide +kernel
theorem dX7_does_183 : decode cX7_does 183 = .ok (.getfield 35, 3) := by decide +kernel
theorem dX7_does_186 : decode cX7_does 186 = .ok (.iload_n 3, 1) := by decide +kernel
theorem dX7_does_187 : decode cX7_does 187 = .ok (.iconst 2, 1) := by decide +kernel
theorem dX7_does_188 : decode cX7_does 188 = .ok (.iadd, 1) := by decide +kernel
theorem dX7_does_189 : decode cX7_does 189 = .ok (.iaload, 1) := by decide +kernel
theorem dX7_does_190 : decode cX7_does 190 = .ok (.invokevirtual 180, 3) := by decide +kernel
theorem dX7_does_193 : decode cX7_does 193 = .ok (.goto 55, 3) := by decide +kernel
theorem dX7_does_196 : decode cX7_does 196 = .ok (.iload 5, 2) := by decide +kernel
theorem dX7_does_198 : decode cX7_does 198 = .ok (.iconst 3, 1) := by decide +kernel
theorem dX7_does_199 : decode cX7_does 199 = .ok (.if_icmp .ne 13, 3) := by decide +kernel
theorem dX7_does_202 : decode cX7_does 202 = .ok (.bipush 10, 2) := by decide +kernel
theorem dX7_does_204 : decode cX7_does 204 = .ok (.iload 6, 2) := by decide +kernel
theorem dX7_does_206 : decode cX7_does 206 = .ok (.iadd, 1) := by decide +kernel
theorem dX7_does_207 : decode cX7_does 207 = .ok (.istore 8, 2) := by decide +kernel
theorem dX7_does_209 : decode cX7_does 209 = .ok (.goto 39, 3) := by decide +kernel
theorem dX7_does_212 : decode cX7_does 212 = .ok (.iload 5, 2) := by decide +kernel
theorem dX7_does_214 : decode cX7_does 214 = .ok (.iconst 5, 1) := by decide +kernel
theorem dX7_does_215 : decode cX7_does 215 = .ok (.if_icmp .ne 33, 3) := by decide +kernel
theorem dX7_does_218 : decode cX7_does 218 = .ok (.aload_n 0, 1) := by decide +kernel
theorem dX7_does_219 : decode cX7_does 219 = .ok (.getfield 114, 3) := by decide +kernel
theorem dX7_does_222 : decode cX7_does 222 = .ok (.bipush 100, 2) := by decide +kernel
theorem dX7_does_224 : decode cX7_does 224 = .ok (.if_icmp .ge 24, 3) := by decide +kernel
theorem dX7_does_227 : decode cX7_does 227 = .ok (.aload_n 0, 1) := by decide +kernel
theorem dX7_does_228 : decode cX7_does 228 = .ok (.getfield 53, 3) := by decide +kernel
theorem dX7_does_231 : decode cX7_does 231 = .ok (.aload_n 0, 1) := by decide +kernel
theorem dX7_does_232 : decode cX7_does 232 = .ok (.getfield 114, 3) := by decide +kernel
theorem dX7_does_235 : decode cX7_does 235 = .ok (.iload 6, 2) := by decide +kernel
theorem dX7_does_237 : decode cX7_does 237 = .ok (.iastore, 1) := by decide +kernel
theorem dX7_does_238 : decode cX7_does 238 = .ok (.aload_n 0, 1) := by decide +kernel
theorem dX7_does_239 : decode cX7_does 239 = .ok (.dup, 1) := by decide +kernel
theorem dX7_does_240 : decode cX7_does 240 = .ok (.getfield 114, 3) := by decide +kernel
theorem dX7_does_243 : decode cX7_does 243 = .ok (.iconst 1, 1) := by decide +kernel
theorem dX7_does_244 : decode cX7_does 244 = .ok (.iadd, 1) := by decide +kernel
theorem dX7_does_245 : decode cX7_does 245 = .ok (.putfield 114, 3) := by decide +kernel
theorem dX7_does_248 : decode cX7_does 248 = .ok (.iload 8, 2) := by decide +kernel
theorem dX7_does_250 : decode cX7_does 250 = .ok (.ifCond .eq 10, 3) := by decide +kernel
theorem dX7_does_253 : decode cX7_does 253 = .ok (.aload_n 0, 1) := by decide +kernel
theorem dX7_does_254 : decode cX7_does 254 = .ok (.iload_n 1, 1) := by decide +kernel
theorem dX7_does_255 : decode cX7_does 255 = .ok (.iload 8, 2) := by decide +kernel
theorem dX7_does_257 : decode cX7_does 257 = .ok (.invokevirtual 171, 3) := by decide +kernel
theorem dX7_does_260 : decode cX7_does 260 = .ok (.return_, 1) := by decide +kernel
theorem dX7_make_0 : decode cX7_make 0 = .ok (.aload_n 0, 1) := by decide +kernel
theorem dX7_make_1 : decode cX7_make 1 = .ok (.iload_n 2, 1) := by decide +kernel
theorem dX7_make_2 : decode cX7_make 2 = .ok (.invokevirtual 127, 3) := by decide +kernel
theorem dX7_make_5 : decode cX7_make 5 = .ok (.ifCond .eq 21, 3) := by decide +kernel
theorem dX7_make_8 : decode cX7_make 8 = .ok (.aload_n 0, 1) := by decide +kernel
theorem dX7_make_9 : decode cX7_make 9 = .ok (.getfield 7, 3) := by decide +kernel
theorem dX7_make_12 : decode cX7_make 12 = .ok (.iload_n 2, 1) := by decide +kernel
theorem dX7_make_13 : decode cX7_make 13 = .ok (.iaload, 1) := by decide +kernel
theorem dX7_make_14 : decode cX7_make 14 = .ok (.ifCond .ne 12, 3) := by decide +kernel
theorem dX7_make_17 : decode cX7_make 17 = .ok (.aload_n 0, 1) := by decide +kernel
theorem dX7_make_18 : decode cX7_make 18 = .ok (.iload_n 1, 1) := by decide +kernel
theorem dX7_make_19 : decode cX7_make 19 = .ok (.iload_n 2, 1) := by decide +kernel
theorem dX7_make_20 : decode cX7_make 20 = .ok (.invokevirtual 138, 3) := by decide +kernel
theorem dX7_make_23 : decode cX7_make 23 = .ok (.goto 14, 3) := by decide +kernel
theorem dX7_make_26 : decode cX7_make 26 = .ok (.aload_n 0, 1) := by decide +kernel
theorem dX7_make_27 : decode cX7_make 27 = .ok (.iconst 1, 1) := by decide +kernel
theorem dX7_make_28 : decode cX7_make 28 = .ok (.putfield 142, 3) := by decide +kernel
theorem dX7_make_31 : decode cX7_make 31 = .ok (.aload_n 0, 1) := by decide +kernel
theorem dX7_make_32 : decode cX7_make 32 = .ok (.bipush 18, 2) := by decide +kernel
theorem dX7_make_34 : decode cX7_make 34 = .ok (.putfield 153, 3) := by decide +kernel
theorem dX7_make_37 : decode cX7_make 37 = .ok (.return_, 1) := by decide +kernel
theorem dX7_asksFor_0 : decode cX7_asksFor 0 = .ok (.aload_n 0, 1) := by decide +kernel
theorem dX7_asksFor_1 : decode cX7_asksFor 1 = .ok (.getfield 74, 3) := by decide +kernel
theorem dX7_asksFor_4 : decode cX7_asksFor 4 = .ok (.iload_n 2, 1) := by decide +kernel
theorem dX7_asksFor_5 : decode cX7_asksFor 5 = .ok (.iaload, 1) := by decide +kernel
theorem dX7_asksFor_6 : decode cX7_asksFor 6 = .ok (.istore_n 3, 1) := by decide +kernel
theorem dX7_asksFor_7 : decode cX7_asksFor 7 = .ok (.aload_n 0, 1) := by decide +kernel
theorem dX7_asksFor_8 : decode cX7_asksFor 8 = .ok (.getfield 35, 3) := by decide +kernel
theorem dX7_asksFor_11 : decode cX7_asksFor 11 = .ok (.iload_n 3, 1) := by decide +kernel
theorem dX7_asksFor_12 : decode cX7_asksFor 12 = .ok (.iconst 2, 1) := by decide +kernel
theorem dX7_asksFor_13 : decode cX7_asksFor 13 = .ok (.iadd, 1) := by decide +kernel
theorem dX7_asksFor_14 : decode cX7_asksFor 14 = .ok (.iaload, 1) := by decide +kernel
theorem dX7_asksFor_15 : decode cX7_asksFor 15 = .ok (.istore 4, 2) := by decide +kernel
theorem dX7_asksFor_17 : decode cX7_asksFor 17 = .ok (.aload_n 0, 1) := by decide +kernel
theorem dX7_asksFor_18 : decode cX7_asksFor 18 = .ok (.getfield 35, 3) := by decide +kernel
theorem dX7_asksFor_21 : decode cX7_asksFor 21 = .ok (.iload_n 3, 1) := by decide +kernel
theorem dX7_asksFor_22 : decode cX7_asksFor 22 = .ok (.iconst 3, 1) := by decide +kernel
theorem dX7_asksFor_23 : decode cX7_asksFor 23 = .ok (.iadd, 1) := by decide +kernel
theorem dX7_asksFor_24 : decode cX7_asksFor 24 = .ok (.iaload, 1) := by decide +kernel
theorem dX7_asksFor_25 : decode cX7_asksFor 25 = .ok (.istore 5, 2) := by decide +kernel
theorem dX7_asksFor_27 : decode cX7_asksFor 27 = .ok (.aload_n 0, 1) := by decide +kernel
theorem dX7_asksFor_28 : decode cX7_asksFor 28 = .ok (.iload 4, 2) := by decide +kernel
theorem dX7_asksFor_30 : decode cX7_asksFor 30 = .ok (.invokevirtual 127, 3) := by decide +kernel
theorem dX7_asksFor_33 : decode cX7_asksFor 33 = .ok (.ifCond .eq 14, 3) := by decide +kernel
theorem dX7_asksFor_36 : decode cX7_asksFor 36 = .ok (.aload_n 0, 1) := by decide +kernel
theorem dX7_asksFor_37 : decode cX7_asksFor 37 = .ok (.iload 4, 2) := by decide +kernel
theorem dX7_asksFor_39 : decode cX7_asksFor 39 = .ok (.iload 5, 2) := by decide +kernel
theorem dX7_asksFor_41 : decode cX7_asksFor 41 = .ok (.invokevirtual 183, 3) := by decide +kernel
theorem dX7_asksFor_44 : decode cX7_asksFor 44 = .ok (.goto 4, 3) := by decide +kernel
theorem dX7_asksFor_47 : decode cX7_asksFor 47 = .ok (.iconst (-1), 1) := by decide +kernel
theorem dX7_asksFor_48 : decode cX7_asksFor 48 = .ok (.istore 6, 2) := by decide +kernel
theorem dX7_asksFor_50 : decode cX7_asksFor 50 = .ok (.iload 6, 2) := by decide +kernel
theorem dX7_asksFor_52 : decode cX7_asksFor 52 = .ok (.iconst (-1), 1) := by decide +kernel
theorem dX7_asksFor_53 : decode cX7_asksFor 53 = .ok (.if_icmp .ne 6, 3) := by decide +kernel
theorem dX7_asksFor_56 : decode cX7_asksFor 56 = .ok (.bipush 18, 2) := by decide +kernel
theorem dX7_asksFor_58 : decode cX7_asksFor 58 = .ok (.ireturn, 1) := by decide +kernel
theorem dX7_asksFor_59 : decode cX7_asksFor 59 = .ok (.aload_n 0, 1) := by decide +kernel
theorem dX7_asksFor_60 : decode cX7_asksFor 60 = .ok (.getfield 26, 3) := by decide +kernel
theorem dX7_asksFor_63 : decode cX7_asksFor 63 = .ok (.iconst 5, 1) := by decide +kernel
theorem dX7_asksFor_64 : decode cX7_asksFor 64 = .ok (.iload 6, 2) := by decide +kernel
theorem dX7_asksFor_66 : decode cX7_asksFor 66 = .ok (.imul, 1) := by decide +kernel
theorem dX7_asksFor_67 : decode cX7_asksFor 67 = .ok (.iload 5, 2) := by decide +kernel
theorem dX7_asksFor_69 : decode cX7_asksFor 69 = .ok (.iadd, 1) := by decide +kernel
theorem dX7_asksFor_70 : decode cX7_asksFor 70 = .ok (.iaload, 1) := by decide +kernel
theorem dX7_asksFor_71 : decode cX7_asksFor 71 = .ok (.iconst 1, 1) := by decide +kernel
theorem dX7_asksFor_72 : decode cX7_asksFor 72 = .ok (.if_icmp .ne 55, 3) := by decide +kernel
theorem dX7_asksFor_75 : decode cX7_asksFor 75 = .ok (.aload_n 0, 1) := by decide +kernel
theorem dX7_asksFor_76 : decode cX7_asksFor 76 = .ok (.iload_n 1, 1) := by decide +kernel
theorem dX7_asksFor_77 : decode cX7_asksFor 77 = .ok (.aload_n 0, 1) := by decide +kernel
theorem dX7_asksFor_78 : decode cX7_asksFor 78 = .ok (.getfield 65, 3) := by decide +kernel
theorem dX7_asksFor_81 : decode cX7_asksFor 81 = .ok (.iload_n 2, 1) := by decide +kernel
theorem dX7_asksFor_82 : decode cX7_asksFor 82 = .ok (.iaload, 1) := by decide +kernel
theorem dX7_asksFor_83 : decode cX7_asksFor 83 = .ok (.aload_n 0, 1) := by decide +kernel
theorem dX7_asksFor_84 : decode cX7_asksFor 84 = .ok (.getfield 35, 3) := by decide +kernel
theorem dX7_asksFor_87 : decode cX7_asksFor 87 = .ok (.iload_n 3, 1) := by decide +kernel
theorem dX7_asksFor_88 : decode cX7_asksFor 88 = .ok (.iconst 1, 1) := by decide +kernel
theorem dX7_asksFor_89 : decode cX7_asksFor 89 = .ok (.iadd, 1) := by decide +kernel
theorem dX7_asksFor_90 : decode cX7_asksFor 90 = .ok (.iaload, 1) := by decide +kernel
theorem dX7_asksFor_91 : decode cX7_asksFor 91 = .ok (.aload_n 0, 1) := by decide +kernel
theorem dX7_asksFor_92 : decode cX7_asksFor 92 = .ok (.iload_n 1, 1) := by decide +kernel
theorem dX7_asksFor_93 : decode cX7_asksFor 93 = .ok (.aload_n 0, 1) := by decide +kernel
theorem dX7_asksFor_94 : decode cX7_asksFor 94 = .ok (.getfield 65, 3) := by decide +kernel
theorem dX7_asksFor_97 : decode cX7_asksFor 97 = .ok (.iload_n 2, 1) := by decide +kernel
theorem dX7_asksFor_98 : decode cX7_asksFor 98 = .ok (.iaload, 1) := by decide +kernel
theorem dX7_asksFor_99 : decode cX7_asksFor 99 = .ok (.aload_n 0, 1) := by decide +kernel
theorem dX7_asksFor_100 : decode cX7_asksFor 100 = .ok (.getfield 35, 3) := by decide +kernel
theorem dX7_asksFor_103 : decode cX7_asksFor 103 = .ok (.iload_n 3, 1) := by decide +kernel
theorem dX7_asksFor_104 : decode cX7_asksFor 104 = .ok (.iconst 1, 1) := by decide +kernel
theorem dX7_asksFor_105 : decode cX7_asksFor 105 = .ok (.iadd, 1) := by decide +kernel
theorem dX7_asksFor_106 : decode cX7_asksFor 106 = .ok (.iaload, 1) := by decide +kernel
theorem dX7_asksFor_107 : decode cX7_asksFor 107 = .ok (.invokevirtual 167, 3) := by decide +kernel
theorem dX7_asksFor_110 : decode cX7_asksFor 110 = .ok (.aload_n 0, 1) := by decide +kernel
theorem dX7_asksFor_111 : decode cX7_asksFor 111 = .ok (.getfield 29, 3) := by decide +kernel
theorem dX7_asksFor_114 : decode cX7_asksFor 114 = .ok (.iconst 5, 1) := by decide +kernel
theorem dX7_asksFor_115 : decode cX7_asksFor 115 = .ok (.iload 6, 2) := by decide +kernel
theorem dX7_asksFor_117 : decode cX7_asksFor 117 = .ok (.imul, 1) := by decide +kernel
theorem dX7_asksFor_118 : decode cX7_asksFor 118 = .ok (.iload 5, 2) := by decide +kernel
theorem dX7_asksFor_120 : decode cX7_asksFor 120 = .ok (.iadd, 1) := by decide +kernel
theorem dX7_asksFor_121 : decode cX7_asksFor 121 = .ok (.iaload, 1) := by decide +kernel
theorem dX7_asksFor_122 : decode cX7_asksFor 122 = .ok (.iadd, 1) := by decide +kernel
theorem dX7_asksFor_123 : decode cX7_asksFor 123 = .ok (.invokevirtual 163, 3) := by decide +kernel
theorem dX7_asksFor_126 : decode cX7_asksFor 126 = .ok (.ireturn, 1) := by decide +kernel
theorem dX7_asksFor_127 : decode cX7_asksFor 127 = .ok (.aload_n 0, 1) := by decide +kernel
theorem dX7_asksFor_128 : decode cX7_asksFor 128 = .ok (.getfield 71, 3) := by decide +kernel
theorem dX7_asksFor_131 : decode cX7_asksFor 131 = .ok (.iload_n 2, 1) := by decide +kernel
theorem dX7_asksFor_132 : decode cX7_asksFor 132 = .ok (.iconst 3, 1) := by decide +kernel
theorem dX7_asksFor_133 : decode cX7_asksFor 133 = .ok (.iastore, 1) := by decide +kernel
theorem dX7_asksFor_134 : decode cX7_asksFor 134 = .ok (.aload_n 0, 1) := by decide +kernel
theorem dX7_asksFor_135 : decode cX7_asksFor 135 = .ok (.getfield 77, 3) := by decide +kernel
theorem dX7_asksFor_138 : decode cX7_asksFor 138 = .ok (.iload_n 2, 1) := by decide +kernel
theorem dX7_asksFor_139 : decode cX7_asksFor 139 = .ok (.iload 6, 2) := by decide +kernel
theorem dX7_asksFor_141 : decode cX7_asksFor 141 = .ok (.iastore, 1) := by decide +kernel
theorem dX7_asksFor_142 : decode cX7_asksFor 142 = .ok (.aload_n 0, 1) := by decide +kernel
theorem dX7_asksFor_143 : decode cX7_asksFor 143 = .ok (.iload_n 1, 1) := by decide +kernel
theorem dX7_asksFor_144 : decode cX7_asksFor 144 = .ok (.iload 6, 2) := by decide +kernel
theorem dX7_asksFor_146 : decode cX7_asksFor 146 = .ok (.invokevirtual 138, 3) := by decide +kernel
theorem dX7_asksFor_149 : decode cX7_asksFor 149 = .ok (.iconst 0, 1) := by decide +kernel
theorem dX7_asksFor_150 : decode cX7_asksFor 150 = .ok (.ireturn, 1) := by decide +kernel
theorem dX7_plain_0 : decode cX7_plain 0 = .ok (.aload_n 0, 1) := by decide +kernel
theorem dX7_plain_1 : decode cX7_plain 1 = .ok (.getfield 41, 3) := by decide +kernel
theorem dX7_plain_4 : decode cX7_plain 4 = .ok (.iconst 5, 1) := by decide +kernel
theorem dX7_plain_5 : decode cX7_plain 5 = .ok (.aload_n 0, 1) := by decide +kernel
theorem dX7_plain_6 : decode cX7_plain 6 = .ok (.iload_n 1, 1) := by decide +kernel
theorem dX7_plain_7 : decode cX7_plain 7 = .ok (.iload_n 2, 1) := by decide +kernel
theorem dX7_plain_8 : decode cX7_plain 8 = .ok (.invokevirtual 156, 3) := by decide +kernel
theorem dX7_plain_11 : decode cX7_plain 11 = .ok (.imul, 1) := by decide +kernel
theorem dX7_plain_12 : decode cX7_plain 12 = .ok (.iload_n 3, 1) := by decide +kernel
theorem dX7_plain_13 : decode cX7_plain 13 = .ok (.iadd, 1) := by decide +kernel
theorem dX7_plain_14 : decode cX7_plain 14 = .ok (.iaload, 1) := by decide +kernel
theorem dX7_plain_15 : decode cX7_plain 15 = .ok (.ireturn, 1) := by decide +kernel
theorem dX7_write_0 : decode cX7_write 0 = .ok (.aload_n 0, 1) := by decide +kernel
theorem dX7_write_1 : decode cX7_write 1 = .ok (.getfield 26, 3) := by decide +kernel
theorem dX7_write_4 : decode cX7_write 4 = .ok (.iconst 5, 1) := by decide +kernel
theorem dX7_write_5 : decode cX7_write 5 = .ok (.iload_n 2, 1) := by decide +kernel
theorem dX7_write_6 : decode cX7_write 6 = .ok (.imul, 1) := by decide +kernel
theorem dX7_write_7 : decode cX7_write 7 = .ok (.iload_n 3, 1) := by decide +kernel
theorem dX7_write_8 : decode cX7_write 8 = .ok (.iadd, 1) := by decide +kernel
theorem dX7_write_9 : decode cX7_write 9 = .ok (.iaload, 1) := by decide +kernel
theorem dX7_write_10 : decode cX7_write 10 = .ok (.iconst 2, 1) := by decide +kernel
theorem dX7_write_11 : decode cX7_write 11 = .ok (.if_icmp .eq 6, 3) := by decide +kernel
theorem dX7_write_14 : decode cX7_write 14 = .ok (.bipush 12, 2) := by decide +kernel
theorem dX7_write_16 : decode cX7_write 16 = .ok (.ireturn, 1) := by decide +kernel
theorem dX7_write_17 : decode cX7_write 17 = .ok (.aload_n 0, 1) := by decide +kernel
theorem dX7_write_18 : decode cX7_write 18 = .ok (.getfield 41, 3) := by decide +kernel
theorem dX7_write_21 : decode cX7_write 21 = .ok (.iconst 5, 1) := by decide +kernel
theorem dX7_write_22 : decode cX7_write 22 = .ok (.aload_n 0, 1) := by decide +kernel
theorem dX7_write_23 : decode cX7_write 23 = .ok (.iload_n 1, 1) := by decide +kernel
theorem dX7_write_24 : decode cX7_write 24 = .ok (.iload_n 2, 1) := by decide +kernel
theorem dX7_write_25 : decode cX7_write 25 = .ok (.invokevirtual 156, 3) := by decide +kernel
theorem dX7_write_28 : decode cX7_write 28 = .ok (.imul, 1) := by decide +kernel
theorem dX7_write_29 : decode cX7_write 29 = .ok (.iload_n 3, 1) := by decide +kernel
theorem dX7_write_30 : decode cX7_write 30 = .ok (.iadd, 1) := by decide +kernel
theorem dX7_write_31 : decode cX7_write 31 = .ok (.iload 4, 2) := by decide +kernel
theorem dX7_write_33 : decode cX7_write 33 = .ok (.iastore, 1) := by decide +kernel
theorem dX7_write_34 : decode cX7_write 34 = .ok (.aload_n 0, 1) := by decide +kernel
theorem dX7_write_35 : decode cX7_write 35 = .ok (.dup, 1) := by decide +kernel
theorem dX7_write_36 : decode cX7_write 36 = .ok (.getfield 186, 3) := by decide +kernel
theorem dX7_write_39 : decode cX7_write 39 = .ok (.iconst 1, 1) := by decide +kernel
theorem dX7_write_40 : decode cX7_write 40 = .ok (.iadd, 1) := by decide +kernel
theorem dX7_write_41 : decode cX7_write 41 = .ok (.putfield 186, 3) := by decide +kernel
theorem dX7_write_44 : decode cX7_write 44 = .ok (.iconst 0, 1) := by decide +kernel
theorem dX7_write_45 : decode cX7_write 45 = .ok (.ireturn, 1) := by decide +kernel
theorem dX7_makes_0 : decode cX7_makes 0 = .ok (.aload_n 0, 1) := by decide +kernel
theorem dX7_makes_1 : decode cX7_makes 1 = .ok (.iload_n 2, 1) := by decide +kernel
theorem dX7_makes_2 : decode cX7_makes 2 = .ok (.invokevirtual 127, 3) := by decide +kernel
theorem dX7_makes_5 : decode cX7_makes 5 = .ok (.ifCond .eq 12, 3) := by decide +kernel
theorem dX7_makes_8 : decode cX7_makes 8 = .ok (.aload_n 0, 1) := by decide +kernel
theorem dX7_makes_9 : decode cX7_makes 9 = .ok (.getfield 7, 3) := by decide +kernel
theorem dX7_makes_12 : decode cX7_makes 12 = .ok (.iload_n 2, 1) := by decide +kernel
theorem dX7_makes_13 : decode cX7_makes 13 = .ok (.iaload, 1) := by decide +kernel
theorem dX7_makes_14 : decode cX7_makes 14 = .ok (.ifCond .eq 6, 3) := by decide +kernel
theorem dX7_makes_17 : decode cX7_makes 17 = .ok (.bipush 18, 2) := by decide +kernel
theorem dX7_makes_19 : decode cX7_makes 19 = .ok (.ireturn, 1) := by decide +kernel
theorem dX7_makes_20 : decode cX7_makes 20 = .ok (.aload_n 0, 1) := by decide +kernel
theorem dX7_makes_21 : decode cX7_makes 21 = .ok (.iload_n 1, 1) := by decide +kernel
theorem dX7_makes_22 : decode cX7_makes 22 = .ok (.iload_n 2, 1) := by decide +kernel
theorem dX7_makes_23 : decode cX7_makes 23 = .ok (.invokevirtual 189, 3) := by decide +kernel
theorem dX7_makes_26 : decode cX7_makes 26 = .ok (.istore_n 3, 1) := by decide +kernel
theorem dX7_makes_27 : decode cX7_makes 27 = .ok (.aload_n 0, 1) := by decide +kernel
theorem dX7_makes_28 : decode cX7_makes 28 = .ok (.getfield 44, 3) := by decide +kernel
theorem dX7_makes_31 : decode cX7_makes 31 = .ok (.bipush 16, 2) := by decide +kernel
theorem dX7_makes_33 : decode cX7_makes 33 = .ok (.iload_n 1, 1) := by decide +kernel
theorem dX7_makes_34 : decode cX7_makes 34 = .ok (.imul, 1) := by decide +kernel
theorem dX7_makes_35 : decode cX7_makes 35 = .ok (.iload_n 2, 1) := by decide +kernel
theorem dX7_makes_36 : decode cX7_makes 36 = .ok (.iadd, 1) := by decide +kernel
theorem dX7_makes_37 : decode cX7_makes 37 = .ok (.dup2, 1) := by decide +kernel
theorem dX7_makes_38 : decode cX7_makes 38 = .ok (.iaload, 1) := by decide +kernel
theorem dX7_makes_39 : decode cX7_makes 39 = .ok (.iload_n 3, 1) := by decide +kernel
theorem dX7_makes_40 : decode cX7_makes 40 = .ok (.ifCond .ne 7, 3) := by decide +kernel
theorem dX7_makes_43 : decode cX7_makes 43 = .ok (.iconst 1, 1) := by decide +kernel
theorem dX7_makes_44 : decode cX7_makes 44 = .ok (.goto 4, 3) := by decide +kernel
theorem dX7_makes_47 : decode cX7_makes 47 = .ok (.iconst 0, 1) := by decide +kernel
theorem dX7_makes_48 : decode cX7_makes 48 = .ok (.iadd, 1) := by decide +kernel
theorem dX7_makes_49 : decode cX7_makes 49 = .ok (.iastore, 1) := by decide +kernel
theorem dX7_makes_50 : decode cX7_makes 50 = .ok (.iload_n 3, 1) := by decide +kernel
theorem dX7_makes_51 : decode cX7_makes 51 = .ok (.ireturn, 1) := by decide +kernel
theorem dX7_asks_0 : decode cX7_asks 0 = .ok (.aload_n 0, 1) := by decide +kernel
theorem dX7_asks_1 : decode cX7_asks 1 = .ok (.iload_n 2, 1) := by decide +kernel
theorem dX7_asks_2 : decode cX7_asks 2 = .ok (.invokevirtual 127, 3) := by decide +kernel
theorem dX7_asks_5 : decode cX7_asks 5 = .ok (.ifCond .eq 12, 3) := by decide +kernel
theorem dX7_asks_8 : decode cX7_asks 8 = .ok (.aload_n 0, 1) := by decide +kernel
theorem dX7_asks_9 : decode cX7_asks 9 = .ok (.iload_n 2, 1) := by decide +kernel
theorem dX7_asks_10 : decode cX7_asks 10 = .ok (.iload_n 3, 1) := by decide +kernel
theorem dX7_asks_11 : decode cX7_asks 11 = .ok (.invokevirtual 183, 3) := by decide +kernel
theorem dX7_asks_14 : decode cX7_asks 14 = .ok (.goto 4, 3) := by decide +kernel
theorem dX7_asks_17 : decode cX7_asks 17 = .ok (.iconst (-1), 1) := by decide +kernel
theorem dX7_asks_18 : decode cX7_asks 18 = .ok (.istore 4, 2) := by decide +kernel
theorem dX7_asks_20 : decode cX7_asks 20 = .ok (.iload 4, 2) := by decide +kernel
theorem dX7_asks_22 : decode cX7_asks 22 = .ok (.iconst (-1), 1) := by decide +kernel
theorem dX7_asks_23 : decode cX7_asks 23 = .ok (.if_icmp .ne 6, 3) := by decide +kernel
theorem dX7_asks_26 : decode cX7_asks 26 = .ok (.bipush 18, 2) := by decide +kernel
theorem dX7_asks_28 : decode cX7_asks 28 = .ok (.ireturn, 1) := by decide +kernel
theorem dX7_asks_29 : decode cX7_asks 29 = .ok (.aload_n 0, 1) := by decide +kernel
theorem dX7_asks_30 : decode cX7_asks 30 = .ok (.getfield 26, 3) := by decide +kernel
theorem dX7_asks_33 : decode cX7_asks 33 = .ok (.iconst 5, 1) := by decide +kernel
theorem dX7_asks_34 : decode cX7_asks 34 = .ok (.iload 4, 2) := by decide +kernel
theorem dX7_asks_36 : decode cX7_asks 36 = .ok (.imul, 1) := by decide +kernel
theorem dX7_asks_37 : decode cX7_asks 37 = .ok (.iload_n 3, 1) := by decide +kernel
theorem dX7_asks_38 : decode cX7_asks 38 = .ok (.iadd, 1) := by decide +kernel
theorem dX7_asks_39 : decode cX7_asks 39 = .ok (.iaload, 1) := by decide +kernel
theorem dX7_asks_40 : decode cX7_asks 40 = .ok (.iconst 1, 1) := by decide +kernel
theorem dX7_asks_41 : decode cX7_asks 41 = .ok (.if_icmp .ne 20, 3) := by decide +kernel
theorem dX7_asks_44 : decode cX7_asks 44 = .ok (.aload_n 0, 1) := by decide +kernel
theorem dX7_asks_45 : decode cX7_asks 45 = .ok (.aload_n 0, 1) := by decide +kernel
theorem dX7_asks_46 : decode cX7_asks 46 = .ok (.getfield 29, 3) := by decide +kernel
theorem dX7_asks_49 : decode cX7_asks 49 = .ok (.iconst 5, 1) := by decide +kernel
theorem dX7_asks_50 : decode cX7_asks 50 = .ok (.iload 4, 2) := by decide +kernel
theorem dX7_asks_52 : decode cX7_asks 52 = .ok (.imul, 1) := by decide +kernel
theorem dX7_asks_53 : decode cX7_asks 53 = .ok (.iload_n 3, 1) := by decide +kernel
theorem dX7_asks_54 : decode cX7_asks 54 = .ok (.iadd, 1) := by decide +kernel
theorem dX7_asks_55 : decode cX7_asks 55 = .ok (.iaload, 1) := by decide +kernel
theorem dX7_asks_56 : decode cX7_asks 56 = .ok (.putfield 192, 3) := by decide +kernel
theorem dX7_asks_59 : decode cX7_asks 59 = .ok (.iconst 0, 1) := by decide +kernel
theorem dX7_asks_60 : decode cX7_asks 60 = .ok (.ireturn, 1) := by decide +kernel
theorem dX7_asks_61 : decode cX7_asks 61 = .ok (.aload_n 0, 1) := by decide +kernel
theorem dX7_asks_62 : decode cX7_asks 62 = .ok (.iload_n 1, 1) := by decide +kernel
theorem dX7_asks_63 : decode cX7_asks 63 = .ok (.iload 4, 2) := by decide +kernel
theorem dX7_asks_65 : decode cX7_asks 65 = .ok (.invokevirtual 189, 3) := by decide +kernel
theorem dX7_asks_68 : decode cX7_asks 68 = .ok (.istore 5, 2) := by decide +kernel
theorem dX7_asks_70 : decode cX7_asks 70 = .ok (.aload_n 0, 1) := by decide +kernel
theorem dX7_asks_71 : decode cX7_asks 71 = .ok (.aload_n 0, 1) := by decide +kernel
theorem dX7_asks_72 : decode cX7_asks 72 = .ok (.iload_n 1, 1) := by decide +kernel
theorem dX7_asks_73 : decode cX7_asks 73 = .ok (.iload 4, 2) := by decide +kernel
theorem dX7_asks_75 : decode cX7_asks 75 = .ok (.iload_n 3, 1) := by decide +kernel
theorem dX7_asks_76 : decode cX7_asks 76 = .ok (.invokevirtual 167, 3) := by decide +kernel
theorem dX7_asks_79 : decode cX7_asks 79 = .ok (.putfield 192, 3) := by decide +kernel
theorem dX7_asks_82 : decode cX7_asks 82 = .ok (.iload 5, 2) := by decide +kernel
theorem dX7_asks_84 : decode cX7_asks 84 = .ok (.ireturn, 1) := by decide +kernel
theorem dX7_homeOf_0 : decode cX7_homeOf 0 = .ok (.iconst 0, 1) := by decide +kernel
theorem dX7_homeOf_1 : decode cX7_homeOf 1 = .ok (.istore_n 3, 1) := by decide +kernel
theorem dX7_homeOf_2 : decode cX7_homeOf 2 = .ok (.iload_n 3, 1) := by decide +kernel
theorem dX7_homeOf_3 : decode cX7_homeOf 3 = .ok (.bipush 16, 2) := by decide +kernel
theorem dX7_homeOf_5 : decode cX7_homeOf 5 = .ok (.if_icmp .ge 16, 3) := by decide +kernel
theorem dX7_homeOf_8 : decode cX7_homeOf 8 = .ok (.aload_n 0, 1) := by decide +kernel
theorem dX7_homeOf_9 : decode cX7_homeOf 9 = .ok (.getfield 86, 3) := by decide +kernel
theorem dX7_homeOf_12 : decode cX7_homeOf 12 = .ok (.iload_n 3, 1) := by decide +kernel
theorem dX7_homeOf_13 : decode cX7_homeOf 13 = .ok (.iconst 0, 1) := by decide +kernel
theorem dX7_homeOf_14 : decode cX7_homeOf 14 = .ok (.bastore, 1) := by decide +kernel
theorem dX7_homeOf_15 : decode cX7_homeOf 15 = .ok (.iinc 3 1, 3) := by decide +kernel
theorem dX7_homeOf_18 : decode cX7_homeOf 18 = .ok (.goto (-16), 3) := by decide +kernel
theorem dX7_homeOf_21 : decode cX7_homeOf 21 = .ok (.iconst 1, 1) := by decide +kernel
theorem dX7_homeOf_22 : decode cX7_homeOf 22 = .ok (.istore_n 3, 1) := by decide +kernel
theorem dX7_homeOf_23 : decode cX7_homeOf 23 = .ok (.aload_n 0, 1) := by decide +kernel
theorem dX7_homeOf_24 : decode cX7_homeOf 24 = .ok (.getfield 95, 3) := by decide +kernel
theorem dX7_homeOf_27 : decode cX7_homeOf 27 = .ok (.iconst 0, 1) := by decide +kernel
theorem dX7_homeOf_28 : decode cX7_homeOf 28 = .ok (.iload_n 1, 1) := by decide +kernel
theorem dX7_homeOf_29 : decode cX7_homeOf 29 = .ok (.iastore, 1) := by decide +kernel
theorem dX7_homeOf_30 : decode cX7_homeOf 30 = .ok (.iload_n 3, 1) := by decide +kernel
theorem dX7_homeOf_31 : decode cX7_homeOf 31 = .ok (.ifCond .le 122, 3) := by decide +kernel
theorem dX7_homeOf_34 : decode cX7_homeOf 34 = .ok (.iinc 3 (-1), 3) := by decide +kernel
theorem dX7_homeOf_37 : decode cX7_homeOf 37 = .ok (.aload_n 0, 1) := by decide +kernel
theorem dX7_homeOf_38 : decode cX7_homeOf 38 = .ok (.getfield 95, 3) := by decide +kernel
theorem dX7_homeOf_41 : decode cX7_homeOf 41 = .ok (.iload_n 3, 1) := by decide +kernel
theorem dX7_homeOf_42 : decode cX7_homeOf 42 = .ok (.iaload, 1) := by decide +kernel
theorem dX7_homeOf_43 : decode cX7_homeOf 43 = .ok (.istore 4, 2) := by decide +kernel
theorem dX7_homeOf_45 : decode cX7_homeOf 45 = .ok (.aload_n 0, 1) := by decide +kernel
theorem dX7_homeOf_46 : decode cX7_homeOf 46 = .ok (.getfield 86, 3) := by decide +kernel
theorem dX7_homeOf_49 : decode cX7_homeOf 49 = .ok (.iload 4, 2) := by decide +kernel
theorem dX7_homeOf_51 : decode cX7_homeOf 51 = .ok (.baload, 1) := by decide +kernel
theorem dX7_homeOf_52 : decode cX7_homeOf 52 = .ok (.ifCond .ne 98, 3) := by decide +kernel
theorem dX7_homeOf_55 : decode cX7_homeOf 55 = .ok (.aload_n 0, 1) := by decide +kernel
theorem dX7_homeOf_56 : decode cX7_homeOf 56 = .ok (.getfield 86, 3) := by decide +kernel
theorem dX7_homeOf_59 : decode cX7_homeOf 59 = .ok (.iload 4, 2) := by decide +kernel
theorem dX7_homeOf_61 : decode cX7_homeOf 61 = .ok (.iconst 1, 1) := by decide +kernel
theorem dX7_homeOf_62 : decode cX7_homeOf 62 = .ok (.bastore, 1) := by decide +kernel
theorem dX7_homeOf_63 : decode cX7_homeOf 63 = .ok (.aload_n 0, 1) := by decide +kernel
theorem dX7_homeOf_64 : decode cX7_homeOf 64 = .ok (.getfield 26, 3) := by decide +kernel
theorem dX7_homeOf_67 : decode cX7_homeOf 67 = .ok (.iconst 5, 1) := by decide +kernel
theorem dX7_homeOf_68 : decode cX7_homeOf 68 = .ok (.iload 4, 2) := by decide +kernel
theorem dX7_homeOf_70 : decode cX7_homeOf 70 = .ok (.imul, 1) := by decide +kernel
theorem dX7_homeOf_71 : decode cX7_homeOf 71 = .ok (.iload_n 2, 1) := by decide +kernel
theorem dX7_homeOf_72 : decode cX7_homeOf 72 = .ok (.iadd, 1) := by decide +kernel
theorem dX7_homeOf_73 : decode cX7_homeOf 73 = .ok (.iaload, 1) := by decide +kernel
theorem dX7_homeOf_74 : decode cX7_homeOf 74 = .ok (.ifCond .le 6, 3) := by decide +kernel
theorem dX7_homeOf_77 : decode cX7_homeOf 77 = .ok (.iload 4, 2) := by decide +kernel
theorem dX7_homeOf_79 : decode cX7_homeOf 79 = .ok (.ireturn, 1) := by decide +kernel
theorem dX7_homeOf_80 : decode cX7_homeOf 80 = .ok (.aload_n 0, 1) := by decide +kernel
theorem dX7_homeOf_81 : decode cX7_homeOf 81 = .ok (.getfield 13, 3) := by decide +kernel
theorem dX7_homeOf_84 : decode cX7_homeOf 84 = .ok (.iload 4, 2) := by decide +kernel
theorem dX7_homeOf_86 : decode cX7_homeOf 86 = .ok (.iaload, 1) := by decide +kernel
theorem dX7_homeOf_87 : decode cX7_homeOf 87 = .ok (.iconst (-1), 1) := by decide +kernel
theorem dX7_homeOf_88 : decode cX7_homeOf 88 = .ok (.if_icmp .eq 19, 3) := by decide +kernel
theorem dX7_homeOf_91 : decode cX7_homeOf 91 = .ok (.aload_n 0, 1) := by decide +kernel
theorem dX7_homeOf_92 : decode cX7_homeOf 92 = .ok (.getfield 95, 3) := by decide +kernel
theorem dX7_homeOf_95 : decode cX7_homeOf 95 = .ok (.iload_n 3, 1) := by decide +kernel
theorem dX7_homeOf_96 : decode cX7_homeOf 96 = .ok (.aload_n 0, 1) := by decide +kernel
theorem dX7_homeOf_97 : decode cX7_homeOf 97 = .ok (.getfield 13, 3) := by decide +kernel
theorem dX7_homeOf_100 : decode cX7_homeOf 100 = .ok (.iload 4, 2) := by decide +kernel
theorem dX7_homeOf_102 : decode cX7_homeOf 102 = .ok (.iaload, 1) := by decide +kernel
theorem dX7_homeOf_103 : decode cX7_homeOf 103 = .ok (.iastore, 1) := by decide +kernel
theorem dX7_homeOf_104 : decode cX7_homeOf 104 = .ok (.iinc 3 1, 3) := by decide +kernel
theorem dX7_homeOf_107 : decode cX7_homeOf 107 = .ok (.aload_n 0, 1) := by decide +kernel
theorem dX7_homeOf_108 : decode cX7_homeOf 108 = .ok (.getfield 20, 3) := by decide +kernel
theorem dX7_homeOf_111 : decode cX7_homeOf 111 = .ok (.iload 4, 2) := by decide +kernel
theorem dX7_homeOf_113 : decode cX7_homeOf 113 = .ok (.iaload, 1) := by decide +kernel
theorem dX7_homeOf_114 : decode cX7_homeOf 114 = .ok (.iconst 1, 1) := by decide +kernel
theorem dX7_homeOf_115 : decode cX7_homeOf 115 = .ok (.isub, 1) := by decide +kernel
theorem dX7_homeOf_116 : decode cX7_homeOf 116 = .ok (.istore 5, 2) := by decide +kernel
theorem dX7_homeOf_118 : decode cX7_homeOf 118 = .ok (.iload 5, 2) := by decide +kernel
theorem dX7_homeOf_120 : decode cX7_homeOf 120 = .ok (.ifCond .lt 30, 3) := by decide +kernel
theorem dX7_homeOf_123 : decode cX7_homeOf 123 = .ok (.aload_n 0, 1) := by decide +kernel
theorem dX7_homeOf_124 : decode cX7_homeOf 124 = .ok (.getfield 95, 3) := by decide +kernel
theorem dX7_homeOf_127 : decode cX7_homeOf 127 = .ok (.iload_n 3, 1) := by decide +kernel
theorem dX7_homeOf_128 : decode cX7_homeOf 128 = .ok (.aload_n 0, 1) := by decide +kernel
theorem dX7_homeOf_129 : decode cX7_homeOf 129 = .ok (.getfield 23, 3) := by decide +kernel
theorem dX7_homeOf_132 : decode cX7_homeOf 132 = .ok (.iconst 3, 1) := by decide +kernel
theorem dX7_homeOf_133 : decode cX7_homeOf 133 = .ok (.iload 4, 2) := by decide +kernel
theorem dX7_homeOf_135 : decode cX7_homeOf 135 = .ok (.imul, 1) := by decide +kernel
theorem dX7_homeOf_136 : decode cX7_homeOf 136 = .ok (.iload 5, 2) := by decide +kernel
theorem dX7_homeOf_138 : decode cX7_homeOf 138 = .ok (.iadd, 1) := by decide +kernel
theorem dX7_homeOf_139 : decode cX7_homeOf 139 = .ok (.iaload, 1) := by decide +kernel
theorem dX7_homeOf_140 : decode cX7_homeOf 140 = .ok (.iastore, 1) := by decide +kernel
theorem dX7_homeOf_141 : decode cX7_homeOf 141 = .ok (.iinc 3 1, 3) := by decide +kernel
theorem dX7_homeOf_144 : decode cX7_homeOf 144 = .ok (.iinc 5 (-1), 3) := by decide +kernel
theorem dX7_homeOf_147 : decode cX7_homeOf 147 = .ok (.goto (-29), 3) := by decide +kernel
theorem dX7_homeOf_150 : decode cX7_homeOf 150 = .ok (.goto (-120), 3) := by decide +kernel
theorem dX7_homeOf_153 : decode cX7_homeOf 153 = .ok (.iconst (-1), 1) := by decide +kernel
theorem dX7_homeOf_154 : decode cX7_homeOf 154 = .ok (.ireturn, 1) := by decide +kernel
theorem dX7_use_0 : decode cX7_use 0 = .ok (.aload_n 0, 1) := by decide +kernel
theorem dX7_use_1 : decode cX7_use 1 = .ok (.iconst 0, 1) := by decide +kernel
theorem dX7_use_2 : decode cX7_use 2 = .ok (.putfield 120, 3) := by decide +kernel
theorem dX7_use_5 : decode cX7_use 5 = .ok (.iload_n 1, 1) := by decide +kernel
theorem dX7_use_6 : decode cX7_use 6 = .ok (.invokestatic 195, 3) := by decide +kernel
theorem dX7_use_9 : decode cX7_use 9 = .ok (.ifCond .eq 11, 3) := by decide +kernel
theorem dX7_use_12 : decode cX7_use 12 = .ok (.aload_n 0, 1) := by decide +kernel
theorem dX7_use_13 : decode cX7_use 13 = .ok (.iload_n 2, 1) := by decide +kernel
theorem dX7_use_14 : decode cX7_use 14 = .ok (.invokevirtual 127, 3) := by decide +kernel
theorem dX7_use_17 : decode cX7_use 17 = .ok (.ifCond .ne 6, 3) := by decide +kernel
theorem dX7_use_20 : decode cX7_use 20 = .ok (.bipush (-101), 2) := by decide +kernel
theorem dX7_use_22 : decode cX7_use 22 = .ok (.ireturn, 1) := by decide +kernel
theorem dX7_use_23 : decode cX7_use 23 = .ok (.iload_n 3, 1) := by decide +kernel
theorem dX7_use_24 : decode cX7_use 24 = .ok (.iconst 1, 1) := by decide +kernel
theorem dX7_use_25 : decode cX7_use 25 = .ok (.if_icmp .eq 8, 3) := by decide +kernel
theorem dX7_use_28 : decode cX7_use 28 = .ok (.iload_n 3, 1) := by decide +kernel
theorem dX7_use_29 : decode cX7_use 29 = .ok (.iconst 2, 1) := by decide +kernel
theorem dX7_use_30 : decode cX7_use 30 = .ok (.if_icmp .ne 7, 3) := by decide +kernel
theorem dX7_use_33 : decode cX7_use 33 = .ok (.iconst 1, 1) := by decide +kernel
theorem dX7_use_34 : decode cX7_use 34 = .ok (.goto 4, 3) := by decide +kernel
theorem dX7_use_37 : decode cX7_use 37 = .ok (.iconst 0, 1) := by decide +kernel
theorem dX7_use_38 : decode cX7_use 38 = .ok (.istore 6, 2) := by decide +kernel
theorem dX7_use_40 : decode cX7_use 40 = .ok (.iload_n 3, 1) := by decide +kernel
theorem dX7_use_41 : decode cX7_use 41 = .ok (.iconst 0, 1) := by decide +kernel
theorem dX7_use_42 : decode cX7_use 42 = .ok (.iconst 3, 1) := by decide +kernel
theorem dX7_use_43 : decode cX7_use 43 = .ok (.invokestatic 123, 3) := by decide +kernel
theorem dX7_use_46 : decode cX7_use 46 = .ok (.ifCond .eq 37, 3) := by decide +kernel
theorem dX7_use_49 : decode cX7_use 49 = .ok (.iload 6, 2) := by decide +kernel
theorem dX7_use_51 : decode cX7_use 51 = .ok (.ifCond .eq 13, 3) := by decide +kernel
theorem dX7_use_54 : decode cX7_use 54 = .ok (.iload 4, 2) := by decide +kernel
theorem dX7_use_56 : decode cX7_use 56 = .ok (.iconst 0, 1) := by decide +kernel
theorem dX7_use_57 : decode cX7_use 57 = .ok (.iconst 4, 1) := by decide +kernel
theorem dX7_use_58 : decode cX7_use 58 = .ok (.invokestatic 123, 3) := by decide +kernel
theorem dX7_use_61 : decode cX7_use 61 = .ok (.ifCond .eq 22, 3) := by decide +kernel
theorem dX7_use_64 : decode cX7_use 64 = .ok (.iload_n 3, 1) := by decide +kernel
theorem dX7_use_65 : decode cX7_use 65 = .ok (.iconst 2, 1) := by decide +kernel
theorem dX7_use_66 : decode cX7_use 66 = .ok (.if_icmp .ne 20, 3) := by decide +kernel
theorem dX7_use_69 : decode cX7_use 69 = .ok (.iload 5, 2) := by decide +kernel
theorem dX7_use_71 : decode cX7_use 71 = .ok (.sipush (-999), 3) := by decide +kernel
theorem dX7_use_74 : decode cX7_use 74 = .ok (.sipush 999, 3) := by decide +kernel
theorem dX7_use_77 : decode cX7_use 77 = .ok (.invokestatic 123, 3) := by decide +kernel
theorem dX7_use_80 : decode cX7_use 80 = .ok (.ifCond .ne 6, 3) := by decide +kernel
theorem dX7_use_83 : decode cX7_use 83 = .ok (.bipush (-102), 2) := by decide +kernel
theorem dX7_use_85 : decode cX7_use 85 = .ok (.ireturn, 1) := by decide +kernel
theorem dX7_use_86 : decode cX7_use 86 = .ok (.iload_n 3, 1) := by decide +kernel
theorem dX7_use_87 : decode cX7_use 87 = .ok (.iconst 2, 1) := by decide +kernel
theorem dX7_use_88 : decode cX7_use 88 = .ok (.if_icmp .ne 13, 3) := by decide +kernel
theorem dX7_use_91 : decode cX7_use 91 = .ok (.aload_n 0, 1) := by decide +kernel
theorem dX7_use_92 : decode cX7_use 92 = .ok (.iload_n 2, 1) := by decide +kernel
theorem dX7_use_93 : decode cX7_use 93 = .ok (.iload 4, 2) := by decide +kernel
theorem dX7_use_95 : decode cX7_use 95 = .ok (.invokevirtual 183, 3) := by decide +kernel
theorem dX7_use_98 : decode cX7_use 98 = .ok (.goto 4, 3) := by decide +kernel
theorem dX7_use_101 : decode cX7_use 101 = .ok (.iconst (-1), 1) := by decide +kernel
theorem dX7_use_102 : decode cX7_use 102 = .ok (.istore 7, 2) := by decide +kernel
theorem dX7_use_104 : decode cX7_use 104 = .ok (.iload_n 3, 1) := by decide +kernel
theorem dX7_use_105 : decode cX7_use 105 = .ok (.ifCond .ne 12, 3) := by decide +kernel
theorem dX7_use_108 : decode cX7_use 108 = .ok (.aload_n 0, 1) := by decide +kernel
theorem dX7_use_109 : decode cX7_use 109 = .ok (.getfield 7, 3) := by decide +kernel
theorem dX7_use_112 : decode cX7_use 112 = .ok (.iload_n 2, 1) := by decide +kernel
theorem dX7_use_113 : decode cX7_use 113 = .ok (.iaload, 1) := by decide +kernel
theorem dX7_use_114 : decode cX7_use 114 = .ok (.ifCond .ne 30, 3) := by decide +kernel
theorem dX7_use_117 : decode cX7_use 117 = .ok (.iload_n 3, 1) := by decide +kernel
theorem dX7_use_118 : decode cX7_use 118 = .ok (.iconst 2, 1) := by decide +kernel
theorem dX7_use_119 : decode cX7_use 119 = .ok (.if_icmp .ne 28, 3) := by decide +kernel
theorem dX7_use_122 : decode cX7_use 122 = .ok (.iload 7, 2) := by decide +kernel
theorem dX7_use_124 : decode cX7_use 124 = .ok (.iconst (-1), 1) := by decide +kernel
theorem dX7_use_125 : decode cX7_use 125 = .ok (.if_icmp .eq 19, 3) := by decide +kernel
theorem dX7_use_128 : decode cX7_use 128 = .ok (.aload_n 0, 1) := by decide +kernel
theorem dX7_use_129 : decode cX7_use 129 = .ok (.getfield 26, 3) := by decide +kernel
theorem dX7_use_132 : decode cX7_use 132 = .ok (.iconst 5, 1) := by decide +kernel
theorem dX7_use_133 : decode cX7_use 133 = .ok (.iload 7, 2) := by decide +kernel
theorem dX7_use_135 : decode cX7_use 135 = .ok (.imul, 1) := by decide +kernel
theorem dX7_use_136 : decode cX7_use 136 = .ok (.iload 4, 2) := by decide +kernel
theorem dX7_use_138 : decode cX7_use 138 = .ok (.iadd, 1) := by decide +kernel
theorem dX7_use_139 : decode cX7_use 139 = .ok (.iaload, 1) := by decide +kernel
theorem dX7_use_140 : decode cX7_use 140 = .ok (.iconst 1, 1) := by decide +kernel
theorem dX7_use_141 : decode cX7_use 141 = .ok (.if_icmp .ne 6, 3) := by decide +kernel
theorem dX7_use_144 : decode cX7_use 144 = .ok (.bipush (-103), 2) := by decide +kernel
theorem dX7_use_146 : decode cX7_use 146 = .ok (.ireturn, 1) := by decide +kernel
theorem dX7_use_147 : decode cX7_use 147 = .ok (.aload_n 0, 1) := by decide +kernel
theorem dX7_use_148 : decode cX7_use 148 = .ok (.dup, 1) := by decide +kernel
theorem dX7_use_149 : decode cX7_use 149 = .ok (.getfield 108, 3) := by decide +kernel
theorem dX7_use_152 : decode cX7_use 152 = .ok (.iconst 1, 1) := by decide +kernel
theorem dX7_use_153 : decode cX7_use 153 = .ok (.iadd, 1) := by decide +kernel
theorem dX7_use_154 : decode cX7_use 154 = .ok (.putfield 108, 3) := by decide +kernel
theorem dX7_use_157 : decode cX7_use 157 = .ok (.aload_n 0, 1) := by decide +kernel
theorem dX7_use_158 : decode cX7_use 158 = .ok (.iconst 0, 1) := by decide +kernel
theorem dX7_use_159 : decode cX7_use 159 = .ok (.putfield 186, 3) := by decide +kernel
theorem dX7_use_162 : decode cX7_use 162 = .ok (.iconst 0, 1) := by decide +kernel
theorem dX7_use_163 : decode cX7_use 163 = .ok (.istore 8, 2) := by decide +kernel
theorem dX7_use_165 : decode cX7_use 165 = .ok (.iload_n 3, 1) := by decide +kernel
theorem dX7_use_166 : decode cX7_use 166 = .ok (.tableswitch 120 0 2 #[26, 52, 73], 26) := by decide +kernel
theorem dX7_use_192 : decode cX7_use 192 = .ok (.aload_n 0, 1) := by decide +kernel
theorem dX7_use_193 : decode cX7_use 193 = .ok (.aload_n 0, 1) := by decide +kernel
theorem dX7_use_194 : decode cX7_use 194 = .ok (.iload_n 1, 1) := by decide +kernel
theorem dX7_use_195 : decode cX7_use 195 = .ok (.iload_n 2, 1) := by decide +kernel
theorem dX7_use_196 : decode cX7_use 196 = .ok (.invokevirtual 198, 3) := by decide +kernel
theorem dX7_use_199 : decode cX7_use 199 = .ok (.putfield 105, 3) := by decide +kernel
theorem dX7_use_202 : decode cX7_use 202 = .ok (.aload_n 0, 1) := by decide +kernel
theorem dX7_use_203 : decode cX7_use 203 = .ok (.getfield 44, 3) := by decide +kernel
theorem dX7_use_206 : decode cX7_use 206 = .ok (.bipush 16, 2) := by decide +kernel
theorem dX7_use_208 : decode cX7_use 208 = .ok (.iload_n 1, 1) := by decide +kernel
theorem dX7_use_209 : decode cX7_use 209 = .ok (.imul, 1) := by decide +kernel
theorem dX7_use_210 : decode cX7_use 210 = .ok (.iload_n 2, 1) := by decide +kernel
theorem dX7_use_211 : decode cX7_use 211 = .ok (.iadd, 1) := by decide +kernel
theorem dX7_use_212 : decode cX7_use 212 = .ok (.iaload, 1) := by decide +kernel
theorem dX7_use_213 : decode cX7_use 213 = .ok (.istore 8, 2) := by decide +kernel
theorem dX7_use_215 : decode cX7_use 215 = .ok (.goto 76, 3) := by decide +kernel
theorem dX7_use_218 : decode cX7_use 218 = .ok (.aload_n 0, 1) := by decide +kernel
theorem dX7_use_219 : decode cX7_use 219 = .ok (.aload_n 0, 1) := by decide +kernel
theorem dX7_use_220 : decode cX7_use 220 = .ok (.iload_n 1, 1) := by decide +kernel
theorem dX7_use_221 : decode cX7_use 221 = .ok (.iload_n 2, 1) := by decide +kernel
theorem dX7_use_222 : decode cX7_use 222 = .ok (.iload 4, 2) := by decide +kernel
theorem dX7_use_224 : decode cX7_use 224 = .ok (.invokevirtual 201, 3) := by decide +kernel
theorem dX7_use_227 : decode cX7_use 227 = .ok (.putfield 105, 3) := by decide +kernel
theorem dX7_use_230 : decode cX7_use 230 = .ok (.aload_n 0, 1) := by decide +kernel
theorem dX7_use_231 : decode cX7_use 231 = .ok (.getfield 192, 3) := by decide +kernel
theorem dX7_use_234 : decode cX7_use 234 = .ok (.istore 8, 2) := by decide +kernel
theorem dX7_use_236 : decode cX7_use 236 = .ok (.goto 55, 3) := by decide +kernel
theorem dX7_use_239 : decode cX7_use 239 = .ok (.aload_n 0, 1) := by decide +kernel
theorem dX7_use_240 : decode cX7_use 240 = .ok (.aload_n 0, 1) := by decide +kernel
theorem dX7_use_241 : decode cX7_use 241 = .ok (.iload_n 1, 1) := by decide +kernel
theorem dX7_use_242 : decode cX7_use 242 = .ok (.iload 7, 2) := by decide +kernel
theorem dX7_use_244 : decode cX7_use 244 = .ok (.invokevirtual 189, 3) := by decide +kernel
theorem dX7_use_247 : decode cX7_use 247 = .ok (.putfield 105, 3) := by decide +kernel
theorem dX7_use_250 : decode cX7_use 250 = .ok (.aload_n 0, 1) := by decide +kernel
theorem dX7_use_251 : decode cX7_use 251 = .ok (.iload_n 1, 1) := by decide +kernel
theorem dX7_use_252 : decode cX7_use 252 = .ok (.iload 7, 2) := by decide +kernel
theorem dX7_use_254 : decode cX7_use 254 = .ok (.iload 4, 2) := by decide +kernel
theorem dX7_use_256 : decode cX7_use 256 = .ok (.invokevirtual 167, 3) := by decide +kernel
theorem dX7_use_259 : decode cX7_use 259 = .ok (.istore 8, 2) := by decide +kernel
theorem dX7_use_261 : decode cX7_use 261 = .ok (.aload_n 0, 1) := by decide +kernel
theorem dX7_use_262 : decode cX7_use 262 = .ok (.getfield 105, 3) := by decide +kernel
theorem dX7_use_265 : decode cX7_use 265 = .ok (.ifCond .ne 26, 3) := by decide +kernel
theorem dX7_use_268 : decode cX7_use 268 = .ok (.aload_n 0, 1) := by decide +kernel
theorem dX7_use_269 : decode cX7_use 269 = .ok (.aload_n 0, 1) := by decide +kernel
theorem dX7_use_270 : decode cX7_use 270 = .ok (.iload_n 1, 1) := by decide +kernel
theorem dX7_use_271 : decode cX7_use 271 = .ok (.iload 7, 2) := by decide +kernel
theorem dX7_use_273 : decode cX7_use 273 = .ok (.iload 4, 2) := by decide +kernel
theorem dX7_use_275 : decode cX7_use 275 = .ok (.iload 5, 2) := by decide +kernel
theorem dX7_use_277 : decode cX7_use 277 = .ok (.invokevirtual 163, 3) := by decide +kernel
theorem dX7_use_280 : decode cX7_use 280 = .ok (.putfield 105, 3) := by decide +kernel
theorem dX7_use_283 : decode cX7_use 283 = .ok (.goto 8, 3) := by decide +kernel
theorem dX7_use_286 : decode cX7_use 286 = .ok (.aload_n 0, 1) := by decide +kernel
theorem dX7_use_287 : decode cX7_use 287 = .ok (.iconst 0, 1) := by decide +kernel
theorem dX7_use_288 : decode cX7_use 288 = .ok (.putfield 105, 3) := by decide +kernel
theorem dX7_use_291 : decode cX7_use 291 = .ok (.aload_n 0, 1) := by decide +kernel
theorem dX7_use_292 : decode cX7_use 292 = .ok (.getfield 59, 3) := by decide +kernel
theorem dX7_use_295 : decode cX7_use 295 = .ok (.sipush 600, 3) := by decide +kernel
theorem dX7_use_298 : decode cX7_use 298 = .ok (.iload_n 1, 1) := by decide +kernel
theorem dX7_use_299 : decode cX7_use 299 = .ok (.imul, 1) := by decide +kernel
theorem dX7_use_300 : decode cX7_use 300 = .ok (.aload_n 0, 1) := by decide +kernel
theorem dX7_use_301 : decode cX7_use 301 = .ok (.getfield 56, 3) := by decide +kernel
theorem dX7_use_304 : decode cX7_use 304 = .ok (.iload_n 1, 1) := by decide +kernel
theorem dX7_use_305 : decode cX7_use 305 = .ok (.iaload, 1) := by decide +kernel
theorem dX7_use_306 : decode cX7_use 306 = .ok (.iadd, 1) := by decide +kernel
theorem dX7_use_307 : decode cX7_use 307 = .ok (.iload_n 3, 1) := by decide +kernel
theorem dX7_use_308 : decode cX7_use 308 = .ok (.ifCond .ne 14, 3) := by decide +kernel
theorem dX7_use_311 : decode cX7_use 311 = .ok (.aload_n 0, 1) := by decide +kernel
theorem dX7_use_312 : decode cX7_use 312 = .ok (.getfield 105, 3) := by decide +kernel
theorem dX7_use_315 : decode cX7_use 315 = .ok (.ifCond .ne 7, 3) := by decide +kernel
theorem dX7_use_318 : decode cX7_use 318 = .ok (.iload_n 2, 1) := by decide +kernel
theorem dX7_use_319 : decode cX7_use 319 = .ok (.goto 4, 3) := by decide +kernel
theorem dX7_use_322 : decode cX7_use 322 = .ok (.iconst (-1), 1) := by decide +kernel
theorem dX7_use_323 : decode cX7_use 323 = .ok (.iastore, 1) := by decide +kernel
theorem dX7_use_324 : decode cX7_use 324 = .ok (.aload_n 0, 1) := by decide +kernel
theorem dX7_use_325 : decode cX7_use 325 = .ok (.getfield 62, 3) := by decide +kernel
theorem dX7_use_328 : decode cX7_use 328 = .ok (.sipush 600, 3) := by decide +kernel
theorem dX7_use_331 : decode cX7_use 331 = .ok (.iload_n 1, 1) := by decide +kernel
theorem dX7_use_332 : decode cX7_use 332 = .ok (.imul, 1) := by decide +kernel
theorem dX7_use_333 : decode cX7_use 333 = .ok (.aload_n 0, 1) := by decide +kernel
theorem dX7_use_334 : decode cX7_use 334 = .ok (.getfield 56, 3) := by decide +kernel
theorem dX7_use_337 : decode cX7_use 337 = .ok (.iload_n 1, 1) := by decide +kernel
theorem dX7_use_338 : decode cX7_use 338 = .ok (.iaload, 1) := by decide +kernel
theorem dX7_use_339 : decode cX7_use 339 = .ok (.iadd, 1) := by decide +kernel
theorem dX7_use_340 : decode cX7_use 340 = .ok (.aload_n 0, 1) := by decide +kernel
theorem dX7_use_341 : decode cX7_use 341 = .ok (.getfield 186, 3) := by decide +kernel
theorem dX7_use_344 : decode cX7_use 344 = .ok (.iastore, 1) := by decide +kernel
theorem dX7_use_345 : decode cX7_use 345 = .ok (.aload_n 0, 1) := by decide +kernel
theorem dX7_use_346 : decode cX7_use 346 = .ok (.getfield 56, 3) := by decide +kernel
theorem dX7_use_349 : decode cX7_use 349 = .ok (.iload_n 1, 1) := by decide +kernel
theorem dX7_use_350 : decode cX7_use 350 = .ok (.dup2, 1) := by decide +kernel
theorem dX7_use_351 : decode cX7_use 351 = .ok (.iaload, 1) := by decide +kernel
theorem dX7_use_352 : decode cX7_use 352 = .ok (.iconst 1, 1) := by decide +kernel
theorem dX7_use_353 : decode cX7_use 353 = .ok (.iadd, 1) := by decide +kernel
theorem dX7_use_354 : decode cX7_use 354 = .ok (.iastore, 1) := by decide +kernel
theorem dX7_use_355 : decode cX7_use 355 = .ok (.aload_n 0, 1) := by decide +kernel
theorem dX7_use_356 : decode cX7_use 356 = .ok (.getfield 105, 3) := by decide +kernel
theorem dX7_use_359 : decode cX7_use 359 = .ok (.ifCond .ne 8, 3) := by decide +kernel
theorem dX7_use_362 : decode cX7_use 362 = .ok (.iload 8, 2) := by decide +kernel
theorem dX7_use_364 : decode cX7_use 364 = .ok (.goto 4, 3) := by decide +kernel
theorem dX7_use_367 : decode cX7_use 367 = .ok (.iconst 0, 1) := by decide +kernel
theorem dX7_use_368 : decode cX7_use 368 = .ok (.ireturn, 1) := by decide +kernel
theorem dX7_failure_0 : decode cX7_failure 0 = .ok (.aload_n 0, 1) := by decide +kernel
theorem dX7_failure_1 : decode cX7_failure 1 = .ok (.iconst 0, 1) := by decide +kernel
theorem dX7_failure_2 : decode cX7_failure 2 = .ok (.putfield 120, 3) := by decide +kernel
theorem dX7_failure_5 : decode cX7_failure 5 = .ok (.aload_n 0, 1) := by decide +kernel
theorem dX7_failure_6 : decode cX7_failure 6 = .ok (.getfield 105, 3) := by decide +kernel
theorem dX7_failure_9 : decode cX7_failure 9 = .ok (.ireturn, 1) := by decide +kernel
theorem dX7_told_0 : decode cX7_told 0 = .ok (.aload_n 0, 1) := by decide +kernel
theorem dX7_told_1 : decode cX7_told 1 = .ok (.iconst 0, 1) := by decide +kernel
theorem dX7_told_2 : decode cX7_told 2 = .ok (.putfield 120, 3) := by decide +kernel
theorem dX7_told_5 : decode cX7_told 5 = .ok (.iload_n 1, 1) := by decide +kernel
theorem dX7_told_6 : decode cX7_told 6 = .ok (.invokestatic 195, 3) := by decide +kernel
theorem dX7_told_9 : decode cX7_told 9 = .ok (.ifCond .eq 11, 3) := by decide +kernel
theorem dX7_told_12 : decode cX7_told 12 = .ok (.aload_n 0, 1) := by decide +kernel
theorem dX7_told_13 : decode cX7_told 13 = .ok (.iload_n 2, 1) := by decide +kernel
theorem dX7_told_14 : decode cX7_told 14 = .ok (.invokevirtual 127, 3) := by decide +kernel
theorem dX7_told_17 : decode cX7_told 17 = .ok (.ifCond .ne 6, 3) := by decide +kernel
theorem dX7_told_20 : decode cX7_told 20 = .ok (.bipush (-101), 2) := by decide +kernel
theorem dX7_told_22 : decode cX7_told 22 = .ok (.ireturn, 1) := by decide +kernel
theorem dX7_told_23 : decode cX7_told 23 = .ok (.iload_n 3, 1) := by decide +kernel
theorem dX7_told_24 : decode cX7_told 24 = .ok (.ifCond .ne 15, 3) := by decide +kernel
theorem dX7_told_27 : decode cX7_told 27 = .ok (.aload_n 0, 1) := by decide +kernel
theorem dX7_told_28 : decode cX7_told 28 = .ok (.getfield 38, 3) := by decide +kernel
theorem dX7_told_31 : decode cX7_told 31 = .ok (.aload_n 0, 1) := by decide +kernel
theorem dX7_told_32 : decode cX7_told 32 = .ok (.iload_n 1, 1) := by decide +kernel
theorem dX7_told_33 : decode cX7_told 33 = .ok (.iload_n 2, 1) := by decide +kernel
theorem dX7_told_34 : decode cX7_told 34 = .ok (.invokevirtual 156, 3) := by decide +kernel
theorem dX7_told_37 : decode cX7_told 37 = .ok (.iaload, 1) := by decide +kernel
theorem dX7_told_38 : decode cX7_told 38 = .ok (.ireturn, 1) := by decide +kernel
theorem dX7_told_39 : decode cX7_told 39 = .ok (.iload_n 3, 1) := by decide +kernel
theorem dX7_told_40 : decode cX7_told 40 = .ok (.iconst 1, 1) := by decide +kernel
theorem dX7_told_41 : decode cX7_told 41 = .ok (.if_icmp .ne 15, 3) := by decide +kernel
theorem dX7_told_44 : decode cX7_told 44 = .ok (.aload_n 0, 1) := by decide +kernel
theorem dX7_told_45 : decode cX7_told 45 = .ok (.getfield 44, 3) := by decide +kernel
theorem dX7_told_48 : decode cX7_told 48 = .ok (.bipush 16, 2) := by decide +kernel
theorem dX7_told_50 : decode cX7_told 50 = .ok (.iload_n 1, 1) := by decide +kernel
theorem dX7_told_51 : decode cX7_told 51 = .ok (.imul, 1) := by decide +kernel
theorem dX7_told_52 : decode cX7_told 52 = .ok (.iload_n 2, 1) := by decide +kernel
theorem dX7_told_53 : decode cX7_told 53 = .ok (.iadd, 1) := by decide +kernel
theorem dX7_told_54 : decode cX7_told 54 = .ok (.iaload, 1) := by decide +kernel
theorem dX7_told_55 : decode cX7_told 55 = .ok (.ireturn, 1) := by decide +kernel
theorem dX7_told_56 : decode cX7_told 56 = .ok (.iconst 0, 1) := by decide +kernel
theorem dX7_told_57 : decode cX7_told 57 = .ok (.istore 4, 2) := by decide +kernel
theorem dX7_told_59 : decode cX7_told 59 = .ok (.iconst 0, 1) := by decide +kernel
theorem dX7_told_60 : decode cX7_told 60 = .ok (.istore 5, 2) := by decide +kernel
theorem dX7_told_62 : decode cX7_told 62 = .ok (.iload 5, 2) := by decide +kernel
theorem dX7_told_64 : decode cX7_told 64 = .ok (.iconst 5, 1) := by decide +kernel
theorem dX7_told_65 : decode cX7_told 65 = .ok (.if_icmp .ge 45, 3) := by decide +kernel
theorem dX7_told_68 : decode cX7_told 68 = .ok (.iload 4, 2) := by decide +kernel
theorem dX7_told_70 : decode cX7_told 70 = .ok (.aload_n 0, 1) := by decide +kernel
theorem dX7_told_71 : decode cX7_told 71 = .ok (.getfield 26, 3) := by decide +kernel
theorem dX7_told_74 : decode cX7_told 74 = .ok (.iconst 5, 1) := by decide +kernel
theorem dX7_told_75 : decode cX7_told 75 = .ok (.iload_n 2, 1) := by decide +kernel
theorem dX7_told_76 : decode cX7_told 76 = .ok (.imul, 1) := by decide +kernel
theorem dX7_told_77 : decode cX7_told 77 = .ok (.iload 5, 2) := by decide +kernel
theorem dX7_told_79 : decode cX7_told 79 = .ok (.iadd, 1) := by decide +kernel
theorem dX7_told_80 : decode cX7_told 80 = .ok (.iaload, 1) := by decide +kernel
theorem dX7_told_81 : decode cX7_told 81 = .ok (.iconst 2, 1) := by decide +kernel
theorem dX7_told_82 : decode cX7_told 82 = .ok (.if_icmp .ne 18, 3) := by decide +kernel
theorem dX7_told_85 : decode cX7_told 85 = .ok (.aload_n 0, 1) := by decide +kernel
theorem dX7_told_86 : decode cX7_told 86 = .ok (.iload_n 1, 1) := by decide +kernel
theorem dX7_told_87 : decode cX7_told 87 = .ok (.iload_n 2, 1) := by decide +kernel
theorem dX7_told_88 : decode cX7_told 88 = .ok (.iload 5, 2) := by decide +kernel
theorem dX7_told_90 : decode cX7_told 90 = .ok (.invokevirtual 167, 3) := by decide +kernel
theorem dX7_told_93 : decode cX7_told 93 = .ok (.ifCond .eq 7, 3) := by decide +kernel
theorem dX7_told_96 : decode cX7_told 96 = .ok (.iconst 1, 1) := by decide +kernel
theorem dX7_told_97 : decode cX7_told 97 = .ok (.goto 4, 3) := by decide +kernel
theorem dX7_told_100 : decode cX7_told 100 = .ok (.iconst 0, 1) := by decide +kernel
theorem dX7_told_101 : decode cX7_told 101 = .ok (.iadd, 1) := by decide +kernel
theorem dX7_told_102 : decode cX7_told 102 = .ok (.istore 4, 2) := by decide +kernel
theorem dX7_told_104 : decode cX7_told 104 = .ok (.iinc 5 1, 3) := by decide +kernel
theorem dX7_told_107 : decode cX7_told 107 = .ok (.goto (-45), 3) := by decide +kernel
theorem dX7_told_110 : decode cX7_told 110 = .ok (.iload_n 3, 1) := by decide +kernel
theorem dX7_told_111 : decode cX7_told 111 = .ok (.iconst 2, 1) := by decide +kernel
theorem dX7_told_112 : decode cX7_told 112 = .ok (.if_icmp .ne 8, 3) := by decide +kernel
theorem dX7_told_115 : decode cX7_told 115 = .ok (.iload 4, 2) := by decide +kernel
theorem dX7_told_117 : decode cX7_told 117 = .ok (.goto 5, 3) := by decide +kernel
theorem dX7_told_120 : decode cX7_told 120 = .ok (.bipush (-102), 2) := by decide +kernel
theorem dX7_told_122 : decode cX7_told 122 = .ok (.ireturn, 1) := by decide +kernel
theorem dX7_peek_0 : decode cX7_peek 0 = .ok (.aload_n 0, 1) := by decide +kernel
theorem dX7_peek_1 : decode cX7_peek 1 = .ok (.iconst 0, 1) := by decide +kernel
theorem dX7_peek_2 : decode cX7_peek 2 = .ok (.putfield 120, 3) := by decide +kernel
theorem dX7_peek_5 : decode cX7_peek 5 = .ok (.iload_n 1, 1) := by decide +kernel
theorem dX7_peek_6 : decode cX7_peek 6 = .ok (.invokestatic 195, 3) := by decide +kernel
theorem dX7_peek_9 : decode cX7_peek 9 = .ok (.ifCond .eq 11, 3) := by decide +kernel
theorem dX7_peek_12 : decode cX7_peek 12 = .ok (.aload_n 0, 1) := by decide +kernel
theorem dX7_peek_13 : decode cX7_peek 13 = .ok (.iload_n 2, 1) := by decide +kernel
theorem dX7_peek_14 : decode cX7_peek 14 = .ok (.invokevirtual 127, 3) := by decide +kernel
theorem dX7_peek_17 : decode cX7_peek 17 = .ok (.ifCond .ne 6, 3) := by decide +kernel
theorem dX7_peek_20 : decode cX7_peek 20 = .ok (.bipush (-101), 2) := by decide +kernel
theorem dX7_peek_22 : decode cX7_peek 22 = .ok (.ireturn, 1) := by decide +kernel
theorem dX7_peek_23 : decode cX7_peek 23 = .ok (.iload_n 3, 1) := by decide +kernel
theorem dX7_peek_24 : decode cX7_peek 24 = .ok (.iconst 0, 1) := by decide +kernel
theorem dX7_peek_25 : decode cX7_peek 25 = .ok (.iconst 4, 1) := by decide +kernel
theorem dX7_peek_26 : decode cX7_peek 26 = .ok (.invokestatic 123, 3) := by decide +kernel
theorem dX7_peek_29 : decode cX7_peek 29 = .ok (.ifCond .eq 27, 3) := by decide +kernel
theorem dX7_peek_32 : decode cX7_peek 32 = .ok (.aload_n 0, 1) := by decide +kernel
theorem dX7_peek_33 : decode cX7_peek 33 = .ok (.getfield 26, 3) := by decide +kernel
theorem dX7_peek_36 : decode cX7_peek 36 = .ok (.iconst 5, 1) := by decide +kernel
theorem dX7_peek_37 : decode cX7_peek 37 = .ok (.iload_n 2, 1) := by decide +kernel
theorem dX7_peek_38 : decode cX7_peek 38 = .ok (.imul, 1) := by decide +kernel
theorem dX7_peek_39 : decode cX7_peek 39 = .ok (.iload_n 3, 1) := by decide +kernel
theorem dX7_peek_40 : decode cX7_peek 40 = .ok (.iadd, 1) := by decide +kernel
theorem dX7_peek_41 : decode cX7_peek 41 = .ok (.iaload, 1) := by decide +kernel
theorem dX7_peek_42 : decode cX7_peek 42 = .ok (.iconst 2, 1) := by decide +kernel
theorem dX7_peek_43 : decode cX7_peek 43 = .ok (.if_icmp .ne 13, 3) := by decide +kernel
theorem dX7_peek_46 : decode cX7_peek 46 = .ok (.aload_n 0, 1) := by decide +kernel
theorem dX7_peek_47 : decode cX7_peek 47 = .ok (.iload_n 1, 1) := by decide +kernel
theorem dX7_peek_48 : decode cX7_peek 48 = .ok (.iload_n 2, 1) := by decide +kernel
theorem dX7_peek_49 : decode cX7_peek 49 = .ok (.iload_n 3, 1) := by decide +kernel
theorem dX7_peek_50 : decode cX7_peek 50 = .ok (.invokevirtual 167, 3) := by decide +kernel
theorem dX7_peek_53 : decode cX7_peek 53 = .ok (.goto 5, 3) := by decide +kernel
theorem dX7_peek_56 : decode cX7_peek 56 = .ok (.bipush (-103), 2) := by decide +kernel
theorem dX7_peek_58 : decode cX7_peek 58 = .ok (.ireturn, 1) := by decide +kernel
theorem dX7_start_0 : decode cX7_start 0 = .ok (.aload_n 0, 1) := by decide +kernel
theorem dX7_start_1 : decode cX7_start 1 = .ok (.iconst 0, 1) := by decide +kernel
theorem dX7_start_2 : decode cX7_start 2 = .ok (.putfield 120, 3) := by decide +kernel
theorem dX7_start_5 : decode cX7_start 5 = .ok (.iload_n 1, 1) := by decide +kernel
theorem dX7_start_6 : decode cX7_start 6 = .ok (.iconst 0, 1) := by decide +kernel
theorem dX7_start_7 : decode cX7_start 7 = .ok (.aload_n 0, 1) := by decide +kernel
theorem dX7_start_8 : decode cX7_start 8 = .ok (.getfield 111, 3) := by decide +kernel
theorem dX7_start_11 : decode cX7_start 11 = .ok (.iconst 1, 1) := by decide +kernel
theorem dX7_start_12 : decode cX7_start 12 = .ok (.isub, 1) := by decide +kernel
theorem dX7_start_13 : decode cX7_start 13 = .ok (.invokestatic 123, 3) := by decide +kernel
theorem dX7_start_16 : decode cX7_start 16 = .ok (.ifCond .ne 5, 3) := by decide +kernel
theorem dX7_start_19 : decode cX7_start 19 = .ok (.iconst (-1), 1) := by decide +kernel
theorem dX7_start_20 : decode cX7_start 20 = .ok (.ireturn, 1) := by decide +kernel
theorem dX7_start_21 : decode cX7_start 21 = .ok (.iload_n 2, 1) := by decide +kernel
theorem dX7_start_22 : decode cX7_start 22 = .ok (.iconst 0, 1) := by decide +kernel
theorem dX7_start_23 : decode cX7_start 23 = .ok (.iconst 3, 1) := by decide +kernel
theorem dX7_start_24 : decode cX7_start 24 = .ok (.invokestatic 123, 3) := by decide +kernel
theorem dX7_start_27 : decode cX7_start 27 = .ok (.ifCond .eq 16, 3) := by decide +kernel
theorem dX7_start_30 : decode cX7_start 30 = .ok (.aload_n 0, 1) := by decide +kernel
theorem dX7_start_31 : decode cX7_start 31 = .ok (.getfield 50, 3) := by decide +kernel
theorem dX7_start_34 : decode cX7_start 34 = .ok (.iconst 4, 1) := by decide +kernel
theorem dX7_start_35 : decode cX7_start 35 = .ok (.iload_n 1, 1) := by decide +kernel
theorem dX7_start_36 : decode cX7_start 36 = .ok (.imul, 1) := by decide +kernel
theorem dX7_start_37 : decode cX7_start 37 = .ok (.iload_n 2, 1) := by decide +kernel
theorem dX7_start_38 : decode cX7_start 38 = .ok (.iadd, 1) := by decide +kernel
theorem dX7_start_39 : decode cX7_start 39 = .ok (.iaload, 1) := by decide +kernel
theorem dX7_start_40 : decode cX7_start 40 = .ok (.goto 5, 3) := by decide +kernel
theorem dX7_start_43 : decode cX7_start 43 = .ok (.bipush (-102), 2) := by decide +kernel
theorem dX7_start_45 : decode cX7_start 45 = .ok (.ireturn, 1) := by decide +kernel
theorem dX7_message_0 : decode cX7_message 0 = .ok (.aload_n 0, 1) := by decide +kernel
theorem dX7_message_1 : decode cX7_message 1 = .ok (.iload_n 1, 1) := by decide +kernel
theorem dX7_message_2 : decode cX7_message 2 = .ok (.iconst 0, 1) := by decide +kernel
theorem dX7_message_3 : decode cX7_message 3 = .ok (.aload_n 0, 1) := by decide +kernel
theorem dX7_message_4 : decode cX7_message 4 = .ok (.getfield 114, 3) := by decide +kernel
theorem dX7_message_7 : decode cX7_message 7 = .ok (.iconst 1, 1) := by decide +kernel
theorem dX7_message_8 : decode cX7_message 8 = .ok (.isub, 1) := by decide +kernel
theorem dX7_message_9 : decode cX7_message 9 = .ok (.invokestatic 123, 3) := by decide +kernel
theorem dX7_message_12 : decode cX7_message 12 = .ok (.ifCond .eq 7, 3) := by decide +kernel
theorem dX7_message_15 : decode cX7_message 15 = .ok (.iconst 0, 1) := by decide +kernel
theorem dX7_message_16 : decode cX7_message 16 = .ok (.goto 4, 3) := by decide +kernel
theorem dX7_message_19 : decode cX7_message 19 = .ok (.iconst 1, 1) := by decide +kernel
theorem dX7_message_20 : decode cX7_message 20 = .ok (.putfield 120, 3) := by decide +kernel
theorem dX7_message_23 : decode cX7_message 23 = .ok (.aload_n 0, 1) := by decide +kernel
theorem dX7_message_24 : decode cX7_message 24 = .ok (.getfield 120, 3) := by decide +kernel
theorem dX7_message_27 : decode cX7_message 27 = .ok (.ifCond .le 7, 3) := by decide +kernel
theorem dX7_message_30 : decode cX7_message 30 = .ok (.iconst 0, 1) := by decide +kernel
theorem dX7_message_31 : decode cX7_message 31 = .ok (.goto 9, 3) := by decide +kernel
theorem dX7_message_34 : decode cX7_message 34 = .ok (.aload_n 0, 1) := by decide +kernel
theorem dX7_message_35 : decode cX7_message 35 = .ok (.getfield 53, 3) := by decide +kernel
theorem dX7_message_38 : decode cX7_message 38 = .ok (.iload_n 1, 1) := by decide +kernel
theorem dX7_message_39 : decode cX7_message 39 = .ok (.iaload, 1) := by decide +kernel
theorem dX7_message_40 : decode cX7_message 40 = .ok (.ireturn, 1) := by decide +kernel
theorem dX7_steps_0 : decode cX7_steps 0 = .ok (.aload_n 0, 1) := by decide +kernel
theorem dX7_steps_1 : decode cX7_steps 1 = .ok (.iconst 0, 1) := by decide +kernel
theorem dX7_steps_2 : decode cX7_steps 2 = .ok (.putfield 120, 3) := by decide +kernel
theorem dX7_steps_5 : decode cX7_steps 5 = .ok (.iload_n 1, 1) := by decide +kernel
theorem dX7_steps_6 : decode cX7_steps 6 = .ok (.invokestatic 195, 3) := by decide +kernel
theorem dX7_steps_9 : decode cX7_steps 9 = .ok (.ifCond .ne 6, 3) := by decide +kernel
theorem dX7_steps_12 : decode cX7_steps 12 = .ok (.bipush (-101), 2) := by decide +kernel
theorem dX7_steps_14 : decode cX7_steps 14 = .ok (.ireturn, 1) := by decide +kernel
theorem dX7_steps_15 : decode cX7_steps 15 = .ok (.iload_n 2, 1) := by decide +kernel
theorem dX7_steps_16 : decode cX7_steps 16 = .ok (.iconst 0, 1) := by decide +kernel
theorem dX7_steps_17 : decode cX7_steps 17 = .ok (.ldc 204, 2) := by decide +kernel
theorem dX7_steps_19 : decode cX7_steps 19 = .ok (.invokestatic 123, 3) := by decide +kernel
theorem dX7_steps_22 : decode cX7_steps 22 = .ok (.ifCond .ne 6, 3) := by decide +kernel
theorem dX7_steps_25 : decode cX7_steps 25 = .ok (.bipush (-102), 2) := by decide +kernel
theorem dX7_steps_27 : decode cX7_steps 27 = .ok (.ireturn, 1) := by decide +kernel
theorem dX7_steps_28 : decode cX7_steps 28 = .ok (.aload_n 0, 1) := by decide +kernel
theorem dX7_steps_29 : decode cX7_steps 29 = .ok (.getfield 47, 3) := by decide +kernel
theorem dX7_steps_32 : decode cX7_steps 32 = .ok (.iload_n 1, 1) := by decide +kernel
theorem dX7_steps_33 : decode cX7_steps 33 = .ok (.iaload, 1) := by decide +kernel
theorem dX7_steps_34 : decode cX7_steps 34 = .ok (.istore_n 3, 1) := by decide +kernel
theorem dX7_steps_35 : decode cX7_steps 35 = .ok (.aload_n 0, 1) := by decide +kernel
theorem dX7_steps_36 : decode cX7_steps 36 = .ok (.getfield 47, 3) := by decide +kernel
theorem dX7_steps_39 : decode cX7_steps 39 = .ok (.iload_n 1, 1) := by decide +kernel
theorem dX7_steps_40 : decode cX7_steps 40 = .ok (.iload_n 2, 1) := by decide +kernel
theorem dX7_steps_41 : decode cX7_steps 41 = .ok (.iastore, 1) := by decide +kernel
theorem dX7_steps_42 : decode cX7_steps 42 = .ok (.iload_n 3, 1) := by decide +kernel
theorem dX7_steps_43 : decode cX7_steps 43 = .ok (.ireturn, 1) := by decide +kernel
theorem dX7_undo_0 : decode cX7_undo 0 = .ok (.aload_n 0, 1) := by decide +kernel
theorem dX7_undo_1 : decode cX7_undo 1 = .ok (.iconst 0, 1) := by decide +kernel
theorem dX7_undo_2 : decode cX7_undo 2 = .ok (.putfield 120, 3) := by decide +kernel
theorem dX7_undo_5 : decode cX7_undo 5 = .ok (.iload_n 1, 1) := by decide +kernel
theorem dX7_undo_6 : decode cX7_undo 6 = .ok (.invokestatic 195, 3) := by decide +kernel
theorem dX7_undo_9 : decode cX7_undo 9 = .ok (.ifCond .ne 6, 3) := by decide +kernel
theorem dX7_undo_12 : decode cX7_undo 12 = .ok (.bipush (-101), 2) := by decide +kernel
theorem dX7_undo_14 : decode cX7_undo 14 = .ok (.ireturn, 1) := by decide +kernel
theorem dX7_undo_15 : decode cX7_undo 15 = .ok (.aload_n 0, 1) := by decide +kernel
theorem dX7_undo_16 : decode cX7_undo 16 = .ok (.getfield 56, 3) := by decide +kernel
theorem dX7_undo_19 : decode cX7_undo 19 = .ok (.iload_n 1, 1) := by decide +kernel
theorem dX7_undo_20 : decode cX7_undo 20 = .ok (.iaload, 1) := by decide +kernel
theorem dX7_undo_21 : decode cX7_undo 21 = .ok (.ifCond .ne 5, 3) := by decide +kernel
theorem dX7_undo_24 : decode cX7_undo 24 = .ok (.iconst (-1), 1) := by decide +kernel
theorem dX7_undo_25 : decode cX7_undo 25 = .ok (.ireturn, 1) := by decide +kernel
theorem dX7_undo_26 : decode cX7_undo 26 = .ok (.aload_n 0, 1) := by decide +kernel
theorem dX7_undo_27 : decode cX7_undo 27 = .ok (.getfield 56, 3) := by decide +kernel
theorem dX7_undo_30 : decode cX7_undo 30 = .ok (.iload_n 1, 1) := by decide +kernel
theorem dX7_undo_31 : decode cX7_undo 31 = .ok (.dup2, 1) := by decide +kernel
theorem dX7_undo_32 : decode cX7_undo 32 = .ok (.iaload, 1) := by decide +kernel
theorem dX7_undo_33 : decode cX7_undo 33 = .ok (.iconst 1, 1) := by decide +kernel
theorem dX7_undo_34 : decode cX7_undo 34 = .ok (.isub, 1) := by decide +kernel
theorem dX7_undo_35 : decode cX7_undo 35 = .ok (.iastore, 1) := by decide +kernel
theorem dX7_undo_36 : decode cX7_undo 36 = .ok (.sipush 600, 3) := by decide +kernel
theorem dX7_undo_39 : decode cX7_undo 39 = .ok (.iload_n 1, 1) := by decide +kernel
theorem dX7_undo_40 : decode cX7_undo 40 = .ok (.imul, 1) := by decide +kernel
theorem dX7_undo_41 : decode cX7_undo 41 = .ok (.aload_n 0, 1) := by decide +kernel
theorem dX7_undo_42 : decode cX7_undo 42 = .ok (.getfield 56, 3) := by decide +kernel
theorem dX7_undo_45 : decode cX7_undo 45 = .ok (.iload_n 1, 1) := by decide +kernel
theorem dX7_undo_46 : decode cX7_undo 46 = .ok (.iaload, 1) := by decide +kernel
theorem dX7_undo_47 : decode cX7_undo 47 = .ok (.iadd, 1) := by decide +kernel
theorem dX7_undo_48 : decode cX7_undo 48 = .ok (.istore_n 2, 1) := by decide +kernel
theorem dX7_undo_49 : decode cX7_undo 49 = .ok (.aload_n 0, 1) := by decide +kernel
theorem dX7_undo_50 : decode cX7_undo 50 = .ok (.getfield 59, 3) := by decide +kernel
theorem dX7_undo_53 : decode cX7_undo 53 = .ok (.iload_n 2, 1) := by decide +kernel
theorem dX7_undo_54 : decode cX7_undo 54 = .ok (.iaload, 1) := by decide +kernel
theorem dX7_undo_55 : decode cX7_undo 55 = .ok (.iconst (-1), 1) := by decide +kernel
theorem dX7_undo_56 : decode cX7_undo 56 = .ok (.if_icmp .eq 23, 3) := by decide +kernel
theorem dX7_undo_59 : decode cX7_undo 59 = .ok (.aload_n 0, 1) := by decide +kernel
theorem dX7_undo_60 : decode cX7_undo 60 = .ok (.getfield 44, 3) := by decide +kernel
theorem dX7_undo_63 : decode cX7_undo 63 = .ok (.bipush 16, 2) := by decide +kernel
theorem dX7_undo_65 : decode cX7_undo 65 = .ok (.iload_n 1, 1) := by decide +kernel
theorem dX7_undo_66 : decode cX7_undo 66 = .ok (.imul, 1) := by decide +kernel
theorem dX7_undo_67 : decode cX7_undo 67 = .ok (.aload_n 0, 1) := by decide +kernel
theorem dX7_undo_68 : decode cX7_undo 68 = .ok (.getfield 59, 3) := by decide +kernel
theorem dX7_undo_71 : decode cX7_undo 71 = .ok (.iload_n 2, 1) := by decide +kernel
theorem dX7_undo_72 : decode cX7_undo 72 = .ok (.iaload, 1) := by decide +kernel
theorem dX7_undo_73 : decode cX7_undo 73 = .ok (.iadd, 1) := by decide +kernel
theorem dX7_undo_74 : decode cX7_undo 74 = .ok (.dup2, 1) := by decide +kernel
theorem dX7_undo_75 : decode cX7_undo 75 = .ok (.iaload, 1) := by decide +kernel
theorem dX7_undo_76 : decode cX7_undo 76 = .ok (.iconst 1, 1) := by decide +kernel
theorem dX7_undo_77 : decode cX7_undo 77 = .ok (.isub, 1) := by decide +kernel
theorem dX7_undo_78 : decode cX7_undo 78 = .ok (.iastore, 1) := by decide +kernel
theorem dX7_undo_79 : decode cX7_undo 79 = .ok (.aload_n 0, 1) := by decide +kernel
theorem dX7_undo_80 : decode cX7_undo 80 = .ok (.getfield 62, 3) := by decide +kernel
theorem dX7_undo_83 : decode cX7_undo 83 = .ok (.iload_n 2, 1) := by decide +kernel
theorem dX7_undo_84 : decode cX7_undo 84 = .ok (.iaload, 1) := by decide +kernel
theorem dX7_undo_85 : decode cX7_undo 85 = .ok (.ireturn, 1) := by decide +kernel
theorem dX7_restart_0 : decode cX7_restart 0 = .ok (.aload_n 0, 1) := by decide +kernel
theorem dX7_restart_1 : decode cX7_restart 1 = .ok (.iconst 0, 1) := by decide +kernel
theorem dX7_restart_2 : decode cX7_restart 2 = .ok (.putfield 120, 3) := by decide +kernel
theorem dX7_restart_5 : decode cX7_restart 5 = .ok (.iload_n 1, 1) := by decide +kernel
theorem dX7_restart_6 : decode cX7_restart 6 = .ok (.invokestatic 195, 3) := by decide +kernel
theorem dX7_restart_9 : decode cX7_restart 9 = .ok (.ifCond .ne 6, 3) := by decide +kernel
theorem dX7_restart_12 : decode cX7_restart 12 = .ok (.bipush (-101), 2) := by decide +kernel
theorem dX7_restart_14 : decode cX7_restart 14 = .ok (.ireturn, 1) := by decide +kernel
theorem dX7_restart_15 : decode cX7_restart 15 = .ok (.iconst 0, 1) := by decide +kernel
theorem dX7_restart_16 : decode cX7_restart 16 = .ok (.istore_n 2, 1) := by decide +kernel
theorem dX7_restart_17 : decode cX7_restart 17 = .ok (.iconst 0, 1) := by decide +kernel
theorem dX7_restart_18 : decode cX7_restart 18 = .ok (.istore_n 3, 1) := by decide +kernel
theorem dX7_restart_19 : decode cX7_restart 19 = .ok (.iload_n 3, 1) := by decide +kernel
theorem dX7_restart_20 : decode cX7_restart 20 = .ok (.aload_n 0, 1) := by decide +kernel
theorem dX7_restart_21 : decode cX7_restart 21 = .ok (.getfield 101, 3) := by decide +kernel
theorem dX7_restart_24 : decode cX7_restart 24 = .ok (.if_icmp .ge 88, 3) := by decide +kernel
theorem dX7_restart_27 : decode cX7_restart 27 = .ok (.bipush 16, 2) := by decide +kernel
theorem dX7_restart_29 : decode cX7_restart 29 = .ok (.iload_n 1, 1) := by decide +kernel
theorem dX7_restart_30 : decode cX7_restart 30 = .ok (.imul, 1) := by decide +kernel
theorem dX7_restart_31 : decode cX7_restart 31 = .ok (.iload_n 3, 1) := by decide +kernel
theorem dX7_restart_32 : decode cX7_restart 32 = .ok (.iadd, 1) := by decide +kernel
theorem dX7_restart_33 : decode cX7_restart 33 = .ok (.istore 4, 2) := by decide +kernel
theorem dX7_restart_35 : decode cX7_restart 35 = .ok (.aload_n 0, 1) := by decide +kernel
theorem dX7_restart_36 : decode cX7_restart 36 = .ok (.getfield 44, 3) := by decide +kernel
theorem dX7_restart_39 : decode cX7_restart 39 = .ok (.iload 4, 2) := by decide +kernel
theorem dX7_restart_41 : decode cX7_restart 41 = .ok (.iconst 0, 1) := by decide +kernel
theorem dX7_restart_42 : decode cX7_restart 42 = .ok (.iastore, 1) := by decide +kernel
theorem dX7_restart_43 : decode cX7_restart 43 = .ok (.aload_n 0, 1) := by decide +kernel
theorem dX7_restart_44 : decode cX7_restart 44 = .ok (.getfield 16, 3) := by decide +kernel
theorem dX7_restart_47 : decode cX7_restart 47 = .ok (.iload_n 3, 1) := by decide +kernel
theorem dX7_restart_48 : decode cX7_restart 48 = .ok (.baload, 1) := by decide +kernel
theorem dX7_restart_49 : decode cX7_restart 49 = .ok (.ifCond .ne 57, 3) := by decide +kernel
theorem dX7_restart_52 : decode cX7_restart 52 = .ok (.iload_n 2, 1) := by decide +kernel
theorem dX7_restart_53 : decode cX7_restart 53 = .ok (.aload_n 0, 1) := by decide +kernel
theorem dX7_restart_54 : decode cX7_restart 54 = .ok (.getfield 38, 3) := by decide +kernel
theorem dX7_restart_57 : decode cX7_restart 57 = .ok (.iload 4, 2) := by decide +kernel
theorem dX7_restart_59 : decode cX7_restart 59 = .ok (.iaload, 1) := by decide +kernel
theorem dX7_restart_60 : decode cX7_restart 60 = .ok (.ifCond .ne 7, 3) := by decide +kernel
theorem dX7_restart_63 : decode cX7_restart 63 = .ok (.iconst 0, 1) := by decide +kernel
theorem dX7_restart_64 : decode cX7_restart 64 = .ok (.goto 4, 3) := by decide +kernel
theorem dX7_restart_67 : decode cX7_restart 67 = .ok (.iconst 1, 1) := by decide +kernel
theorem dX7_restart_68 : decode cX7_restart 68 = .ok (.iadd, 1) := by decide +kernel
theorem dX7_restart_69 : decode cX7_restart 69 = .ok (.istore_n 2, 1) := by decide +kernel
theorem dX7_restart_70 : decode cX7_restart 70 = .ok (.aload_n 0, 1) := by decide +kernel
theorem dX7_restart_71 : decode cX7_restart 71 = .ok (.getfield 38, 3) := by decide +kernel
theorem dX7_restart_74 : decode cX7_restart 74 = .ok (.iload 4, 2) := by decide +kernel
theorem dX7_restart_76 : decode cX7_restart 76 = .ok (.iconst 0, 1) := by decide +kernel
theorem dX7_restart_77 : decode cX7_restart 77 = .ok (.iastore, 1) := by decide +kernel
theorem dX7_restart_78 : decode cX7_restart 78 = .ok (.iconst 0, 1) := by decide +kernel
theorem dX7_restart_79 : decode cX7_restart 79 = .ok (.istore 5, 2) := by decide +kernel
theorem dX7_restart_81 : decode cX7_restart 81 = .ok (.iload 5, 2) := by decide +kernel
theorem dX7_restart_83 : decode cX7_restart 83 = .ok (.iconst 5, 1) := by decide +kernel
theorem dX7_restart_84 : decode cX7_restart 84 = .ok (.if_icmp .ge 22, 3) := by decide +kernel
theorem dX7_restart_87 : decode cX7_restart 87 = .ok (.aload_n 0, 1) := by decide +kernel
theorem dX7_restart_88 : decode cX7_restart 88 = .ok (.getfield 41, 3) := by decide +kernel
theorem dX7_restart_91 : decode cX7_restart 91 = .ok (.iconst 5, 1) := by decide +kernel
theorem dX7_restart_92 : decode cX7_restart 92 = .ok (.iload 4, 2) := by decide +kernel
theorem dX7_restart_94 : decode cX7_restart 94 = .ok (.imul, 1) := by decide +kernel
theorem dX7_restart_95 : decode cX7_restart 95 = .ok (.iload 5, 2) := by decide +kernel
theorem dX7_restart_97 : decode cX7_restart 97 = .ok (.iadd, 1) := by decide +kernel
theorem dX7_restart_98 : decode cX7_restart 98 = .ok (.iconst 0, 1) := by decide +kernel
theorem dX7_restart_99 : decode cX7_restart 99 = .ok (.iastore, 1) := by decide +kernel
theorem dX7_restart_100 : decode cX7_restart 100 = .ok (.iinc 5 1, 3) := by decide +kernel
theorem dX7_restart_103 : decode cX7_restart 103 = .ok (.goto (-22), 3) := by decide +kernel
theorem dX7_restart_106 : decode cX7_restart 106 = .ok (.iinc 3 1, 3) := by decide +kernel
theorem dX7_restart_109 : decode cX7_restart 109 = .ok (.goto (-90), 3) := by decide +kernel
theorem dX7_restart_112 : decode cX7_restart 112 = .ok (.aload_n 0, 1) := by decide +kernel
theorem dX7_restart_113 : decode cX7_restart 113 = .ok (.getfield 56, 3) := by decide +kernel
theorem dX7_restart_116 : decode cX7_restart 116 = .ok (.iload_n 1, 1) := by decide +kernel
theorem dX7_restart_117 : decode cX7_restart 117 = .ok (.iconst 0, 1) := by decide +kernel
theorem dX7_restart_118 : decode cX7_restart 118 = .ok (.iastore, 1) := by decide +kernel
theorem dX7_restart_119 : decode cX7_restart 119 = .ok (.iload_n 2, 1) := by decide +kernel
theorem dX7_restart_120 : decode cX7_restart 120 = .ok (.ireturn, 1) := by decide +kernel
theorem dX7_about_0 : decode cX7_about 0 = .ok (.aload_n 0, 1) := by decide +kernel
theorem dX7_about_1 : decode cX7_about 1 = .ok (.iconst 0, 1) := by decide +kernel
theorem dX7_about_2 : decode cX7_about 2 = .ok (.putfield 120, 3) := by decide +kernel
theorem dX7_about_5 : decode cX7_about 5 = .ok (.iload_n 1, 1) := by decide +kernel
theorem dX7_about_6 : decode cX7_about 6 = .ok (.ifCond .ne 10, 3) := by decide +kernel
theorem dX7_about_9 : decode cX7_about 9 = .ok (.aload_n 0, 1) := by decide +kernel
theorem dX7_about_10 : decode cX7_about 10 = .ok (.getfield 101, 3) := by decide +kernel
theorem dX7_about_13 : decode cX7_about 13 = .ok (.goto 53, 3) := by decide +kernel
theorem dX7_about_16 : decode cX7_about 16 = .ok (.iload_n 1, 1) := by decide +kernel
theorem dX7_about_17 : decode cX7_about 17 = .ok (.iconst 1, 1) := by decide +kernel
theorem dX7_about_18 : decode cX7_about 18 = .ok (.if_icmp .ne 10, 3) := by decide +kernel
theorem dX7_about_21 : decode cX7_about 21 = .ok (.aload_n 0, 1) := by decide +kernel
theorem dX7_about_22 : decode cX7_about 22 = .ok (.getfield 108, 3) := by decide +kernel
theorem dX7_about_25 : decode cX7_about 25 = .ok (.goto 41, 3) := by decide +kernel
theorem dX7_about_28 : decode cX7_about 28 = .ok (.iload_n 1, 1) := by decide +kernel
theorem dX7_about_29 : decode cX7_about 29 = .ok (.iconst 2, 1) := by decide +kernel
theorem dX7_about_30 : decode cX7_about 30 = .ok (.if_icmp .ne 10, 3) := by decide +kernel
theorem dX7_about_33 : decode cX7_about 33 = .ok (.aload_n 0, 1) := by decide +kernel
theorem dX7_about_34 : decode cX7_about 34 = .ok (.getfield 111, 3) := by decide +kernel
theorem dX7_about_37 : decode cX7_about 37 = .ok (.goto 29, 3) := by decide +kernel
theorem dX7_about_40 : decode cX7_about 40 = .ok (.iload_n 1, 1) := by decide +kernel
theorem dX7_about_41 : decode cX7_about 41 = .ok (.iconst 3, 1) := by decide +kernel
theorem dX7_about_42 : decode cX7_about 42 = .ok (.if_icmp .ne 10, 3) := by decide +kernel
theorem dX7_about_45 : decode cX7_about 45 = .ok (.aload_n 0, 1) := by decide +kernel
theorem dX7_about_46 : decode cX7_about 46 = .ok (.getfield 114, 3) := by decide +kernel
theorem dX7_about_49 : decode cX7_about 49 = .ok (.goto 17, 3) := by decide +kernel
theorem dX7_about_52 : decode cX7_about 52 = .ok (.iload_n 1, 1) := by decide +kernel
theorem dX7_about_53 : decode cX7_about 53 = .ok (.iconst 4, 1) := by decide +kernel
theorem dX7_about_54 : decode cX7_about 54 = .ok (.if_icmp .ne 10, 3) := by decide +kernel
theorem dX7_about_57 : decode cX7_about 57 = .ok (.aload_n 0, 1) := by decide +kernel
theorem dX7_about_58 : decode cX7_about 58 = .ok (.getfield 117, 3) := by decide +kernel
theorem dX7_about_61 : decode cX7_about 61 = .ok (.goto 5, 3) := by decide +kernel
theorem dX7_about_64 : decode cX7_about 64 = .ok (.bipush (-102), 2) := by decide +kernel
theorem dX7_about_66 : decode cX7_about 66 = .ok (.ireturn, 1) := by decide +kernel
theorem dX7_clear_0 : decode cX7_clear 0 = .ok (.aload_n 0, 1) := by decide +kernel
theorem dX7_clear_1 : decode cX7_clear 1 = .ok (.iconst 0, 1) := by decide +kernel
theorem dX7_clear_2 : decode cX7_clear 2 = .ok (.putfield 120, 3) := by decide +kernel
theorem dX7_clear_5 : decode cX7_clear 5 = .ok (.aload_n 0, 1) := by decide +kernel
theorem dX7_clear_6 : decode cX7_clear 6 = .ok (.getfield 101, 3) := by decide +kernel
theorem dX7_clear_9 : decode cX7_clear 9 = .ok (.istore_n 1, 1) := by decide +kernel
theorem dX7_clear_10 : decode cX7_clear 10 = .ok (.aload_n 0, 1) := by decide +kernel
theorem dX7_clear_11 : decode cX7_clear 11 = .ok (.invokevirtual 98, 3) := by decide +kernel
theorem dX7_clear_14 : decode cX7_clear 14 = .ok (.iload_n 1, 1) := by decide +kernel
theorem dX7_clear_15 : decode cX7_clear 15 = .ok (.ireturn, 1) := by decide +kernel
