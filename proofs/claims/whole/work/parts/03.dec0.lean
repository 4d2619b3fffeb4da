theorem dX0_init_0 : decode cX0_init 0 = .ok (.aload_n 0, 1) := by decide +kernel
theorem dX0_init_1 : decode cX0_init 1 = .ok (.invokespecial 3, 3) := by decide +kernel
theorem dX0_init_4 : decode cX0_init 4 = .ok (.aload_n 0, 1) := by decide +kernel
theorem dX0_init_5 : decode cX0_init 5 = .ok (.iconst 3, 1) := by decide +kernel
theorem dX0_init_6 : decode cX0_init 6 = .ok (.newarray .int, 2) := by decide +kernel
theorem dX0_init_8 : decode cX0_init 8 = .ok (.putfield 9, 3) := by decide +kernel
theorem dX0_init_11 : decode cX0_init 11 = .ok (.aload_n 0, 1) := by decide +kernel
theorem dX0_init_12 : decode cX0_init 12 = .ok (.iconst 3, 1) := by decide +kernel
theorem dX0_init_13 : decode cX0_init 13 = .ok (.newarray .int, 2) := by decide +kernel
theorem dX0_init_15 : decode cX0_init 15 = .ok (.putfield 15, 3) := by decide +kernel
theorem dX0_init_18 : decode cX0_init 18 = .ok (.aload_n 0, 1) := by decide +kernel
theorem dX0_init_19 : decode cX0_init 19 = .ok (.iconst 5, 1) := by decide +kernel
theorem dX0_init_20 : decode cX0_init 20 = .ok (.bipush 7, 2) := by decide +kernel
theorem dX0_init_22 : decode cX0_init 22 = .ok (.multianewarray 18 2, 4) := by decide +kernel
theorem dX0_init_26 : decode cX0_init 26 = .ok (.putfield 20, 3) := by decide +kernel
theorem dX0_init_29 : decode cX0_init 29 = .ok (.aload_n 0, 1) := by decide +kernel
theorem dX0_init_30 : decode cX0_init 30 = .ok (.iconst 5, 1) := by decide +kernel
theorem dX0_init_31 : decode cX0_init 31 = .ok (.bipush 6, 2) := by decide +kernel
theorem dX0_init_33 : decode cX0_init 33 = .ok (.multianewarray 18 2, 4) := by decide +kernel
theorem dX0_init_37 : decode cX0_init 37 = .ok (.putfield 23, 3) := by decide +kernel
theorem dX0_init_40 : decode cX0_init 40 = .ok (.aload_n 0, 1) := by decide +kernel
theorem dX0_init_41 : decode cX0_init 41 = .ok (.iconst 5, 1) := by decide +kernel
theorem dX0_init_42 : decode cX0_init 42 = .ok (.bipush 6, 2) := by decide +kernel
theorem dX0_init_44 : decode cX0_init 44 = .ok (.multianewarray 18 2, 4) := by decide +kernel
theorem dX0_init_48 : decode cX0_init 48 = .ok (.putfield 26, 3) := by decide +kernel
theorem dX0_init_51 : decode cX0_init 51 = .ok (.aload_n 0, 1) := by decide +kernel
theorem dX0_init_52 : decode cX0_init 52 = .ok (.iconst 5, 1) := by decide +kernel
theorem dX0_init_53 : decode cX0_init 53 = .ok (.iconst 2, 1) := by decide +kernel
theorem dX0_init_54 : decode cX0_init 54 = .ok (.multianewarray 18 2, 4) := by decide +kernel
theorem dX0_init_58 : decode cX0_init 58 = .ok (.putfield 29, 3) := by decide +kernel
theorem dX0_init_61 : decode cX0_init 61 = .ok (.aload_n 0, 1) := by decide +kernel
theorem dX0_init_62 : decode cX0_init 62 = .ok (.bipush 19, 2) := by decide +kernel
theorem dX0_init_64 : decode cX0_init 64 = .ok (.iconst 5, 1) := by decide +kernel
theorem dX0_init_65 : decode cX0_init 65 = .ok (.multianewarray 18 2, 4) := by decide +kernel
theorem dX0_init_69 : decode cX0_init 69 = .ok (.putfield 32, 3) := by decide +kernel
theorem dX0_init_72 : decode cX0_init 72 = .ok (.return_, 1) := by decide +kernel
theorem dX0_clear_0 : decode cX0_clear 0 = .ok (.aload_n 0, 1) := by decide +kernel
theorem dX0_clear_1 : decode cX0_clear 1 = .ok (.iconst 0, 1) := by decide +kernel
theorem dX0_clear_2 : decode cX0_clear 2 = .ok (.putfield 35, 3) := by decide +kernel
theorem dX0_clear_5 : decode cX0_clear 5 = .ok (.aload_n 0, 1) := by decide +kernel
theorem dX0_clear_6 : decode cX0_clear 6 = .ok (.iconst 0, 1) := by decide +kernel
theorem dX0_clear_7 : decode cX0_clear 7 = .ok (.putfield 39, 3) := by decide +kernel
theorem dX0_clear_10 : decode cX0_clear 10 = .ok (.aload_n 0, 1) := by decide +kernel
theorem dX0_clear_11 : decode cX0_clear 11 = .ok (.iconst 0, 1) := by decide +kernel
theorem dX0_clear_12 : decode cX0_clear 12 = .ok (.putfield 42, 3) := by decide +kernel
theorem dX0_clear_15 : decode cX0_clear 15 = .ok (.aload_n 0, 1) := by decide +kernel
theorem dX0_clear_16 : decode cX0_clear 16 = .ok (.iconst 0, 1) := by decide +kernel
theorem dX0_clear_17 : decode cX0_clear 17 = .ok (.putfield 45, 3) := by decide +kernel
theorem dX0_clear_20 : decode cX0_clear 20 = .ok (.aload_n 0, 1) := by decide +kernel
theorem dX0_clear_21 : decode cX0_clear 21 = .ok (.iconst 0, 1) := by decide +kernel
theorem dX0_clear_22 : decode cX0_clear 22 = .ok (.putfield 48, 3) := by decide +kernel
theorem dX0_clear_25 : decode cX0_clear 25 = .ok (.aload_n 0, 1) := by decide +kernel
theorem dX0_clear_26 : decode cX0_clear 26 = .ok (.iconst 0, 1) := by decide +kernel
theorem dX0_clear_27 : decode cX0_clear 27 = .ok (.putfield 51, 3) := by decide +kernel
theorem dX0_clear_30 : decode cX0_clear 30 = .ok (.aload_n 0, 1) := by decide +kernel
theorem dX0_clear_31 : decode cX0_clear 31 = .ok (.iconst 0, 1) := by decide +kernel
theorem dX0_clear_32 : decode cX0_clear 32 = .ok (.putfield 54, 3) := by decide +kernel
theorem dX0_clear_35 : decode cX0_clear 35 = .ok (.aload_n 0, 1) := by decide +kernel
theorem dX0_clear_36 : decode cX0_clear 36 = .ok (.iconst 0, 1) := by decide +kernel
theorem dX0_clear_37 : decode cX0_clear 37 = .ok (.putfield 57, 3) := by decide +kernel
theorem dX0_clear_40 : decode cX0_clear 40 = .ok (.iconst 0, 1) := by decide +kernel
theorem dX0_clear_41 : decode cX0_clear 41 = .ok (.istore_n 1, 1) := by decide +kernel
theorem dX0_clear_42 : decode cX0_clear 42 = .ok (.iload_n 1, 1) := by decide +kernel
theorem dX0_clear_43 : decode cX0_clear 43 = .ok (.iconst 5, 1) := by decide +kernel
theorem dX0_clear_44 : decode cX0_clear 44 = .ok (.if_icmp .ge 42, 3) := by decide +kernel
theorem dX0_clear_47 : decode cX0_clear 47 = .ok (.aload_n 0, 1) := by decide +kernel
theorem dX0_clear_48 : decode cX0_clear 48 = .ok (.getfield 20, 3) := by decide +kernel
theorem dX0_clear_51 : decode cX0_clear 51 = .ok (.iload_n 1, 1) := by decide +kernel
theorem dX0_clear_52 : decode cX0_clear 52 = .ok (.aaload, 1) := by decide +kernel
theorem dX0_clear_53 : decode cX0_clear 53 = .ok (.bipush 6, 2) := by decide +kernel
theorem dX0_clear_55 : decode cX0_clear 55 = .ok (.iconst 0, 1) := by decide +kernel
theorem dX0_clear_56 : decode cX0_clear 56 = .ok (.iastore, 1) := by decide +kernel
theorem dX0_clear_57 : decode cX0_clear 57 = .ok (.iconst 0, 1) := by decide +kernel
theorem dX0_clear_58 : decode cX0_clear 58 = .ok (.istore_n 2, 1) := by decide +kernel
theorem dX0_clear_59 : decode cX0_clear 59 = .ok (.iload_n 2, 1) := by decide +kernel
theorem dX0_clear_60 : decode cX0_clear 60 = .ok (.bipush 6, 2) := by decide +kernel
theorem dX0_clear_62 : decode cX0_clear 62 = .ok (.if_icmp .ge 18, 3) := by decide +kernel
theorem dX0_clear_65 : decode cX0_clear 65 = .ok (.aload_n 0, 1) := by decide +kernel
theorem dX0_clear_66 : decode cX0_clear 66 = .ok (.getfield 26, 3) := by decide +kernel
theorem dX0_clear_69 : decode cX0_clear 69 = .ok (.iload_n 1, 1) := by decide +kernel
theorem dX0_clear_70 : decode cX0_clear 70 = .ok (.aaload, 1) := by decide +kernel
theorem dX0_clear_71 : decode cX0_clear 71 = .ok (.iload_n 2, 1) := by decide +kernel
theorem dX0_clear_72 : decode cX0_clear 72 = .ok (.iconst 0, 1) := by decide +kernel
theorem dX0_clear_73 : decode cX0_clear 73 = .ok (.iastore, 1) := by decide +kernel
theorem dX0_clear_74 : decode cX0_clear 74 = .ok (.iinc 2 1, 3) := by decide +kernel
theorem dX0_clear_77 : decode cX0_clear 77 = .ok (.goto (-18), 3) := by decide +kernel
theorem dX0_clear_80 : decode cX0_clear 80 = .ok (.iinc 1 1, 3) := by decide +kernel
theorem dX0_clear_83 : decode cX0_clear 83 = .ok (.goto (-41), 3) := by decide +kernel
theorem dX0_clear_86 : decode cX0_clear 86 = .ok (.return_, 1) := by decide +kernel
theorem dX0_copyFrom_0 : decode cX0_copyFrom 0 = .ok (.aload_n 0, 1) := by decide +kernel
theorem dX0_copyFrom_1 : decode cX0_copyFrom 1 = .ok (.aload_n 1, 1) := by decide +kernel
theorem dX0_copyFrom_2 : decode cX0_copyFrom 2 = .ok (.getfield 35, 3) := by decide +kernel
theorem dX0_copyFrom_5 : decode cX0_copyFrom 5 = .ok (.putfield 35, 3) := by decide +kernel
theorem dX0_copyFrom_8 : decode cX0_copyFrom 8 = .ok (.aload_n 0, 1) := by decide +kernel
theorem dX0_copyFrom_9 : decode cX0_copyFrom 9 = .ok (.aload_n 1, 1) := by decide +kernel
theorem dX0_copyFrom_10 : decode cX0_copyFrom 10 = .ok (.getfield 39, 3) := by decide +kernel
theorem dX0_copyFrom_13 : decode cX0_copyFrom 13 = .ok (.putfield 39, 3) := by decide +kernel
theorem dX0_copyFrom_16 : decode cX0_copyFrom 16 = .ok (.aload_n 0, 1) := by decide +kernel
theorem dX0_copyFrom_17 : decode cX0_copyFrom 17 = .ok (.aload_n 1, 1) := by decide +kernel
theorem dX0_copyFrom_18 : decode cX0_copyFrom 18 = .ok (.getfield 42, 3) := by decide +kernel
theorem dX0_copyFrom_21 : decode cX0_copyFrom 21 = .ok (.putfield 42, 3) := by decide +kernel
theorem dX0_copyFrom_24 : decode cX0_copyFrom 24 = .ok (.aload_n 0, 1) := by decide +kernel
theorem dX0_copyFrom_25 : decode cX0_copyFrom 25 = .ok (.aload_n 1, 1) := by decide +kernel
theorem dX0_copyFrom_26 : decode cX0_copyFrom 26 = .ok (.getfield 45, 3) := by decide +kernel
theorem dX0_copyFrom_29 : decode cX0_copyFrom 29 = .ok (.putfield 45, 3) := by decide +kernel
theorem dX0_copyFrom_32 : decode cX0_copyFrom 32 = .ok (.aload_n 0, 1) := by decide +kernel
theorem dX0_copyFrom_33 : decode cX0_copyFrom 33 = .ok (.aload_n 1, 1) := by decide +kernel
theorem dX0_copyFrom_34 : decode cX0_copyFrom 34 = .ok (.getfield 48, 3) := by decide +kernel
theorem dX0_copyFrom_37 : decode cX0_copyFrom 37 = .ok (.putfield 48, 3) := by decide +kernel
theorem dX0_copyFrom_40 : decode cX0_copyFrom 40 = .ok (.aload_n 0, 1) := by decide +kernel
theorem dX0_copyFrom_41 : decode cX0_copyFrom 41 = .ok (.aload_n 1, 1) := by decide +kernel
theorem dX0_copyFrom_42 : decode cX0_copyFrom 42 = .ok (.getfield 51, 3) := by decide +kernel
theorem dX0_copyFrom_45 : decode cX0_copyFrom 45 = .ok (.putfield 51, 3) := by decide +kernel
theorem dX0_copyFrom_48 : decode cX0_copyFrom 48 = .ok (.aload_n 0, 1) := by decide +kernel
theorem dX0_copyFrom_49 : decode cX0_copyFrom 49 = .ok (.aload_n 1, 1) := by decide +kernel
theorem dX0_copyFrom_50 : decode cX0_copyFrom 50 = .ok (.getfield 54, 3) := by decide +kernel
theorem dX0_copyFrom_53 : decode cX0_copyFrom 53 = .ok (.putfield 54, 3) := by decide +kernel
theorem dX0_copyFrom_56 : decode cX0_copyFrom 56 = .ok (.aload_n 0, 1) := by decide +kernel
theorem dX0_copyFrom_57 : decode cX0_copyFrom 57 = .ok (.aload_n 1, 1) := by decide +kernel
theorem dX0_copyFrom_58 : decode cX0_copyFrom 58 = .ok (.getfield 57, 3) := by decide +kernel
theorem dX0_copyFrom_61 : decode cX0_copyFrom 61 = .ok (.putfield 57, 3) := by decide +kernel
theorem dX0_copyFrom_64 : decode cX0_copyFrom 64 = .ok (.aload_n 1, 1) := by decide +kernel
theorem dX0_copyFrom_65 : decode cX0_copyFrom 65 = .ok (.getfield 9, 3) := by decide +kernel
theorem dX0_copyFrom_68 : decode cX0_copyFrom 68 = .ok (.iconst 0, 1) := by decide +kernel
theorem dX0_copyFrom_69 : decode cX0_copyFrom 69 = .ok (.aload_n 0, 1) := by decide +kernel
theorem dX0_copyFrom_70 : decode cX0_copyFrom 70 = .ok (.getfield 9, 3) := by decide +kernel
theorem dX0_copyFrom_73 : decode cX0_copyFrom 73 = .ok (.iconst 0, 1) := by decide +kernel
theorem dX0_copyFrom_74 : decode cX0_copyFrom 74 = .ok (.iconst 3, 1) := by decide +kernel
theorem dX0_copyFrom_75 : decode cX0_copyFrom 75 = .ok (.invokestatic 60, 3) := by decide +kernel
theorem dX0_copyFrom_78 : decode cX0_copyFrom 78 = .ok (.aload_n 1, 1) := by decide +kernel
theorem dX0_copyFrom_79 : decode cX0_copyFrom 79 = .ok (.getfield 15, 3) := by decide +kernel
theorem dX0_copyFrom_82 : decode cX0_copyFrom 82 = .ok (.iconst 0, 1) := by decide +kernel
theorem dX0_copyFrom_83 : decode cX0_copyFrom 83 = .ok (.aload_n 0, 1) := by decide +kernel
theorem dX0_copyFrom_84 : decode cX0_copyFrom 84 = .ok (.getfield 15, 3) := by decide +kernel
theorem dX0_copyFrom_87 : decode cX0_copyFrom 87 = .ok (.iconst 0, 1) := by decide +kernel
theorem dX0_copyFrom_88 : decode cX0_copyFrom 88 = .ok (.iconst 3, 1) := by decide +kernel
theorem dX0_copyFrom_89 : decode cX0_copyFrom 89 = .ok (.invokestatic 60, 3) := by decide +kernel
theorem dX0_copyFrom_92 : decode cX0_copyFrom 92 = .ok (.iconst 0, 1) := by decide +kernel
theorem dX0_copyFrom_93 : decode cX0_copyFrom 93 = .ok (.istore_n 2, 1) := by decide +kernel
theorem dX0_copyFrom_94 : decode cX0_copyFrom 94 = .ok (.iload_n 2, 1) := by decide +kernel
theorem dX0_copyFrom_95 : decode cX0_copyFrom 95 = .ok (.iconst 5, 1) := by decide +kernel
theorem dX0_copyFrom_96 : decode cX0_copyFrom 96 = .ok (.if_icmp .ge 84, 3) := by decide +kernel
theorem dX0_copyFrom_99 : decode cX0_copyFrom 99 = .ok (.aload_n 1, 1) := by decide +kernel
theorem dX0_copyFrom_100 : decode cX0_copyFrom 100 = .ok (.getfield 20, 3) := by decide +kernel
theorem dX0_copyFrom_103 : decode cX0_copyFrom 103 = .ok (.iload_n 2, 1) := by decide +kernel
theorem dX0_copyFrom_104 : decode cX0_copyFrom 104 = .ok (.aaload, 1) := by decide +kernel
theorem dX0_copyFrom_105 : decode cX0_copyFrom 105 = .ok (.iconst 0, 1) := by decide +kernel
theorem dX0_copyFrom_106 : decode cX0_copyFrom 106 = .ok (.aload_n 0, 1) := by decide +kernel
theorem dX0_copyFrom_107 : decode cX0_copyFrom 107 = .ok (.getfield 20, 3) := by decide +kernel
theorem dX0_copyFrom_110 : decode cX0_copyFrom 110 = .ok (.iload_n 2, 1) := by decide +kernel
theorem dX0_copyFrom_111 : decode cX0_copyFrom 111 = .ok (.aaload, 1) := by decide +kernel
theorem dX0_copyFrom_112 : decode cX0_copyFrom 112 = .ok (.iconst 0, 1) := by decide +kernel
theorem dX0_copyFrom_113 : decode cX0_copyFrom 113 = .ok (.bipush 7, 2) := by decide +kernel
theorem dX0_copyFrom_115 : decode cX0_copyFrom 115 = .ok (.invokestatic 60, 3) := by decide +kernel
theorem dX0_copyFrom_118 : decode cX0_copyFrom 118 = .ok (.aload_n 1, 1) := by decide +kernel
theorem dX0_copyFrom_119 : decode cX0_copyFrom 119 = .ok (.getfield 23, 3) := by decide +kernel
theorem dX0_copyFrom_122 : decode cX0_copyFrom 122 = .ok (.iload_n 2, 1) := by decide +kernel
theorem dX0_copyFrom_123 : decode cX0_copyFrom 123 = .ok (.aaload, 1) := by decide +kernel
theorem dX0_copyFrom_124 : decode cX0_copyFrom 124 = .ok (.iconst 0, 1) := by decide +kernel
theorem dX0_copyFrom_125 : decode cX0_copyFrom 125 = .ok (.aload_n 0, 1) := by decide +kernel
theorem dX0_copyFrom_126 : decode cX0_copyFrom 126 = .ok (.getfield 23, 3) := by decide +kernel
theorem dX0_copyFrom_129 : decode cX0_copyFrom 129 = .ok (.iload_n 2, 1) := by decide +kernel
theorem dX0_copyFrom_130 : decode cX0_copyFrom 130 = .ok (.aaload, 1) := by decide +kernel
theorem dX0_copyFrom_131 : decode cX0_copyFrom 131 = .ok (.iconst 0, 1) := by decide +kernel
theorem dX0_copyFrom_132 : decode cX0_copyFrom 132 = .ok (.bipush 6, 2) := by decide +kernel
theorem dX0_copyFrom_134 : decode cX0_copyFrom 134 = .ok (.invokestatic 60, 3) := by decide +kernel
theorem dX0_copyFrom_137 : decode cX0_copyFrom 137 = .ok (.aload_n 1, 1) := by decide +kernel
theorem dX0_copyFrom_138 : decode cX0_copyFrom 138 = .ok (.getfield 26, 3) := by decide +kernel
theorem dX0_copyFrom_141 : decode cX0_copyFrom 141 = .ok (.iload_n 2, 1) := by decide +kernel
theorem dX0_copyFrom_142 : decode cX0_copyFrom 142 = .ok (.aaload, 1) := by decide +kernel
theorem dX0_copyFrom_143 : decode cX0_copyFrom 143 = .ok (.iconst 0, 1) := by decide +kernel
theorem dX0_copyFrom_144 : decode cX0_copyFrom 144 = .ok (.aload_n 0, 1) := by decide +kernel
theorem dX0_copyFrom_145 : decode cX0_copyFrom 145 = .ok (.getfield 26, 3) := by decide +kernel
theorem dX0_copyFrom_148 : decode cX0_copyFrom 148 = .ok (.iload_n 2, 1) := by decide +kernel
theorem dX0_copyFrom_149 : decode cX0_copyFrom 149 = .ok (.aaload, 1) := by decide +kernel
theorem dX0_copyFrom_150 : decode cX0_copyFrom 150 = .ok (.iconst 0, 1) := by decide +kernel
theorem dX0_copyFrom_151 : decode cX0_copyFrom 151 = .ok (.bipush 6, 2) := by decide +kernel
theorem dX0_copyFrom_153 : decode cX0_copyFrom 153 = .ok (.invokestatic 60, 3) := by decide +kernel
theorem dX0_copyFrom_156 : decode cX0_copyFrom 156 = .ok (.aload_n 1, 1) := by decide +kernel
theorem dX0_copyFrom_157 : decode cX0_copyFrom 157 = .ok (.getfield 29, 3) := by decide +kernel
theorem dX0_copyFrom_160 : decode cX0_copyFrom 160 = .ok (.iload_n 2, 1) := by decide +kernel
theorem dX0_copyFrom_161 : decode cX0_copyFrom 161 = .ok (.aaload, 1) := by decide +kernel
theorem dX0_copyFrom_162 : decode cX0_copyFrom 162 = .ok (.iconst 0, 1) := by decide +kernel
theorem dX0_copyFrom_163 : decode cX0_copyFrom 163 = .ok (.aload_n 0, 1) := by decide +kernel
theorem dX0_copyFrom_164 : decode cX0_copyFrom 164 = .ok (.getfield 29, 3) := by decide +kernel
theorem dX0_copyFrom_167 : decode cX0_copyFrom 167 = .ok (.iload_n 2, 1) := by decide +kernel
theorem dX0_copyFrom_168 : decode cX0_copyFrom 168 = .ok (.aaload, 1) := by decide +kernel
theorem dX0_copyFrom_169 : decode cX0_copyFrom 169 = .ok (.iconst 0, 1) := by decide +kernel
theorem dX0_copyFrom_170 : decode cX0_copyFrom 170 = .ok (.iconst 2, 1) := by decide +kernel
theorem dX0_copyFrom_171 : decode cX0_copyFrom 171 = .ok (.invokestatic 60, 3) := by decide +kernel
theorem dX0_copyFrom_174 : decode cX0_copyFrom 174 = .ok (.iinc 2 1, 3) := by decide +kernel
theorem dX0_copyFrom_177 : decode cX0_copyFrom 177 = .ok (.goto (-83), 3) := by decide +kernel
theorem dX0_copyFrom_180 : decode cX0_copyFrom 180 = .ok (.iconst 0, 1) := by decide +kernel
theorem dX0_copyFrom_181 : decode cX0_copyFrom 181 = .ok (.istore_n 2, 1) := by decide +kernel
theorem dX0_copyFrom_182 : decode cX0_copyFrom 182 = .ok (.iload_n 2, 1) := by decide +kernel
theorem dX0_copyFrom_183 : decode cX0_copyFrom 183 = .ok (.bipush 19, 2) := by decide +kernel
theorem dX0_copyFrom_185 : decode cX0_copyFrom 185 = .ok (.if_icmp .ge 27, 3) := by decide +kernel
theorem dX0_copyFrom_188 : decode cX0_copyFrom 188 = .ok (.aload_n 1, 1) := by decide +kernel
theorem dX0_copyFrom_189 : decode cX0_copyFrom 189 = .ok (.getfield 32, 3) := by decide +kernel
theorem dX0_copyFrom_192 : decode cX0_copyFrom 192 = .ok (.iload_n 2, 1) := by decide +kernel
theorem dX0_copyFrom_193 : decode cX0_copyFrom 193 = .ok (.aaload, 1) := by decide +kernel
theorem dX0_copyFrom_194 : decode cX0_copyFrom 194 = .ok (.iconst 0, 1) := by decide +kernel
theorem dX0_copyFrom_195 : decode cX0_copyFrom 195 = .ok (.aload_n 0, 1) := by decide +kernel
theorem dX0_copyFrom_196 : decode cX0_copyFrom 196 = .ok (.getfield 32, 3) := by decide +kernel
theorem dX0_copyFrom_199 : decode cX0_copyFrom 199 = .ok (.iload_n 2, 1) := by decide +kernel
theorem dX0_copyFrom_200 : decode cX0_copyFrom 200 = .ok (.aaload, 1) := by decide +kernel
theorem dX0_copyFrom_201 : decode cX0_copyFrom 201 = .ok (.iconst 0, 1) := by decide +kernel
theorem dX0_copyFrom_202 : decode cX0_copyFrom 202 = .ok (.iconst 5, 1) := by decide +kernel
theorem dX0_copyFrom_203 : decode cX0_copyFrom 203 = .ok (.invokestatic 60, 3) := by decide +kernel
theorem dX0_copyFrom_206 : decode cX0_copyFrom 206 = .ok (.iinc 2 1, 3) := by decide +kernel
theorem dX0_copyFrom_209 : decode cX0_copyFrom 209 = .ok (.goto (-27), 3) := by decide +kernel
theorem dX0_copyFrom_212 : decode cX0_copyFrom 212 = .ok (.return_, 1) := by decide +kernel
theorem dX0_hasTask_0 : decode cX0_hasTask 0 = .ok (.iload_n 1, 1) := by decide +kernel
theorem dX0_hasTask_1 : decode cX0_hasTask 1 = .ok (.ifCond .lt 15, 3) := by decide +kernel
theorem dX0_hasTask_4 : decode cX0_hasTask 4 = .ok (.iload_n 1, 1) := by decide +kernel
theorem dX0_hasTask_5 : decode cX0_hasTask 5 = .ok (.aload_n 0, 1) := by decide +kernel
theorem dX0_hasTask_6 : decode cX0_hasTask 6 = .ok (.getfield 51, 3) := by decide +kernel
theorem dX0_hasTask_9 : decode cX0_hasTask 9 = .ok (.if_icmp .ge 7, 3) := by decide +kernel
theorem dX0_hasTask_12 : decode cX0_hasTask 12 = .ok (.iconst 1, 1) := by decide +kernel
theorem dX0_hasTask_13 : decode cX0_hasTask 13 = .ok (.goto 4, 3) := by decide +kernel
theorem dX0_hasTask_16 : decode cX0_hasTask 16 = .ok (.iconst 0, 1) := by decide +kernel
theorem dX0_hasTask_17 : decode cX0_hasTask 17 = .ok (.ireturn, 1) := by decide +kernel
theorem dX0_hasNode_0 : decode cX0_hasNode 0 = .ok (.aload_n 0, 1) := by decide +kernel
theorem dX0_hasNode_1 : decode cX0_hasNode 1 = .ok (.iload_n 1, 1) := by decide +kernel
theorem dX0_hasNode_2 : decode cX0_hasNode 2 = .ok (.invokevirtual 66, 3) := by decide +kernel
theorem dX0_hasNode_5 : decode cX0_hasNode 5 = .ok (.ifCond .eq 24, 3) := by decide +kernel
theorem dX0_hasNode_8 : decode cX0_hasNode 8 = .ok (.iload_n 2, 1) := by decide +kernel
theorem dX0_hasNode_9 : decode cX0_hasNode 9 = .ok (.ifCond .lt 20, 3) := by decide +kernel
theorem dX0_hasNode_12 : decode cX0_hasNode 12 = .ok (.iload_n 2, 1) := by decide +kernel
theorem dX0_hasNode_13 : decode cX0_hasNode 13 = .ok (.aload_n 0, 1) := by decide +kernel
theorem dX0_hasNode_14 : decode cX0_hasNode 14 = .ok (.getfield 20, 3) := by decide +kernel
theorem dX0_hasNode_17 : decode cX0_hasNode 17 = .ok (.iload_n 1, 1) := by decide +kernel
theorem dX0_hasNode_18 : decode cX0_hasNode 18 = .ok (.aaload, 1) := by decide +kernel
theorem dX0_hasNode_19 : decode cX0_hasNode 19 = .ok (.bipush 6, 2) := by decide +kernel
theorem dX0_hasNode_21 : decode cX0_hasNode 21 = .ok (.iaload, 1) := by decide +kernel
theorem dX0_hasNode_22 : decode cX0_hasNode 22 = .ok (.if_icmp .ge 7, 3) := by decide +kernel
theorem dX0_hasNode_25 : decode cX0_hasNode 25 = .ok (.iconst 1, 1) := by decide +kernel
theorem dX0_hasNode_26 : decode cX0_hasNode 26 = .ok (.goto 4, 3) := by decide +kernel
theorem dX0_hasNode_29 : decode cX0_hasNode 29 = .ok (.iconst 0, 1) := by decide +kernel
theorem dX0_hasNode_30 : decode cX0_hasNode 30 = .ok (.ireturn, 1) := by decide +kernel
theorem dX0_hasWatcher_0 : decode cX0_hasWatcher 0 = .ok (.iload_n 1, 1) := by decide +kernel
theorem dX0_hasWatcher_1 : decode cX0_hasWatcher 1 = .ok (.ifCond .lt 15, 3) := by decide +kernel
theorem dX0_hasWatcher_4 : decode cX0_hasWatcher 4 = .ok (.iload_n 1, 1) := by decide +kernel
theorem dX0_hasWatcher_5 : decode cX0_hasWatcher 5 = .ok (.aload_n 0, 1) := by decide +kernel
theorem dX0_hasWatcher_6 : decode cX0_hasWatcher 6 = .ok (.getfield 48, 3) := by decide +kernel
theorem dX0_hasWatcher_9 : decode cX0_hasWatcher 9 = .ok (.if_icmp .ge 7, 3) := by decide +kernel
theorem dX0_hasWatcher_12 : decode cX0_hasWatcher 12 = .ok (.iconst 1, 1) := by decide +kernel
theorem dX0_hasWatcher_13 : decode cX0_hasWatcher 13 = .ok (.goto 4, 3) := by decide +kernel
theorem dX0_hasWatcher_16 : decode cX0_hasWatcher 16 = .ok (.iconst 0, 1) := by decide +kernel
theorem dX0_hasWatcher_17 : decode cX0_hasWatcher 17 = .ok (.ireturn, 1) := by decide +kernel
theorem dX0_hasInjection_0 : decode cX0_hasInjection 0 = .ok (.iload_n 1, 1) := by decide +kernel
theorem dX0_hasInjection_1 : decode cX0_hasInjection 1 = .ok (.ifCond .lt 20, 3) := by decide +kernel
theorem dX0_hasInjection_4 : decode cX0_hasInjection 4 = .ok (.iload_n 1, 1) := by decide +kernel
theorem dX0_hasInjection_5 : decode cX0_hasInjection 5 = .ok (.aload_n 0, 1) := by decide +kernel
theorem dX0_hasInjection_6 : decode cX0_hasInjection 6 = .ok (.getfield 54, 3) := by decide +kernel
theorem dX0_hasInjection_9 : decode cX0_hasInjection 9 = .ok (.aload_n 0, 1) := by decide +kernel
theorem dX0_hasInjection_10 : decode cX0_hasInjection 10 = .ok (.getfield 57, 3) := by decide +kernel
theorem dX0_hasInjection_13 : decode cX0_hasInjection 13 = .ok (.iadd, 1) := by decide +kernel
theorem dX0_hasInjection_14 : decode cX0_hasInjection 14 = .ok (.if_icmp .ge 7, 3) := by decide +kernel
theorem dX0_hasInjection_17 : decode cX0_hasInjection 17 = .ok (.iconst 1, 1) := by decide +kernel
theorem dX0_hasInjection_18 : decode cX0_hasInjection 18 = .ok (.goto 4, 3) := by decide +kernel
theorem dX0_hasInjection_21 : decode cX0_hasInjection 21 = .ok (.iconst 0, 1) := by decide +kernel
theorem dX0_hasInjection_22 : decode cX0_hasInjection 22 = .ok (.ireturn, 1) := by decide +kernel
theorem dX0_isFollower_0 : decode cX0_isFollower 0 = .ok (.aload_n 0, 1) := by decide +kernel
theorem dX0_isFollower_1 : decode cX0_isFollower 1 = .ok (.iload_n 1, 1) := by decide +kernel
theorem dX0_isFollower_2 : decode cX0_isFollower 2 = .ok (.iload_n 2, 1) := by decide +kernel
theorem dX0_isFollower_3 : decode cX0_isFollower 3 = .ok (.invokevirtual 70, 3) := by decide +kernel
theorem dX0_isFollower_6 : decode cX0_isFollower 6 = .ok (.ifCond .eq 22, 3) := by decide +kernel
theorem dX0_isFollower_9 : decode cX0_isFollower 9 = .ok (.aload_n 0, 1) := by decide +kernel
theorem dX0_isFollower_10 : decode cX0_isFollower 10 = .ok (.getfield 26, 3) := by decide +kernel
theorem dX0_isFollower_13 : decode cX0_isFollower 13 = .ok (.iload_n 1, 1) := by decide +kernel
theorem dX0_isFollower_14 : decode cX0_isFollower 14 = .ok (.aaload, 1) := by decide +kernel
theorem dX0_isFollower_15 : decode cX0_isFollower 15 = .ok (.iload_n 2, 1) := by decide +kernel
theorem dX0_isFollower_16 : decode cX0_isFollower 16 = .ok (.iaload, 1) := by decide +kernel
theorem dX0_isFollower_17 : decode cX0_isFollower 17 = .ok (.iconst 1, 1) := by decide +kernel
theorem dX0_isFollower_18 : decode cX0_isFollower 18 = .ok (.iload_n 3, 1) := by decide +kernel
theorem dX0_isFollower_19 : decode cX0_isFollower 19 = .ok (.ishl, 1) := by decide +kernel
theorem dX0_isFollower_20 : decode cX0_isFollower 20 = .ok (.iand, 1) := by decide +kernel
theorem dX0_isFollower_21 : decode cX0_isFollower 21 = .ok (.ifCond .eq 7, 3) := by decide +kernel
theorem dX0_isFollower_24 : decode cX0_isFollower 24 = .ok (.iconst 1, 1) := by decide +kernel
theorem dX0_isFollower_25 : decode cX0_isFollower 25 = .ok (.goto 4, 3) := by decide +kernel
theorem dX0_isFollower_28 : decode cX0_isFollower 28 = .ok (.iconst 0, 1) := by decide +kernel
theorem dX0_isFollower_29 : decode cX0_isFollower 29 = .ok (.ireturn, 1) := by decide +kernel
theorem dX0_addWatcher_0 : decode cX0_addWatcher 0 = .ok (.aload_n 0, 1) := by decide +kernel
theorem dX0_addWatcher_1 : decode cX0_addWatcher 1 = .ok (.getfield 48, 3) := by decide +kernel
theorem dX0_addWatcher_4 : decode cX0_addWatcher 4 = .ok (.iconst 3, 1) := by decide +kernel
theorem dX0_addWatcher_5 : decode cX0_addWatcher 5 = .ok (.if_icmp .lt 4, 3) := by decide +kernel
theorem dX0_addWatcher_8 : decode cX0_addWatcher 8 = .ok (.return_, 1) := by decide +kernel
theorem dX0_addWatcher_9 : decode cX0_addWatcher 9 = .ok (.aload_n 0, 1) := by decide +kernel
theorem dX0_addWatcher_10 : decode cX0_addWatcher 10 = .ok (.getfield 9, 3) := by decide +kernel
theorem dX0_addWatcher_13 : decode cX0_addWatcher 13 = .ok (.aload_n 0, 1) := by decide +kernel
theorem dX0_addWatcher_14 : decode cX0_addWatcher 14 = .ok (.getfield 48, 3) := by decide +kernel
theorem dX0_addWatcher_17 : decode cX0_addWatcher 17 = .ok (.iload_n 1, 1) := by decide +kernel
theorem dX0_addWatcher_18 : decode cX0_addWatcher 18 = .ok (.iastore, 1) := by decide +kernel
theorem dX0_addWatcher_19 : decode cX0_addWatcher 19 = .ok (.aload_n 0, 1) := by decide +kernel
theorem dX0_addWatcher_20 : decode cX0_addWatcher 20 = .ok (.getfield 15, 3) := by decide +kernel
theorem dX0_addWatcher_23 : decode cX0_addWatcher 23 = .ok (.aload_n 0, 1) := by decide +kernel
theorem dX0_addWatcher_24 : decode cX0_addWatcher 24 = .ok (.getfield 48, 3) := by decide +kernel
theorem dX0_addWatcher_27 : decode cX0_addWatcher 27 = .ok (.iconst 1, 1) := by decide +kernel
theorem dX0_addWatcher_28 : decode cX0_addWatcher 28 = .ok (.aload_n 0, 1) := by decide +kernel
theorem dX0_addWatcher_29 : decode cX0_addWatcher 29 = .ok (.getfield 48, 3) := by decide +kernel
theorem dX0_addWatcher_32 : decode cX0_addWatcher 32 = .ok (.ishl, 1) := by decide +kernel
theorem dX0_addWatcher_33 : decode cX0_addWatcher 33 = .ok (.iastore, 1) := by decide +kernel
theorem dX0_addWatcher_34 : decode cX0_addWatcher 34 = .ok (.iconst 0, 1) := by decide +kernel
theorem dX0_addWatcher_35 : decode cX0_addWatcher 35 = .ok (.istore_n 2, 1) := by decide +kernel
theorem dX0_addWatcher_36 : decode cX0_addWatcher 36 = .ok (.iload_n 2, 1) := by decide +kernel
theorem dX0_addWatcher_37 : decode cX0_addWatcher 37 = .ok (.aload_n 0, 1) := by decide +kernel
theorem dX0_addWatcher_38 : decode cX0_addWatcher 38 = .ok (.getfield 48, 3) := by decide +kernel
theorem dX0_addWatcher_41 : decode cX0_addWatcher 41 = .ok (.if_icmp .ge 42, 3) := by decide +kernel
theorem dX0_addWatcher_44 : decode cX0_addWatcher 44 = .ok (.iload_n 1, 1) := by decide +kernel
theorem dX0_addWatcher_45 : decode cX0_addWatcher 45 = .ok (.iconst (-1), 1) := by decide +kernel
theorem dX0_addWatcher_46 : decode cX0_addWatcher 46 = .ok (.if_icmp .eq 31, 3) := by decide +kernel
theorem dX0_addWatcher_49 : decode cX0_addWatcher 49 = .ok (.aload_n 0, 1) := by decide +kernel
theorem dX0_addWatcher_50 : decode cX0_addWatcher 50 = .ok (.getfield 15, 3) := by decide +kernel
theorem dX0_addWatcher_53 : decode cX0_addWatcher 53 = .ok (.iload_n 2, 1) := by decide +kernel
theorem dX0_addWatcher_54 : decode cX0_addWatcher 54 = .ok (.iaload, 1) := by decide +kernel
theorem dX0_addWatcher_55 : decode cX0_addWatcher 55 = .ok (.iconst 1, 1) := by decide +kernel
theorem dX0_addWatcher_56 : decode cX0_addWatcher 56 = .ok (.iload_n 1, 1) := by decide +kernel
theorem dX0_addWatcher_57 : decode cX0_addWatcher 57 = .ok (.ishl, 1) := by decide +kernel
theorem dX0_addWatcher_58 : decode cX0_addWatcher 58 = .ok (.iand, 1) := by decide +kernel
theorem dX0_addWatcher_59 : decode cX0_addWatcher 59 = .ok (.ifCond .eq 18, 3) := by decide +kernel
theorem dX0_addWatcher_62 : decode cX0_addWatcher 62 = .ok (.aload_n 0, 1) := by decide +kernel
theorem dX0_addWatcher_63 : decode cX0_addWatcher 63 = .ok (.getfield 15, 3) := by decide +kernel
theorem dX0_addWatcher_66 : decode cX0_addWatcher 66 = .ok (.iload_n 2, 1) := by decide +kernel
theorem dX0_addWatcher_67 : decode cX0_addWatcher 67 = .ok (.dup2, 1) := by decide +kernel
theorem dX0_addWatcher_68 : decode cX0_addWatcher 68 = .ok (.iaload, 1) := by decide +kernel
theorem dX0_addWatcher_69 : decode cX0_addWatcher 69 = .ok (.iconst 1, 1) := by decide +kernel
theorem dX0_addWatcher_70 : decode cX0_addWatcher 70 = .ok (.aload_n 0, 1) := by decide +kernel
theorem dX0_addWatcher_71 : decode cX0_addWatcher 71 = .ok (.getfield 48, 3) := by decide +kernel
theorem dX0_addWatcher_74 : decode cX0_addWatcher 74 = .ok (.ishl, 1) := by decide +kernel
theorem dX0_addWatcher_75 : decode cX0_addWatcher 75 = .ok (.ior, 1) := by decide +kernel
theorem dX0_addWatcher_76 : decode cX0_addWatcher 76 = .ok (.iastore, 1) := by decide +kernel
theorem dX0_addWatcher_77 : decode cX0_addWatcher 77 = .ok (.iinc 2 1, 3) := by decide +kernel
theorem dX0_addWatcher_80 : decode cX0_addWatcher 80 = .ok (.goto (-44), 3) := by decide +kernel
theorem dX0_addWatcher_83 : decode cX0_addWatcher 83 = .ok (.aload_n 0, 1) := by decide +kernel
theorem dX0_addWatcher_84 : decode cX0_addWatcher 84 = .ok (.dup, 1) := by decide +kernel
theorem dX0_addWatcher_85 : decode cX0_addWatcher 85 = .ok (.getfield 48, 3) := by decide +kernel
theorem dX0_addWatcher_88 : decode cX0_addWatcher 88 = .ok (.iconst 1, 1) := by decide +kernel
theorem dX0_addWatcher_89 : decode cX0_addWatcher 89 = .ok (.iadd, 1) := by decide +kernel
theorem dX0_addWatcher_90 : decode cX0_addWatcher 90 = .ok (.putfield 48, 3) := by decide +kernel
theorem dX0_addWatcher_93 : decode cX0_addWatcher 93 = .ok (.return_, 1) := by decide +kernel
theorem dX0_isAtOrBelow_0 : decode cX0_isAtOrBelow 0 = .ok (.aload_n 0, 1) := by decide +kernel
theorem dX0_isAtOrBelow_1 : decode cX0_isAtOrBelow 1 = .ok (.getfield 15, 3) := by decide +kernel
theorem dX0_isAtOrBelow_4 : decode cX0_isAtOrBelow 4 = .ok (.iload_n 2, 1) := by decide +kernel
theorem dX0_isAtOrBelow_5 : decode cX0_isAtOrBelow 5 = .ok (.iaload, 1) := by decide +kernel
theorem dX0_isAtOrBelow_6 : decode cX0_isAtOrBelow 6 = .ok (.iconst 1, 1) := by decide +kernel
theorem dX0_isAtOrBelow_7 : decode cX0_isAtOrBelow 7 = .ok (.iload_n 1, 1) := by decide +kernel
theorem dX0_isAtOrBelow_8 : decode cX0_isAtOrBelow 8 = .ok (.ishl, 1) := by decide +kernel
theorem dX0_isAtOrBelow_9 : decode cX0_isAtOrBelow 9 = .ok (.iand, 1) := by decide +kernel
theorem dX0_isAtOrBelow_10 : decode cX0_isAtOrBelow 10 = .ok (.ifCond .eq 7, 3) := by decide +kernel
theorem dX0_isAtOrBelow_13 : decode cX0_isAtOrBelow 13 = .ok (.iconst 1, 1) := by decide +kernel
theorem dX0_isAtOrBelow_14 : decode cX0_isAtOrBelow 14 = .ok (.goto 4, 3) := by decide +kernel
theorem dX0_isAtOrBelow_17 : decode cX0_isAtOrBelow 17 = .ok (.iconst 0, 1) := by decide +kernel
theorem dX0_isAtOrBelow_18 : decode cX0_isAtOrBelow 18 = .ok (.ireturn, 1) := by decide +kernel
theorem dX0_allows_0 : decode cX0_allows 0 = .ok (.iload_n 1, 1) := by decide +kernel
theorem dX0_allows_1 : decode cX0_allows 1 = .ok (.iconst 5, 1) := by decide +kernel
theorem dX0_allows_2 : decode cX0_allows 2 = .ok (.if_icmp .ne 38, 3) := by decide +kernel
theorem dX0_allows_5 : decode cX0_allows 5 = .ok (.aload_n 0, 1) := by decide +kernel
theorem dX0_allows_6 : decode cX0_allows 6 = .ok (.iload_n 2, 1) := by decide +kernel
theorem dX0_allows_7 : decode cX0_allows 7 = .ok (.invokevirtual 74, 3) := by decide +kernel
theorem dX0_allows_10 : decode cX0_allows 10 = .ok (.ifCond .eq 28, 3) := by decide +kernel
theorem dX0_allows_13 : decode cX0_allows 13 = .ok (.iload_n 3, 1) := by decide +kernel
theorem dX0_allows_14 : decode cX0_allows 14 = .ok (.ifCond .lt 24, 3) := by decide +kernel
theorem dX0_allows_17 : decode cX0_allows 17 = .ok (.iload_n 3, 1) := by decide +kernel
theorem dX0_allows_18 : decode cX0_allows 18 = .ok (.sipush 199, 3) := by decide +kernel
theorem dX0_allows_21 : decode cX0_allows 21 = .ok (.if_icmp .gt 17, 3) := by decide +kernel
theorem dX0_allows_24 : decode cX0_allows 24 = .ok (.iload 4, 2) := by decide +kernel
theorem dX0_allows_26 : decode cX0_allows 26 = .ok (.ifCond .ne 12, 3) := by decide +kernel
theorem dX0_allows_29 : decode cX0_allows 29 = .ok (.iload 5, 2) := by decide +kernel
theorem dX0_allows_31 : decode cX0_allows 31 = .ok (.ifCond .ne 7, 3) := by decide +kernel
theorem dX0_allows_34 : decode cX0_allows 34 = .ok (.iconst 1, 1) := by decide +kernel
theorem dX0_allows_35 : decode cX0_allows 35 = .ok (.goto 4, 3) := by decide +kernel
theorem dX0_allows_38 : decode cX0_allows 38 = .ok (.iconst 0, 1) := by decide +kernel
theorem dX0_allows_39 : decode cX0_allows 39 = .ok (.ireturn, 1) := by decide +kernel
theorem dX0_allows_40 : decode cX0_allows 40 = .ok (.iload_n 1, 1) := by decide +kernel
theorem dX0_allows_41 : decode cX0_allows 41 = .ok (.ifCond .lt 31, 3) := by decide +kernel
theorem dX0_allows_44 : decode cX0_allows 44 = .ok (.iload_n 1, 1) := by decide +kernel
theorem dX0_allows_45 : decode cX0_allows 45 = .ok (.iconst 4, 1) := by decide +kernel
theorem dX0_allows_46 : decode cX0_allows 46 = .ok (.if_icmp .gt 26, 3) := by decide +kernel
theorem dX0_allows_49 : decode cX0_allows 49 = .ok (.iload_n 3, 1) := by decide +kernel
theorem dX0_allows_50 : decode cX0_allows 50 = .ok (.ifCond .lt 22, 3) := by decide +kernel
theorem dX0_allows_53 : decode cX0_allows 53 = .ok (.iload_n 3, 1) := by decide +kernel
theorem dX0_allows_54 : decode cX0_allows 54 = .ok (.bipush 50, 2) := by decide +kernel
theorem dX0_allows_56 : decode cX0_allows 56 = .ok (.if_icmp .gt 16, 3) := by decide +kernel
theorem dX0_allows_59 : decode cX0_allows 59 = .ok (.iload 5, 2) := by decide +kernel
theorem dX0_allows_61 : decode cX0_allows 61 = .ok (.iconst 1, 1) := by decide +kernel
theorem dX0_allows_62 : decode cX0_allows 62 = .ok (.if_icmp .lt 10, 3) := by decide +kernel
theorem dX0_allows_65 : decode cX0_allows 65 = .ok (.iload 5, 2) := by decide +kernel
theorem dX0_allows_67 : decode cX0_allows 67 = .ok (.bipush 9, 2) := by decide +kernel
theorem dX0_allows_69 : decode cX0_allows 69 = .ok (.if_icmp .le 5, 3) := by decide +kernel
theorem dX0_allows_72 : decode cX0_allows 72 = .ok (.iconst 0, 1) := by decide +kernel
theorem dX0_allows_73 : decode cX0_allows 73 = .ok (.ireturn, 1) := by decide +kernel
theorem dX0_allows_74 : decode cX0_allows 74 = .ok (.iload_n 1, 1) := by decide +kernel
theorem dX0_allows_75 : decode cX0_allows 75 = .ok (.iconst 4, 1) := by decide +kernel
theorem dX0_allows_76 : decode cX0_allows 76 = .ok (.if_icmp .ne 24, 3) := by decide +kernel
theorem dX0_allows_79 : decode cX0_allows 79 = .ok (.aload_n 0, 1) := by decide +kernel
theorem dX0_allows_80 : decode cX0_allows 80 = .ok (.iload_n 2, 1) := by decide +kernel
theorem dX0_allows_81 : decode cX0_allows 81 = .ok (.invokevirtual 66, 3) := by decide +kernel
theorem dX0_allows_84 : decode cX0_allows 84 = .ok (.ifCond .eq 12, 3) := by decide +kernel
theorem dX0_allows_87 : decode cX0_allows 87 = .ok (.iload 4, 2) := by decide +kernel
theorem dX0_allows_89 : decode cX0_allows 89 = .ok (.ifCond .ne 7, 3) := by decide +kernel
theorem dX0_allows_92 : decode cX0_allows 92 = .ok (.iconst 1, 1) := by decide +kernel
theorem dX0_allows_93 : decode cX0_allows 93 = .ok (.goto 14, 3) := by decide +kernel
theorem dX0_allows_96 : decode cX0_allows 96 = .ok (.iconst 0, 1) := by decide +kernel
theorem dX0_allows_97 : decode cX0_allows 97 = .ok (.goto 10, 3) := by decide +kernel
theorem dX0_allows_100 : decode cX0_allows 100 = .ok (.aload_n 0, 1) := by decide +kernel
theorem dX0_allows_101 : decode cX0_allows 101 = .ok (.iload_n 2, 1) := by decide +kernel
theorem dX0_allows_102 : decode cX0_allows 102 = .ok (.iload 4, 2) := by decide +kernel
theorem dX0_allows_104 : decode cX0_allows 104 = .ok (.invokevirtual 70, 3) := by decide +kernel
theorem dX0_allows_107 : decode cX0_allows 107 = .ok (.ireturn, 1) := by decide +kernel
theorem dX0_setInjection_0 : decode cX0_setInjection 0 = .ok (.iload_n 1, 1) := by decide +kernel
theorem dX0_setInjection_1 : decode cX0_setInjection 1 = .ok (.ifCond .lt 9, 3) := by decide +kernel
theorem dX0_setInjection_4 : decode cX0_setInjection 4 = .ok (.iload_n 1, 1) := by decide +kernel
theorem dX0_setInjection_5 : decode cX0_setInjection 5 = .ok (.bipush 19, 2) := by decide +kernel
theorem dX0_setInjection_7 : decode cX0_setInjection 7 = .ok (.if_icmp .lt 4, 3) := by decide +kernel
theorem dX0_setInjection_10 : decode cX0_setInjection 10 = .ok (.return_, 1) := by decide +kernel
theorem dX0_setInjection_11 : decode cX0_setInjection 11 = .ok (.aload_n 0, 1) := by decide +kernel
theorem dX0_setInjection_12 : decode cX0_setInjection 12 = .ok (.getfield 32, 3) := by decide +kernel
theorem dX0_setInjection_15 : decode cX0_setInjection 15 = .ok (.iload_n 1, 1) := by decide +kernel
theorem dX0_setInjection_16 : decode cX0_setInjection 16 = .ok (.aaload, 1) := by decide +kernel
theorem dX0_setInjection_17 : decode cX0_setInjection 17 = .ok (.astore 7, 2) := by decide +kernel
theorem dX0_setInjection_19 : decode cX0_setInjection 19 = .ok (.aload 7, 2) := by decide +kernel
theorem dX0_setInjection_21 : decode cX0_setInjection 21 = .ok (.iconst 0, 1) := by decide +kernel
theorem dX0_setInjection_22 : decode cX0_setInjection 22 = .ok (.iload_n 2, 1) := by decide +kernel
theorem dX0_setInjection_23 : decode cX0_setInjection 23 = .ok (.iastore, 1) := by decide +kernel
theorem dX0_setInjection_24 : decode cX0_setInjection 24 = .ok (.aload 7, 2) := by decide +kernel
theorem dX0_setInjection_26 : decode cX0_setInjection 26 = .ok (.iconst 1, 1) := by decide +kernel
theorem dX0_setInjection_27 : decode cX0_setInjection 27 = .ok (.iload_n 3, 1) := by decide +kernel
theorem dX0_setInjection_28 : decode cX0_setInjection 28 = .ok (.iastore, 1) := by decide +kernel
theorem dX0_setInjection_29 : decode cX0_setInjection 29 = .ok (.aload 7, 2) := by decide +kernel
theorem dX0_setInjection_31 : decode cX0_setInjection 31 = .ok (.iconst 2, 1) := by decide +kernel
theorem dX0_setInjection_32 : decode cX0_setInjection 32 = .ok (.iload 4, 2) := by decide +kernel
theorem dX0_setInjection_34 : decode cX0_setInjection 34 = .ok (.iastore, 1) := by decide +kernel
theorem dX0_setInjection_35 : decode cX0_setInjection 35 = .ok (.aload 7, 2) := by decide +kernel
theorem dX0_setInjection_37 : decode cX0_setInjection 37 = .ok (.iconst 3, 1) := by decide +kernel
theorem dX0_setInjection_38 : decode cX0_setInjection 38 = .ok (.iload_n 2, 1) := by decide +kernel
theorem dX0_setInjection_39 : decode cX0_setInjection 39 = .ok (.iconst 4, 1) := by decide +kernel
theorem dX0_setInjection_40 : decode cX0_setInjection 40 = .ok (.if_icmp .eq 8, 3) := by decide +kernel
theorem dX0_setInjection_43 : decode cX0_setInjection 43 = .ok (.iload_n 2, 1) := by decide +kernel
theorem dX0_setInjection_44 : decode cX0_setInjection 44 = .ok (.iconst 5, 1) := by decide +kernel
theorem dX0_setInjection_45 : decode cX0_setInjection 45 = .ok (.if_icmp .ne 7, 3) := by decide +kernel
theorem dX0_setInjection_48 : decode cX0_setInjection 48 = .ok (.iconst (-1), 1) := by decide +kernel
theorem dX0_setInjection_49 : decode cX0_setInjection 49 = .ok (.goto 5, 3) := by decide +kernel
theorem dX0_setInjection_52 : decode cX0_setInjection 52 = .ok (.iload 5, 2) := by decide +kernel
theorem dX0_setInjection_54 : decode cX0_setInjection 54 = .ok (.iastore, 1) := by decide +kernel
theorem dX0_setInjection_55 : decode cX0_setInjection 55 = .ok (.aload 7, 2) := by decide +kernel
theorem dX0_setInjection_57 : decode cX0_setInjection 57 = .ok (.iconst 4, 1) := by decide +kernel
theorem dX0_setInjection_58 : decode cX0_setInjection 58 = .ok (.iload_n 2, 1) := by decide +kernel
theorem dX0_setInjection_59 : decode cX0_setInjection 59 = .ok (.iconst 5, 1) := by decide +kernel
theorem dX0_setInjection_60 : decode cX0_setInjection 60 = .ok (.if_icmp .ne 7, 3) := by decide +kernel
theorem dX0_setInjection_63 : decode cX0_setInjection 63 = .ok (.iconst (-1), 1) := by decide +kernel
theorem dX0_setInjection_64 : decode cX0_setInjection 64 = .ok (.goto 5, 3) := by decide +kernel
theorem dX0_setInjection_67 : decode cX0_setInjection 67 = .ok (.iload 6, 2) := by decide +kernel
theorem dX0_setInjection_69 : decode cX0_setInjection 69 = .ok (.iastore, 1) := by decide +kernel
theorem dX0_setInjection_70 : decode cX0_setInjection 70 = .ok (.return_, 1) := by decide +kernel
theorem dX0_dropInjection_0 : decode cX0_dropInjection 0 = .ok (.iload_n 1, 1) := by decide +kernel
theorem dX0_dropInjection_1 : decode cX0_dropInjection 1 = .ok (.istore_n 2, 1) := by decide +kernel
theorem dX0_dropInjection_2 : decode cX0_dropInjection 2 = .ok (.iload_n 2, 1) := by decide +kernel
theorem dX0_dropInjection_3 : decode cX0_dropInjection 3 = .ok (.aload_n 0, 1) := by decide +kernel
theorem dX0_dropInjection_4 : decode cX0_dropInjection 4 = .ok (.getfield 54, 3) := by decide +kernel
theorem dX0_dropInjection_7 : decode cX0_dropInjection 7 = .ok (.aload_n 0, 1) := by decide +kernel
theorem dX0_dropInjection_8 : decode cX0_dropInjection 8 = .ok (.getfield 57, 3) := by decide +kernel
theorem dX0_dropInjection_11 : decode cX0_dropInjection 11 = .ok (.iadd, 1) := by decide +kernel
theorem dX0_dropInjection_12 : decode cX0_dropInjection 12 = .ok (.iconst 1, 1) := by decide +kernel
theorem dX0_dropInjection_13 : decode cX0_dropInjection 13 = .ok (.isub, 1) := by decide +kernel
theorem dX0_dropInjection_14 : decode cX0_dropInjection 14 = .ok (.if_icmp .ge 29, 3) := by decide +kernel
theorem dX0_dropInjection_17 : decode cX0_dropInjection 17 = .ok (.aload_n 0, 1) := by decide +kernel
theorem dX0_dropInjection_18 : decode cX0_dropInjection 18 = .ok (.getfield 32, 3) := by decide +kernel
theorem dX0_dropInjection_21 : decode cX0_dropInjection 21 = .ok (.iload_n 2, 1) := by decide +kernel
theorem dX0_dropInjection_22 : decode cX0_dropInjection 22 = .ok (.iconst 1, 1) := by decide +kernel
theorem dX0_dropInjection_23 : decode cX0_dropInjection 23 = .ok (.iadd, 1) := by decide +kernel
theorem dX0_dropInjection_24 : decode cX0_dropInjection 24 = .ok (.aaload, 1) := by decide +kernel
theorem dX0_dropInjection_25 : decode cX0_dropInjection 25 = .ok (.iconst 0, 1) := by decide +kernel
theorem dX0_dropInjection_26 : decode cX0_dropInjection 26 = .ok (.aload_n 0, 1) := by decide +kernel
theorem dX0_dropInjection_27 : decode cX0_dropInjection 27 = .ok (.getfield 32, 3) := by decide +kernel
theorem dX0_dropInjection_30 : decode cX0_dropInjection 30 = .ok (.iload_n 2, 1) := by decide +kernel
theorem dX0_dropInjection_31 : decode cX0_dropInjection 31 = .ok (.aaload, 1) := by decide +kernel
theorem dX0_dropInjection_32 : decode cX0_dropInjection 32 = .ok (.iconst 0, 1) := by decide +kernel
theorem dX0_dropInjection_33 : decode cX0_dropInjection 33 = .ok (.iconst 5, 1) := by decide +kernel
theorem dX0_dropInjection_34 : decode cX0_dropInjection 34 = .ok (.invokestatic 60, 3) := by decide +kernel
theorem dX0_dropInjection_37 : decode cX0_dropInjection 37 = .ok (.iinc 2 1, 3) := by decide +kernel
theorem dX0_dropInjection_40 : decode cX0_dropInjection 40 = .ok (.goto (-38), 3) := by decide +kernel
theorem dX0_dropInjection_43 : decode cX0_dropInjection 43 = .ok (.iload_n 1, 1) := by decide +kernel
theorem dX0_dropInjection_44 : decode cX0_dropInjection 44 = .ok (.aload_n 0, 1) := by decide +kernel
theorem dX0_dropInjection_45 : decode cX0_dropInjection 45 = .ok (.getfield 54, 3) := by decide +kernel
theorem dX0_dropInjection_48 : decode cX0_dropInjection 48 = .ok (.if_icmp .ge 16, 3) := by decide +kernel
theorem dX0_dropInjection_51 : decode cX0_dropInjection 51 = .ok (.aload_n 0, 1) := by decide +kernel
theorem dX0_dropInjection_52 : decode cX0_dropInjection 52 = .ok (.dup, 1) := by decide +kernel
theorem dX0_dropInjection_53 : decode cX0_dropInjection 53 = .ok (.getfield 54, 3) := by decide +kernel
theorem dX0_dropInjection_56 : decode cX0_dropInjection 56 = .ok (.iconst 1, 1) := by decide +kernel
theorem dX0_dropInjection_57 : decode cX0_dropInjection 57 = .ok (.isub, 1) := by decide +kernel
theorem dX0_dropInjection_58 : decode cX0_dropInjection 58 = .ok (.putfield 54, 3) := by decide +kernel
theorem dX0_dropInjection_61 : decode cX0_dropInjection 61 = .ok (.goto 13, 3) := by decide +kernel
theorem dX0_dropInjection_64 : decode cX0_dropInjection 64 = .ok (.aload_n 0, 1) := by decide +kernel
theorem dX0_dropInjection_65 : decode cX0_dropInjection 65 = .ok (.dup, 1) := by decide +kernel
theorem dX0_dropInjection_66 : decode cX0_dropInjection 66 = .ok (.getfield 57, 3) := by decide +kernel
theorem dX0_dropInjection_69 : decode cX0_dropInjection 69 = .ok (.iconst 1, 1) := by decide +kernel
theorem dX0_dropInjection_70 : decode cX0_dropInjection 70 = .ok (.isub, 1) := by decide +kernel
theorem dX0_dropInjection_71 : decode cX0_dropInjection 71 = .ok (.putfield 57, 3) := by decide +kernel
theorem dX0_dropInjection_74 : decode cX0_dropInjection 74 = .ok (.return_, 1) := by decide +kernel
theorem dX0_changeAt_0 : decode cX0_changeAt 0 = .ok (.iconst 0, 1) := by decide +kernel
theorem dX0_changeAt_1 : decode cX0_changeAt 1 = .ok (.istore 4, 2) := by decide +kernel
theorem dX0_changeAt_3 : decode cX0_changeAt 3 = .ok (.iload 4, 2) := by decide +kernel
theorem dX0_changeAt_5 : decode cX0_changeAt 5 = .ok (.aload_n 0, 1) := by decide +kernel
theorem dX0_changeAt_6 : decode cX0_changeAt 6 = .ok (.getfield 54, 3) := by decide +kernel
theorem dX0_changeAt_9 : decode cX0_changeAt 9 = .ok (.aload_n 0, 1) := by decide +kernel
theorem dX0_changeAt_10 : decode cX0_changeAt 10 = .ok (.getfield 57, 3) := by decide +kernel
theorem dX0_changeAt_13 : decode cX0_changeAt 13 = .ok (.iadd, 1) := by decide +kernel
theorem dX0_changeAt_14 : decode cX0_changeAt 14 = .ok (.if_icmp .ge 68, 3) := by decide +kernel
theorem dX0_changeAt_17 : decode cX0_changeAt 17 = .ok (.aload_n 0, 1) := by decide +kernel
theorem dX0_changeAt_18 : decode cX0_changeAt 18 = .ok (.getfield 32, 3) := by decide +kernel
theorem dX0_changeAt_21 : decode cX0_changeAt 21 = .ok (.iload 4, 2) := by decide +kernel
theorem dX0_changeAt_23 : decode cX0_changeAt 23 = .ok (.aaload, 1) := by decide +kernel
theorem dX0_changeAt_24 : decode cX0_changeAt 24 = .ok (.astore 5, 2) := by decide +kernel
theorem dX0_changeAt_26 : decode cX0_changeAt 26 = .ok (.aload 5, 2) := by decide +kernel
theorem dX0_changeAt_28 : decode cX0_changeAt 28 = .ok (.iconst 0, 1) := by decide +kernel
theorem dX0_changeAt_29 : decode cX0_changeAt 29 = .ok (.iaload, 1) := by decide +kernel
theorem dX0_changeAt_30 : decode cX0_changeAt 30 = .ok (.iconst 5, 1) := by decide +kernel
theorem dX0_changeAt_31 : decode cX0_changeAt 31 = .ok (.if_icmp .eq 45, 3) := by decide +kernel
theorem dX0_changeAt_34 : decode cX0_changeAt 34 = .ok (.aload 5, 2) := by decide +kernel
theorem dX0_changeAt_36 : decode cX0_changeAt 36 = .ok (.iconst 1, 1) := by decide +kernel
theorem dX0_changeAt_37 : decode cX0_changeAt 37 = .ok (.iaload, 1) := by decide +kernel
theorem dX0_changeAt_38 : decode cX0_changeAt 38 = .ok (.iload_n 1, 1) := by decide +kernel
theorem dX0_changeAt_39 : decode cX0_changeAt 39 = .ok (.if_icmp .ne 37, 3) := by decide +kernel
theorem dX0_changeAt_42 : decode cX0_changeAt 42 = .ok (.aload 5, 2) := by decide +kernel
theorem dX0_changeAt_44 : decode cX0_changeAt 44 = .ok (.iconst 3, 1) := by decide +kernel
theorem dX0_changeAt_45 : decode cX0_changeAt 45 = .ok (.iaload, 1) := by decide +kernel
theorem dX0_changeAt_46 : decode cX0_changeAt 46 = .ok (.iload_n 3, 1) := by decide +kernel
theorem dX0_changeAt_47 : decode cX0_changeAt 47 = .ok (.if_icmp .ne 29, 3) := by decide +kernel
theorem dX0_changeAt_50 : decode cX0_changeAt 50 = .ok (.iload_n 2, 1) := by decide +kernel
theorem dX0_changeAt_51 : decode cX0_changeAt 51 = .ok (.aload 5, 2) := by decide +kernel
theorem dX0_changeAt_53 : decode cX0_changeAt 53 = .ok (.iconst 2, 1) := by decide +kernel
theorem dX0_changeAt_54 : decode cX0_changeAt 54 = .ok (.iaload, 1) := by decide +kernel
theorem dX0_changeAt_55 : decode cX0_changeAt 55 = .ok (.if_icmp .lt 21, 3) := by decide +kernel
theorem dX0_changeAt_58 : decode cX0_changeAt 58 = .ok (.iload_n 2, 1) := by decide +kernel
theorem dX0_changeAt_59 : decode cX0_changeAt 59 = .ok (.aload 5, 2) := by decide +kernel
theorem dX0_changeAt_61 : decode cX0_changeAt 61 = .ok (.iconst 2, 1) := by decide +kernel
theorem dX0_changeAt_62 : decode cX0_changeAt 62 = .ok (.iaload, 1) := by decide +kernel
theorem dX0_changeAt_63 : decode cX0_changeAt 63 = .ok (.aload 5, 2) := by decide +kernel
theorem dX0_changeAt_65 : decode cX0_changeAt 65 = .ok (.iconst 4, 1) := by decide +kernel
theorem dX0_changeAt_66 : decode cX0_changeAt 66 = .ok (.iaload, 1) := by decide +kernel
theorem dX0_changeAt_67 : decode cX0_changeAt 67 = .ok (.iadd, 1) := by decide +kernel
theorem dX0_changeAt_68 : decode cX0_changeAt 68 = .ok (.if_icmp .ge 8, 3) := by decide +kernel
theorem dX0_changeAt_71 : decode cX0_changeAt 71 = .ok (.aload 5, 2) := by decide +kernel
theorem dX0_changeAt_73 : decode cX0_changeAt 73 = .ok (.iconst 0, 1) := by decide +kernel
theorem dX0_changeAt_74 : decode cX0_changeAt 74 = .ok (.iaload, 1) := by decide +kernel
theorem dX0_changeAt_75 : decode cX0_changeAt 75 = .ok (.ireturn, 1) := by decide +kernel
theorem dX0_changeAt_76 : decode cX0_changeAt 76 = .ok (.iinc 4 1, 3) := by decide +kernel
theorem dX0_changeAt_79 : decode cX0_changeAt 79 = .ok (.goto (-76), 3) := by decide +kernel
theorem dX0_changeAt_82 : decode cX0_changeAt 82 = .ok (.iconst (-1), 1) := by decide +kernel
theorem dX0_changeAt_83 : decode cX0_changeAt 83 = .ok (.ireturn, 1) := by decide +kernel
theorem dX0_measureTasks_0 : decode cX0_measureTasks 0 = .ok (.bipush 6, 2) := by decide +kernel
theorem dX0_measureTasks_2 : decode cX0_measureTasks 2 = .ok (.newarray .int, 2) := by decide +kernel
theorem dX0_measureTasks_4 : decode cX0_measureTasks 4 = .ok (.astore_n 1, 1) := by decide +kernel
theorem dX0_measureTasks_5 : decode cX0_measureTasks 5 = .ok (.bipush 6, 2) := by decide +kernel
theorem dX0_measureTasks_7 : decode cX0_measureTasks 7 = .ok (.newarray .int, 2) := by decide +kernel
theorem dX0_measureTasks_9 : decode cX0_measureTasks 9 = .ok (.astore_n 2, 1) := by decide +kernel
theorem dX0_measureTasks_10 : decode cX0_measureTasks 10 = .ok (.iconst 0, 1) := by decide +kernel
theorem dX0_measureTasks_11 : decode cX0_measureTasks 11 = .ok (.istore_n 3, 1) := by decide +kernel
theorem dX0_measureTasks_12 : decode cX0_measureTasks 12 = .ok (.iload_n 3, 1) := by decide +kernel
theorem dX0_measureTasks_13 : decode cX0_measureTasks 13 = .ok (.aload_n 0, 1) := by decide +kernel
theorem dX0_measureTasks_14 : decode cX0_measureTasks 14 = .ok (.getfield 51, 3) := by decide +kernel
theorem dX0_measureTasks_17 : decode cX0_measureTasks 17 = .ok (.if_icmp .ge 64, 3) := by decide +kernel
theorem dX0_measureTasks_20 : decode cX0_measureTasks 20 = .ok (.aload_n 0, 1) := by decide +kernel
theorem dX0_measureTasks_21 : decode cX0_measureTasks 21 = .ok (.getfield 20, 3) := by decide +kernel
theorem dX0_measureTasks_24 : decode cX0_measureTasks 24 = .ok (.iload_n 3, 1) := by decide +kernel
theorem dX0_measureTasks_25 : decode cX0_measureTasks 25 = .ok (.aaload, 1) := by decide +kernel
theorem dX0_measureTasks_26 : decode cX0_measureTasks 26 = .ok (.bipush 6, 2) := by decide +kernel
theorem dX0_measureTasks_28 : decode cX0_measureTasks 28 = .ok (.iaload, 1) := by decide +kernel
theorem dX0_measureTasks_29 : decode cX0_measureTasks 29 = .ok (.iconst 1, 1) := by decide +kernel
theorem dX0_measureTasks_30 : decode cX0_measureTasks 30 = .ok (.isub, 1) := by decide +kernel
theorem dX0_measureTasks_31 : decode cX0_measureTasks 31 = .ok (.istore 4, 2) := by decide +kernel
theorem dX0_measureTasks_33 : decode cX0_measureTasks 33 = .ok (.iload 4, 2) := by decide +kernel
theorem dX0_measureTasks_35 : decode cX0_measureTasks 35 = .ok (.ifCond .lt 18, 3) := by decide +kernel
theorem dX0_measureTasks_38 : decode cX0_measureTasks 38 = .ok (.aload_n 0, 1) := by decide +kernel
theorem dX0_measureTasks_39 : decode cX0_measureTasks 39 = .ok (.iload_n 3, 1) := by decide +kernel
theorem dX0_measureTasks_40 : decode cX0_measureTasks 40 = .ok (.iload 4, 2) := by decide +kernel
theorem dX0_measureTasks_42 : decode cX0_measureTasks 42 = .ok (.aload_n 1, 1) := by decide +kernel
theorem dX0_measureTasks_43 : decode cX0_measureTasks 43 = .ok (.aload_n 2, 1) := by decide +kernel
theorem dX0_measureTasks_44 : decode cX0_measureTasks 44 = .ok (.invokevirtual 77, 3) := by decide +kernel
theorem dX0_measureTasks_47 : decode cX0_measureTasks 47 = .ok (.iinc 4 (-1), 3) := by decide +kernel
theorem dX0_measureTasks_50 : decode cX0_measureTasks 50 = .ok (.goto (-17), 3) := by decide +kernel
theorem dX0_measureTasks_53 : decode cX0_measureTasks 53 = .ok (.aload_n 0, 1) := by decide +kernel
theorem dX0_measureTasks_54 : decode cX0_measureTasks 54 = .ok (.getfield 29, 3) := by decide +kernel
theorem dX0_measureTasks_57 : decode cX0_measureTasks 57 = .ok (.iload_n 3, 1) := by decide +kernel
theorem dX0_measureTasks_58 : decode cX0_measureTasks 58 = .ok (.aaload, 1) := by decide +kernel
theorem dX0_measureTasks_59 : decode cX0_measureTasks 59 = .ok (.iconst 0, 1) := by decide +kernel
theorem dX0_measureTasks_60 : decode cX0_measureTasks 60 = .ok (.aload_n 1, 1) := by decide +kernel
theorem dX0_measureTasks_61 : decode cX0_measureTasks 61 = .ok (.iconst 0, 1) := by decide +kernel
theorem dX0_measureTasks_62 : decode cX0_measureTasks 62 = .ok (.iaload, 1) := by decide +kernel
theorem dX0_measureTasks_63 : decode cX0_measureTasks 63 = .ok (.iastore, 1) := by decide +kernel
theorem dX0_measureTasks_64 : decode cX0_measureTasks 64 = .ok (.aload_n 0, 1) := by decide +kernel
theorem dX0_measureTasks_65 : decode cX0_measureTasks 65 = .ok (.getfield 29, 3) := by decide +kernel
theorem dX0_measureTasks_68 : decode cX0_measureTasks 68 = .ok (.iload_n 3, 1) := by decide +kernel
theorem dX0_measureTasks_69 : decode cX0_measureTasks 69 = .ok (.aaload, 1) := by decide +kernel
theorem dX0_measureTasks_70 : decode cX0_measureTasks 70 = .ok (.iconst 1, 1) := by decide +kernel
theorem dX0_measureTasks_71 : decode cX0_measureTasks 71 = .ok (.aload_n 2, 1) := by decide +kernel
theorem dX0_measureTasks_72 : decode cX0_measureTasks 72 = .ok (.iconst 0, 1) := by decide +kernel
theorem dX0_measureTasks_73 : decode cX0_measureTasks 73 = .ok (.iaload, 1) := by decide +kernel
theorem dX0_measureTasks_74 : decode cX0_measureTasks 74 = .ok (.iastore, 1) := by decide +kernel
theorem dX0_measureTasks_75 : decode cX0_measureTasks 75 = .ok (.iinc 3 1, 3) := by decide +kernel
theorem dX0_measureTasks_78 : decode cX0_measureTasks 78 = .ok (.goto (-66), 3) := by decide +kernel
theorem dX0_measureTasks_81 : decode cX0_measureTasks 81 = .ok (.return_, 1) := by decide +kernel
theorem dX0_measureNode_0 : decode cX0_measureNode 0 = .ok (.iconst 0, 1) := by decide +kernel
theorem dX0_measureNode_1 : decode cX0_measureNode 1 = .ok (.istore 5, 2) := by decide +kernel
theorem dX0_measureNode_3 : decode cX0_measureNode 3 = .ok (.iconst 0, 1) := by decide +kernel
theorem dX0_measureNode_4 : decode cX0_measureNode 4 = .ok (.istore 6, 2) := by decide +kernel
theorem dX0_measureNode_6 : decode cX0_measureNode 6 = .ok (.iload_n 2, 1) := by decide +kernel
theorem dX0_measureNode_7 : decode cX0_measureNode 7 = .ok (.iconst 1, 1) := by decide +kernel
theorem dX0_measureNode_8 : decode cX0_measureNode 8 = .ok (.iadd, 1) := by decide +kernel
theorem dX0_measureNode_9 : decode cX0_measureNode 9 = .ok (.istore 7, 2) := by decide +kernel
theorem dX0_measureNode_11 : decode cX0_measureNode 11 = .ok (.iload 7, 2) := by decide +kernel
theorem dX0_measureNode_13 : decode cX0_measureNode 13 = .ok (.aload_n 0, 1) := by decide +kernel
theorem dX0_measureNode_14 : decode cX0_measureNode 14 = .ok (.getfield 20, 3) := by decide +kernel
theorem dX0_measureNode_17 : decode cX0_measureNode 17 = .ok (.iload_n 1, 1) := by decide +kernel
theorem dX0_measureNode_18 : decode cX0_measureNode 18 = .ok (.aaload, 1) := by decide +kernel
theorem dX0_measureNode_19 : decode cX0_measureNode 19 = .ok (.bipush 6, 2) := by decide +kernel
theorem dX0_measureNode_21 : decode cX0_measureNode 21 = .ok (.iaload, 1) := by decide +kernel
theorem dX0_measureNode_22 : decode cX0_measureNode 22 = .ok (.if_icmp .ge 55, 3) := by decide +kernel
theorem dX0_measureNode_25 : decode cX0_measureNode 25 = .ok (.aload_n 0, 1) := by decide +kernel
theorem dX0_measureNode_26 : decode cX0_measureNode 26 = .ok (.iload_n 1, 1) := by decide +kernel
theorem dX0_measureNode_27 : decode cX0_measureNode 27 = .ok (.iload_n 2, 1) := by decide +kernel
theorem dX0_measureNode_28 : decode cX0_measureNode 28 = .ok (.iload 7, 2) := by decide +kernel
theorem dX0_measureNode_30 : decode cX0_measureNode 30 = .ok (.invokevirtual 81, 3) := by decide +kernel
theorem dX0_measureNode_33 : decode cX0_measureNode 33 = .ok (.ifCond .eq 38, 3) := by decide +kernel
theorem dX0_measureNode_36 : decode cX0_measureNode 36 = .ok (.iload 5, 2) := by decide +kernel
theorem dX0_measureNode_38 : decode cX0_measureNode 38 = .ok (.ifCond .ne 10, 3) := by decide +kernel
theorem dX0_measureNode_41 : decode cX0_measureNode 41 = .ok (.aload_n 3, 1) := by decide +kernel
theorem dX0_measureNode_42 : decode cX0_measureNode 42 = .ok (.iload 7, 2) := by decide +kernel
theorem dX0_measureNode_44 : decode cX0_measureNode 44 = .ok (.iaload, 1) := by decide +kernel
theorem dX0_measureNode_45 : decode cX0_measureNode 45 = .ok (.goto 12, 3) := by decide +kernel
theorem dX0_measureNode_48 : decode cX0_measureNode 48 = .ok (.iload 5, 2) := by decide +kernel
theorem dX0_measureNode_50 : decode cX0_measureNode 50 = .ok (.aload_n 3, 1) := by decide +kernel
theorem dX0_measureNode_51 : decode cX0_measureNode 51 = .ok (.iload 7, 2) := by decide +kernel
theorem dX0_measureNode_53 : decode cX0_measureNode 53 = .ok (.iaload, 1) := by decide +kernel
theorem dX0_measureNode_54 : decode cX0_measureNode 54 = .ok (.invokestatic 85, 3) := by decide +kernel
theorem dX0_measureNode_57 : decode cX0_measureNode 57 = .ok (.istore 5, 2) := by decide +kernel
theorem dX0_measureNode_59 : decode cX0_measureNode 59 = .ok (.iload 6, 2) := by decide +kernel
theorem dX0_measureNode_61 : decode cX0_measureNode 61 = .ok (.aload 4, 2) := by decide +kernel
theorem dX0_measureNode_63 : decode cX0_measureNode 63 = .ok (.iload 7, 2) := by decide +kernel
theorem dX0_measureNode_65 : decode cX0_measureNode 65 = .ok (.iaload, 1) := by decide +kernel
theorem dX0_measureNode_66 : decode cX0_measureNode 66 = .ok (.invokestatic 91, 3) := by decide +kernel
theorem dX0_measureNode_69 : decode cX0_measureNode 69 = .ok (.istore 6, 2) := by decide +kernel
theorem dX0_measureNode_71 : decode cX0_measureNode 71 = .ok (.iinc 7 1, 3) := by decide +kernel
theorem dX0_measureNode_74 : decode cX0_measureNode 74 = .ok (.goto (-63), 3) := by decide +kernel
theorem dX0_measureNode_77 : decode cX0_measureNode 77 = .ok (.aload_n 3, 1) := by decide +kernel
theorem dX0_measureNode_78 : decode cX0_measureNode 78 = .ok (.iload_n 2, 1) := by decide +kernel
theorem dX0_measureNode_79 : decode cX0_measureNode 79 = .ok (.aload_n 0, 1) := by decide +kernel
theorem dX0_measureNode_80 : decode cX0_measureNode 80 = .ok (.getfield 23, 3) := by decide +kernel
theorem dX0_measureNode_83 : decode cX0_measureNode 83 = .ok (.iload_n 1, 1) := by decide +kernel
theorem dX0_measureNode_84 : decode cX0_measureNode 84 = .ok (.aaload, 1) := by decide +kernel
theorem dX0_measureNode_85 : decode cX0_measureNode 85 = .ok (.iload_n 2, 1) := by decide +kernel
theorem dX0_measureNode_86 : decode cX0_measureNode 86 = .ok (.iaload, 1) := by decide +kernel
theorem dX0_measureNode_87 : decode cX0_measureNode 87 = .ok (.iload 5, 2) := by decide +kernel
theorem dX0_measureNode_89 : decode cX0_measureNode 89 = .ok (.iadd, 1) := by decide +kernel
theorem dX0_measureNode_90 : decode cX0_measureNode 90 = .ok (.iastore, 1) := by decide +kernel
theorem dX0_measureNode_91 : decode cX0_measureNode 91 = .ok (.aload 4, 2) := by decide +kernel
theorem dX0_measureNode_93 : decode cX0_measureNode 93 = .ok (.iload_n 2, 1) := by decide +kernel
theorem dX0_measureNode_94 : decode cX0_measureNode 94 = .ok (.aload_n 0, 1) := by decide +kernel
theorem dX0_measureNode_95 : decode cX0_measureNode 95 = .ok (.getfield 23, 3) := by decide +kernel
theorem dX0_measureNode_98 : decode cX0_measureNode 98 = .ok (.iload_n 1, 1) := by decide +kernel
theorem dX0_measureNode_99 : decode cX0_measureNode 99 = .ok (.aaload, 1) := by decide +kernel
theorem dX0_measureNode_100 : decode cX0_measureNode 100 = .ok (.iload_n 2, 1) := by decide +kernel
theorem dX0_measureNode_101 : decode cX0_measureNode 101 = .ok (.iaload, 1) := by decide +kernel
theorem dX0_measureNode_102 : decode cX0_measureNode 102 = .ok (.iload 6, 2) := by decide +kernel
theorem dX0_measureNode_104 : decode cX0_measureNode 104 = .ok (.iadd, 1) := by decide +kernel
theorem dX0_measureNode_105 : decode cX0_measureNode 105 = .ok (.iastore, 1) := by decide +kernel
theorem dX0_measureNode_106 : decode cX0_measureNode 106 = .ok (.return_, 1) := by decide +kernel
theorem dX1_init_0 : decode cX1_init 0 = .ok (.aload_n 0, 1) := by decide +kernel
theorem dX1_init_1 : decode cX1_init 1 = .ok (.invokespecial 3, 3) := by decide +kernel
theorem dX1_init_4 : decode cX1_init 4 = .ok (.aload_n 0, 1) := by decide +kernel
theorem dX1_init_5 : decode cX1_init 5 = .ok (.new 9, 3) := by decide +kernel
theorem dX1_init_8 : decode cX1_init 8 = .ok (.dup, 1) := by decide +kernel
theorem dX1_init_9 : decode cX1_init 9 = .ok (.invokespecial 11, 3) := by decide +kernel
theorem dX1_init_12 : decode cX1_init 12 = .ok (.putfield 12, 3) := by decide +kernel
theorem dX1_init_15 : decode cX1_init 15 = .ok (.aload_n 0, 1) := by decide +kernel
theorem dX1_init_16 : decode cX1_init 16 = .ok (.new 18, 3) := by decide +kernel
theorem dX1_init_19 : decode cX1_init 19 = .ok (.dup, 1) := by decide +kernel
theorem dX1_init_20 : decode cX1_init 20 = .ok (.invokespecial 20, 3) := by decide +kernel
theorem dX1_init_23 : decode cX1_init 23 = .ok (.putfield 21, 3) := by decide +kernel
theorem dX1_init_26 : decode cX1_init 26 = .ok (.aload_n 0, 1) := by decide +kernel
theorem dX1_init_27 : decode cX1_init 27 = .ok (.iconst (-1), 1) := by decide +kernel
theorem dX1_init_28 : decode cX1_init 28 = .ok (.putfield 25, 3) := by decide +kernel
theorem dX1_init_31 : decode cX1_init 31 = .ok (.aload_n 0, 1) := by decide +kernel
theorem dX1_init_32 : decode cX1_init 32 = .ok (.bipush 6, 2) := by decide +kernel
theorem dX1_init_34 : decode cX1_init 34 = .ok (.newarray .int, 2) := by decide +kernel
theorem dX1_init_36 : decode cX1_init 36 = .ok (.putfield 29, 3) := by decide +kernel
theorem dX1_init_39 : decode cX1_init 39 = .ok (.return_, 1) := by decide +kernel
theorem dX1_readTape_0 : decode cX1_readTape 0 = .ok (.aload_n 0, 1) := by decide +kernel
theorem dX1_readTape_1 : decode cX1_readTape 1 = .ok (.getfield 21, 3) := by decide +kernel
theorem dX1_readTape_4 : decode cX1_readTape 4 = .ok (.invokevirtual 33, 3) := by decide +kernel
theorem dX1_readTape_7 : decode cX1_readTape 7 = .ok (.aload_n 0, 1) := by decide +kernel
theorem dX1_readTape_8 : decode cX1_readTape 8 = .ok (.iconst 0, 1) := by decide +kernel
theorem dX1_readTape_9 : decode cX1_readTape 9 = .ok (.putfield 36, 3) := by decide +kernel
theorem dX1_readTape_12 : decode cX1_readTape 12 = .ok (.aload_n 0, 1) := by decide +kernel
theorem dX1_readTape_13 : decode cX1_readTape 13 = .ok (.iconst (-1), 1) := by decide +kernel
theorem dX1_readTape_14 : decode cX1_readTape 14 = .ok (.putfield 25, 3) := by decide +kernel
theorem dX1_readTape_17 : decode cX1_readTape 17 = .ok (.aload_n 0, 1) := by decide +kernel
theorem dX1_readTape_18 : decode cX1_readTape 18 = .ok (.getfield 12, 3) := by decide +kernel
theorem dX1_readTape_21 : decode cX1_readTape 21 = .ok (.invokevirtual 39, 3) := by decide +kernel
theorem dX1_readTape_24 : decode cX1_readTape 24 = .ok (.iconst 0, 1) := by decide +kernel
theorem dX1_readTape_25 : decode cX1_readTape 25 = .ok (.istore_n 1, 1) := by decide +kernel
theorem dX1_readTape_26 : decode cX1_readTape 26 = .ok (.iload_n 1, 1) := by decide +kernel
theorem dX1_readTape_27 : decode cX1_readTape 27 = .ok (.sipush 1000, 3) := by decide +kernel
theorem dX1_readTape_30 : decode cX1_readTape 30 = .ok (.if_icmp .ge 47, 3) := by decide +kernel
theorem dX1_readTape_33 : decode cX1_readTape 33 = .ok (.aload_n 0, 1) := by decide +kernel
theorem dX1_readTape_34 : decode cX1_readTape 34 = .ok (.getfield 36, 3) := by decide +kernel
theorem dX1_readTape_37 : decode cX1_readTape 37 = .ok (.ifCond .ne 40, 3) := by decide +kernel
theorem dX1_readTape_40 : decode cX1_readTape 40 = .ok (.aload_n 0, 1) := by decide +kernel
theorem dX1_readTape_41 : decode cX1_readTape 41 = .ok (.getfield 12, 3) := by decide +kernel
theorem dX1_readTape_44 : decode cX1_readTape 44 = .ok (.getfield 42, 3) := by decide +kernel
theorem dX1_readTape_47 : decode cX1_readTape 47 = .ok (.iconst 4, 1) := by decide +kernel
theorem dX1_readTape_48 : decode cX1_readTape 48 = .ok (.if_icmp .eq 29, 3) := by decide +kernel
theorem dX1_readTape_51 : decode cX1_readTape 51 = .ok (.aload_n 0, 1) := by decide +kernel
theorem dX1_readTape_52 : decode cX1_readTape 52 = .ok (.invokevirtual 45, 3) := by decide +kernel
theorem dX1_readTape_55 : decode cX1_readTape 55 = .ok (.ifCond .eq 16, 3) := by decide +kernel
theorem dX1_readTape_58 : decode cX1_readTape 58 = .ok (.aload_n 0, 1) := by decide +kernel
theorem dX1_readTape_59 : decode cX1_readTape 59 = .ok (.getfield 21, 3) := by decide +kernel
theorem dX1_readTape_62 : decode cX1_readTape 62 = .ok (.dup, 1) := by decide +kernel
theorem dX1_readTape_63 : decode cX1_readTape 63 = .ok (.getfield 49, 3) := by decide +kernel
theorem dX1_readTape_66 : decode cX1_readTape 66 = .ok (.iconst 1, 1) := by decide +kernel
theorem dX1_readTape_67 : decode cX1_readTape 67 = .ok (.iadd, 1) := by decide +kernel
theorem dX1_readTape_68 : decode cX1_readTape 68 = .ok (.putfield 49, 3) := by decide +kernel
theorem dX1_readTape_71 : decode cX1_readTape 71 = .ok (.iinc 1 1, 3) := by decide +kernel
theorem dX1_readTape_74 : decode cX1_readTape 74 = .ok (.goto (-48), 3) := by decide +kernel
theorem dX1_readTape_77 : decode cX1_readTape 77 = .ok (.aload_n 0, 1) := by decide +kernel
theorem dX1_readTape_78 : decode cX1_readTape 78 = .ok (.getfield 36, 3) := by decide +kernel
theorem dX1_readTape_81 : decode cX1_readTape 81 = .ok (.ifCond .ne 7, 3) := by decide +kernel
theorem dX1_readTape_84 : decode cX1_readTape 84 = .ok (.aload_n 0, 1) := by decide +kernel
theorem dX1_readTape_85 : decode cX1_readTape 85 = .ok (.invokevirtual 52, 3) := by decide +kernel
theorem dX1_readTape_88 : decode cX1_readTape 88 = .ok (.aload_n 0, 1) := by decide +kernel
theorem dX1_readTape_89 : decode cX1_readTape 89 = .ok (.getfield 36, 3) := by decide +kernel
theorem dX1_readTape_92 : decode cX1_readTape 92 = .ok (.ifCond .ne 10, 3) := by decide +kernel
theorem dX1_readTape_95 : decode cX1_readTape 95 = .ok (.aload_n 0, 1) := by decide +kernel
theorem dX1_readTape_96 : decode cX1_readTape 96 = .ok (.getfield 21, 3) := by decide +kernel
theorem dX1_readTape_99 : decode cX1_readTape 99 = .ok (.invokevirtual 55, 3) := by decide +kernel
theorem dX1_readTape_102 : decode cX1_readTape 102 = .ok (.aload_n 0, 1) := by decide +kernel
theorem dX1_readTape_103 : decode cX1_readTape 103 = .ok (.getfield 36, 3) := by decide +kernel
theorem dX1_readTape_106 : decode cX1_readTape 106 = .ok (.ifCond .ne 7, 3) := by decide +kernel
theorem dX1_readTape_109 : decode cX1_readTape 109 = .ok (.iconst 1, 1) := by decide +kernel
theorem dX1_readTape_110 : decode cX1_readTape 110 = .ok (.goto 4, 3) := by decide +kernel
theorem dX1_readTape_113 : decode cX1_readTape 113 = .ok (.iconst 0, 1) := by decide +kernel
theorem dX1_readTape_114 : decode cX1_readTape 114 = .ok (.ireturn, 1) := by decide +kernel
theorem dX1_fail_0 : decode cX1_fail 0 = .ok (.aload_n 0, 1) := by decide +kernel
theorem dX1_fail_1 : decode cX1_fail 1 = .ok (.iload_n 1, 1) := by decide +kernel
theorem dX1_fail_2 : decode cX1_fail 2 = .ok (.putfield 36, 3) := by decide +kernel
theorem dX1_fail_5 : decode cX1_fail 5 = .ok (.aload_n 0, 1) := by decide +kernel
theorem dX1_fail_6 : decode cX1_fail 6 = .ok (.aload_n 0, 1) := by decide +kernel
theorem dX1_fail_7 : decode cX1_fail 7 = .ok (.getfield 12, 3) := by decide +kernel
theorem dX1_fail_10 : decode cX1_fail 10 = .ok (.getfield 58, 3) := by decide +kernel
theorem dX1_fail_13 : decode cX1_fail 13 = .ok (.putfield 25, 3) := by decide +kernel
theorem dX1_fail_16 : decode cX1_fail 16 = .ok (.iconst 0, 1) := by decide +kernel
theorem dX1_fail_17 : decode cX1_fail 17 = .ok (.ireturn, 1) := by decide +kernel
theorem dX1_findTaskWithoutNode_0 : decode cX1_findTaskWithoutNode 0 = .ok (.iconst 0, 1) := by decide +kernel
theorem dX1_findTaskWithoutNode_1 : decode cX1_findTaskWithoutNode 1 = .ok (.istore_n 1, 1) := by decide +kernel
theorem dX1_findTaskWithoutNode_2 : decode cX1_findTaskWithoutNode 2 = .ok (.iload_n 1, 1) := by decide +kernel
theorem dX1_findTaskWithoutNode_3 : decode cX1_findTaskWithoutNode 3 = .ok (.aload_n 0, 1) := by decide +kernel
theorem dX1_findTaskWithoutNode_4 : decode cX1_findTaskWithoutNode 4 = .ok (.getfield 21, 3) := by decide +kernel
theorem dX1_findTaskWithoutNode_7 : decode cX1_findTaskWithoutNode 7 = .ok (.getfield 59, 3) := by decide +kernel
theorem dX1_findTaskWithoutNode_10 : decode cX1_findTaskWithoutNode 10 = .ok (.if_icmp .ge 41, 3) := by decide +kernel
theorem dX1_findTaskWithoutNode_13 : decode cX1_findTaskWithoutNode 13 = .ok (.aload_n 0, 1) := by decide +kernel
theorem dX1_findTaskWithoutNode_14 : decode cX1_findTaskWithoutNode 14 = .ok (.getfield 36, 3) := by decide +kernel
theorem dX1_findTaskWithoutNode_17 : decode cX1_findTaskWithoutNode 17 = .ok (.ifCond .ne 34, 3) := by decide +kernel
theorem dX1_findTaskWithoutNode_20 : decode cX1_findTaskWithoutNode 20 = .ok (.aload_n 0, 1) := by decide +kernel
theorem dX1_findTaskWithoutNode_21 : decode cX1_findTaskWithoutNode 21 = .ok (.getfield 21, 3) := by decide +kernel
theorem dX1_findTaskWithoutNode_24 : decode cX1_findTaskWithoutNode 24 = .ok (.getfield 62, 3) := by decide +kernel
theorem dX1_findTaskWithoutNode_27 : decode cX1_findTaskWithoutNode 27 = .ok (.iload_n 1, 1) := by decide +kernel
theorem dX1_findTaskWithoutNode_28 : decode cX1_findTaskWithoutNode 28 = .ok (.aaload, 1) := by decide +kernel
theorem dX1_findTaskWithoutNode_29 : decode cX1_findTaskWithoutNode 29 = .ok (.bipush 6, 2) := by decide +kernel
theorem dX1_findTaskWithoutNode_31 : decode cX1_findTaskWithoutNode 31 = .ok (.iaload, 1) := by decide +kernel
theorem dX1_findTaskWithoutNode_32 : decode cX1_findTaskWithoutNode 32 = .ok (.ifCond .ne 13, 3) := by decide +kernel
theorem dX1_findTaskWithoutNode_35 : decode cX1_findTaskWithoutNode 35 = .ok (.aload_n 0, 1) := by decide +kernel
theorem dX1_findTaskWithoutNode_36 : decode cX1_findTaskWithoutNode 36 = .ok (.iconst 4, 1) := by decide +kernel
theorem dX1_findTaskWithoutNode_37 : decode cX1_findTaskWithoutNode 37 = .ok (.putfield 36, 3) := by decide +kernel
theorem dX1_findTaskWithoutNode_40 : decode cX1_findTaskWithoutNode 40 = .ok (.aload_n 0, 1) := by decide +kernel
theorem dX1_findTaskWithoutNode_41 : decode cX1_findTaskWithoutNode 41 = .ok (.iload_n 1, 1) := by decide +kernel
theorem dX1_findTaskWithoutNode_42 : decode cX1_findTaskWithoutNode 42 = .ok (.putfield 25, 3) := by decide +kernel
theorem dX1_findTaskWithoutNode_45 : decode cX1_findTaskWithoutNode 45 = .ok (.iinc 1 1, 3) := by decide +kernel
theorem dX1_findTaskWithoutNode_48 : decode cX1_findTaskWithoutNode 48 = .ok (.goto (-46), 3) := by decide +kernel
theorem dX1_findTaskWithoutNode_51 : decode cX1_findTaskWithoutNode 51 = .ok (.return_, 1) := by decide +kernel
theorem dX1_readLine_0 : decode cX1_readLine 0 = .ok (.aload_n 0, 1) := by decide +kernel
theorem dX1_readLine_1 : decode cX1_readLine 1 = .ok (.getfield 12, 3) := by decide +kernel
theorem dX1_readLine_4 : decode cX1_readLine 4 = .ok (.ldc 66, 2) := by decide +kernel
theorem dX1_readLine_6 : decode cX1_readLine 6 = .ok (.invokevirtual 67, 3) := by decide +kernel
theorem dX1_readLine_9 : decode cX1_readLine 9 = .ok (.istore_n 1, 1) := by decide +kernel
theorem dX1_readLine_10 : decode cX1_readLine 10 = .ok (.iload_n 1, 1) := by decide +kernel
theorem dX1_readLine_11 : decode cX1_readLine 11 = .ok (.aload_n 0, 1) := by decide +kernel
theorem dX1_readLine_12 : decode cX1_readLine 12 = .ok (.getfield 21, 3) := by decide +kernel
theorem dX1_readLine_15 : decode cX1_readLine 15 = .ok (.getfield 49, 3) := by decide +kernel
theorem dX1_readLine_18 : decode cX1_readLine 18 = .ok (.ifCond .ne 7, 3) := by decide +kernel
theorem dX1_readLine_21 : decode cX1_readLine 21 = .ok (.iconst 1, 1) := by decide +kernel
theorem dX1_readLine_22 : decode cX1_readLine 22 = .ok (.goto 4, 3) := by decide +kernel
theorem dX1_readLine_25 : decode cX1_readLine 25 = .ok (.iconst 0, 1) := by decide +kernel
theorem dX1_readLine_26 : decode cX1_readLine 26 = .ok (.if_icmp .eq 9, 3) := by decide +kernel
theorem dX1_readLine_29 : decode cX1_readLine 29 = .ok (.aload_n 0, 1) := by decide +kernel
theorem dX1_readLine_30 : decode cX1_readLine 30 = .ok (.iconst 1, 1) := by decide +kernel
theorem dX1_readLine_31 : decode cX1_readLine 31 = .ok (.invokevirtual 71, 3) := by decide +kernel
theorem dX1_readLine_34 : decode cX1_readLine 34 = .ok (.ireturn, 1) := by decide +kernel
theorem dX1_readLine_35 : decode cX1_readLine 35 = .ok (.iload_n 1, 1) := by decide +kernel
theorem dX1_readLine_36 : decode cX1_readLine 36 = .ok (.ifCond .eq 8, 3) := by decide +kernel
theorem dX1_readLine_39 : decode cX1_readLine 39 = .ok (.aload_n 0, 1) := by decide +kernel
theorem dX1_readLine_40 : decode cX1_readLine 40 = .ok (.invokevirtual 75, 3) := by decide +kernel
theorem dX1_readLine_43 : decode cX1_readLine 43 = .ok (.ireturn, 1) := by decide +kernel
theorem dX1_readLine_44 : decode cX1_readLine 44 = .ok (.aload_n 0, 1) := by decide +kernel
theorem dX1_readLine_45 : decode cX1_readLine 45 = .ok (.getfield 12, 3) := by decide +kernel
theorem dX1_readLine_48 : decode cX1_readLine 48 = .ok (.ldc 78, 2) := by decide +kernel
theorem dX1_readLine_50 : decode cX1_readLine 50 = .ok (.invokevirtual 67, 3) := by decide +kernel
theorem dX1_readLine_53 : decode cX1_readLine 53 = .ok (.ifCond .eq 8, 3) := by decide +kernel
theorem dX1_readLine_56 : decode cX1_readLine 56 = .ok (.aload_n 0, 1) := by decide +kernel
theorem dX1_readLine_57 : decode cX1_readLine 57 = .ok (.invokevirtual 80, 3) := by decide +kernel
theorem dX1_readLine_60 : decode cX1_readLine 60 = .ok (.ireturn, 1) := by decide +kernel
theorem dX1_readLine_61 : decode cX1_readLine 61 = .ok (.aload_n 0, 1) := by decide +kernel
theorem dX1_readLine_62 : decode cX1_readLine 62 = .ok (.getfield 12, 3) := by decide +kernel
theorem dX1_readLine_65 : decode cX1_readLine 65 = .ok (.ldc 83, 2) := by decide +kernel
theorem dX1_readLine_67 : decode cX1_readLine 67 = .ok (.invokevirtual 67, 3) := by decide +kernel
theorem dX1_readLine_70 : decode cX1_readLine 70 = .ok (.ifCond .eq 8, 3) := by decide +kernel
theorem dX1_readLine_73 : decode cX1_readLine 73 = .ok (.aload_n 0, 1) := by decide +kernel
theorem dX1_readLine_74 : decode cX1_readLine 74 = .ok (.invokevirtual 85, 3) := by decide +kernel
theorem dX1_readLine_77 : decode cX1_readLine 77 = .ok (.ireturn, 1) := by decide +kernel
theorem dX1_readLine_78 : decode cX1_readLine 78 = .ok (.aload_n 0, 1) := by decide +kernel
theorem dX1_readLine_79 : decode cX1_readLine 79 = .ok (.getfield 12, 3) := by decide +kernel
theorem dX1_readLine_82 : decode cX1_readLine 82 = .ok (.ldc 88, 2) := by decide +kernel
theorem dX1_readLine_84 : decode cX1_readLine 84 = .ok (.invokevirtual 67, 3) := by decide +kernel
theorem dX1_readLine_87 : decode cX1_readLine 87 = .ok (.ifCond .eq 8, 3) := by decide +kernel
theorem dX1_readLine_90 : decode cX1_readLine 90 = .ok (.aload_n 0, 1) := by decide +kernel
theorem dX1_readLine_91 : decode cX1_readLine 91 = .ok (.invokevirtual 90, 3) := by decide +kernel
theorem dX1_readLine_94 : decode cX1_readLine 94 = .ok (.ireturn, 1) := by decide +kernel
theorem dX1_readLine_95 : decode cX1_readLine 95 = .ok (.aload_n 0, 1) := by decide +kernel
theorem dX1_readLine_96 : decode cX1_readLine 96 = .ok (.aload_n 0, 1) := by decide +kernel
theorem dX1_readLine_97 : decode cX1_readLine 97 = .ok (.invokevirtual 93, 3) := by decide +kernel
theorem dX1_readLine_100 : decode cX1_readLine 100 = .ok (.invokevirtual 97, 3) := by decide +kernel
theorem dX1_readLine_103 : decode cX1_readLine 103 = .ok (.ireturn, 1) := by decide +kernel
theorem dX1_injectionKind_0 : decode cX1_injectionKind 0 = .ok (.aload_n 0, 1) := by decide +kernel
theorem dX1_injectionKind_1 : decode cX1_injectionKind 1 = .ok (.getfield 12, 3) := by decide +kernel
theorem dX1_injectionKind_4 : decode cX1_injectionKind 4 = .ok (.ldc 100, 2) := by decide +kernel
theorem dX1_injectionKind_6 : decode cX1_injectionKind 6 = .ok (.invokevirtual 67, 3) := by decide +kernel
theorem dX1_injectionKind_9 : decode cX1_injectionKind 9 = .ok (.ifCond .eq 5, 3) := by decide +kernel
theorem dX1_injectionKind_12 : decode cX1_injectionKind 12 = .ok (.iconst 0, 1) := by decide +kernel
theorem dX1_injectionKind_13 : decode cX1_injectionKind 13 = .ok (.ireturn, 1) := by decide +kernel
theorem dX1_injectionKind_14 : decode cX1_injectionKind 14 = .ok (.aload_n 0, 1) := by decide +kernel
theorem dX1_injectionKind_15 : decode cX1_injectionKind 15 = .ok (.getfield 12, 3) := by decide +kernel
theorem dX1_injectionKind_18 : decode cX1_injectionKind 18 = .ok (.ldc 102, 2) := by decide +kernel
theorem dX1_injectionKind_20 : decode cX1_injectionKind 20 = .ok (.invokevirtual 67, 3) := by decide +kernel
theorem dX1_injectionKind_23 : decode cX1_injectionKind 23 = .ok (.ifCond .eq 5, 3) := by decide +kernel
theorem dX1_injectionKind_26 : decode cX1_injectionKind 26 = .ok (.iconst 1, 1) := by decide +kernel
theorem dX1_injectionKind_27 : decode cX1_injectionKind 27 = .ok (.ireturn, 1) := by decide +kernel
theorem dX1_injectionKind_28 : decode cX1_injectionKind 28 = .ok (.aload_n 0, 1) := by decide +kernel
theorem dX1_injectionKind_29 : decode cX1_injectionKind 29 = .ok (.getfield 12, 3) := by decide +kernel
theorem dX1_injectionKind_32 : decode cX1_injectionKind 32 = .ok (.ldc 104, 2) := by decide +kernel
theorem dX1_injectionKind_34 : decode cX1_injectionKind 34 = .ok (.invokevirtual 67, 3) := by decide +kernel
theorem dX1_injectionKind_37 : decode cX1_injectionKind 37 = .ok (.ifCond .eq 5, 3) := by decide +kernel
theorem dX1_injectionKind_40 : decode cX1_injectionKind 40 = .ok (.iconst 2, 1) := by decide +kernel
theorem dX1_injectionKind_41 : decode cX1_injectionKind 41 = .ok (.ireturn, 1) := by decide +kernel
theorem dX1_injectionKind_42 : decode cX1_injectionKind 42 = .ok (.aload_n 0, 1) := by decide +kernel
theorem dX1_injectionKind_43 : decode cX1_injectionKind 43 = .ok (.getfield 12, 3) := by decide +kernel
theorem dX1_injectionKind_46 : decode cX1_injectionKind 46 = .ok (.ldc 106, 2) := by decide +kernel
theorem dX1_injectionKind_48 : decode cX1_injectionKind 48 = .ok (.invokevirtual 67, 3) := by decide +kernel
theorem dX1_injectionKind_51 : decode cX1_injectionKind 51 = .ok (.ifCond .eq 5, 3) := by decide +kernel
theorem dX1_injectionKind_54 : decode cX1_injectionKind 54 = .ok (.iconst 3, 1) := by decide +kernel
theorem dX1_injectionKind_55 : decode cX1_injectionKind 55 = .ok (.ireturn, 1) := by decide +kernel
theorem dX1_injectionKind_56 : decode cX1_injectionKind 56 = .ok (.aload_n 0, 1) := by decide +kernel
theorem dX1_injectionKind_57 : decode cX1_injectionKind 57 = .ok (.getfield 12, 3) := by decide +kernel
theorem dX1_injectionKind_60 : decode cX1_injectionKind 60 = .ok (.ldc 108, 2) := by decide +kernel
theorem dX1_injectionKind_62 : decode cX1_injectionKind 62 = .ok (.invokevirtual 67, 3) := by decide +kernel
theorem dX1_injectionKind_65 : decode cX1_injectionKind 65 = .ok (.ifCond .eq 5, 3) := by decide +kernel
theorem dX1_injectionKind_68 : decode cX1_injectionKind 68 = .ok (.iconst 4, 1) := by decide +kernel
theorem dX1_injectionKind_69 : decode cX1_injectionKind 69 = .ok (.ireturn, 1) := by decide +kernel
theorem dX1_injectionKind_70 : decode cX1_injectionKind 70 = .ok (.aload_n 0, 1) := by decide +kernel
theorem dX1_injectionKind_71 : decode cX1_injectionKind 71 = .ok (.getfield 12, 3) := by decide +kernel
theorem dX1_injectionKind_74 : decode cX1_injectionKind 74 = .ok (.ldc 110, 2) := by decide +kernel
theorem dX1_injectionKind_76 : decode cX1_injectionKind 76 = .ok (.invokevirtual 67, 3) := by decide +kernel
theorem dX1_injectionKind_79 : decode cX1_injectionKind 79 = .ok (.ifCond .eq 7, 3) := by decide +kernel
theorem dX1_injectionKind_82 : decode cX1_injectionKind 82 = .ok (.iconst 5, 1) := by decide +kernel
theorem dX1_injectionKind_83 : decode cX1_injectionKind 83 = .ok (.goto 4, 3) := by decide +kernel
theorem dX1_injectionKind_86 : decode cX1_injectionKind 86 = .ok (.iconst (-1), 1) := by decide +kernel
theorem dX1_injectionKind_87 : decode cX1_injectionKind 87 = .ok (.ireturn, 1) := by decide +kernel
theorem dX1_readBoard_0 : decode cX1_readBoard 0 = .ok (.aload_n 0, 1) := by decide +kernel
theorem dX1_readBoard_1 : decode cX1_readBoard 1 = .ok (.getfield 12, 3) := by decide +kernel
theorem dX1_readBoard_4 : decode cX1_readBoard 4 = .ok (.invokevirtual 112, 3) := by decide +kernel
theorem dX1_readBoard_7 : decode cX1_readBoard 7 = .ok (.aload_n 0, 1) := by decide +kernel
theorem dX1_readBoard_8 : decode cX1_readBoard 8 = .ok (.ldc 115, 2) := by decide +kernel
theorem dX1_readBoard_10 : decode cX1_readBoard 10 = .ok (.bipush 20, 2) := by decide +kernel
theorem dX1_readBoard_12 : decode cX1_readBoard 12 = .ok (.sipush 200, 3) := by decide +kernel
theorem dX1_readBoard_15 : decode cX1_readBoard 15 = .ok (.iconst 0, 1) := by decide +kernel
theorem dX1_readBoard_16 : decode cX1_readBoard 16 = .ok (.invokevirtual 117, 3) := by decide +kernel
theorem dX1_readBoard_19 : decode cX1_readBoard 19 = .ok (.ifCond .eq 36, 3) := by decide +kernel
theorem dX1_readBoard_22 : decode cX1_readBoard 22 = .ok (.aload_n 0, 1) := by decide +kernel
theorem dX1_readBoard_23 : decode cX1_readBoard 23 = .ok (.ldc 121, 2) := by decide +kernel
theorem dX1_readBoard_25 : decode cX1_readBoard 25 = .ok (.iconst 5, 1) := by decide +kernel
theorem dX1_readBoard_26 : decode cX1_readBoard 26 = .ok (.bipush 50, 2) := by decide +kernel
theorem dX1_readBoard_28 : decode cX1_readBoard 28 = .ok (.iconst 1, 1) := by decide +kernel
theorem dX1_readBoard_29 : decode cX1_readBoard 29 = .ok (.invokevirtual 117, 3) := by decide +kernel
theorem dX1_readBoard_32 : decode cX1_readBoard 32 = .ok (.ifCond .eq 23, 3) := by decide +kernel
theorem dX1_readBoard_35 : decode cX1_readBoard 35 = .ok (.aload_n 0, 1) := by decide +kernel
theorem dX1_readBoard_36 : decode cX1_readBoard 36 = .ok (.ldc 123, 2) := by decide +kernel
theorem dX1_readBoard_38 : decode cX1_readBoard 38 = .ok (.iconst 0, 1) := by decide +kernel
theorem dX1_readBoard_39 : decode cX1_readBoard 39 = .ok (.bipush 9, 2) := by decide +kernel
theorem dX1_readBoard_41 : decode cX1_readBoard 41 = .ok (.iconst 2, 1) := by decide +kernel
theorem dX1_readBoard_42 : decode cX1_readBoard 42 = .ok (.invokevirtual 117, 3) := by decide +kernel
theorem dX1_readBoard_45 : decode cX1_readBoard 45 = .ok (.ifCond .eq 10, 3) := by decide +kernel
theorem dX1_readBoard_48 : decode cX1_readBoard 48 = .ok (.aload_n 0, 1) := by decide +kernel
theorem dX1_readBoard_49 : decode cX1_readBoard 49 = .ok (.invokevirtual 125, 3) := by decide +kernel
theorem dX1_readBoard_52 : decode cX1_readBoard 52 = .ok (.ifCond .ne 5, 3) := by decide +kernel
theorem dX1_readBoard_55 : decode cX1_readBoard 55 = .ok (.iconst 0, 1) := by decide +kernel
theorem dX1_readBoard_56 : decode cX1_readBoard 56 = .ok (.ireturn, 1) := by decide +kernel
theorem dX1_readBoard_57 : decode cX1_readBoard 57 = .ok (.aload_n 0, 1) := by decide +kernel
theorem dX1_readBoard_58 : decode cX1_readBoard 58 = .ok (.getfield 21, 3) := by decide +kernel
theorem dX1_readBoard_61 : decode cX1_readBoard 61 = .ok (.aload_n 0, 1) := by decide +kernel
theorem dX1_readBoard_62 : decode cX1_readBoard 62 = .ok (.getfield 29, 3) := by decide +kernel
theorem dX1_readBoard_65 : decode cX1_readBoard 65 = .ok (.iconst 0, 1) := by decide +kernel
theorem dX1_readBoard_66 : decode cX1_readBoard 66 = .ok (.iaload, 1) := by decide +kernel
theorem dX1_readBoard_67 : decode cX1_readBoard 67 = .ok (.putfield 128, 3) := by decide +kernel
theorem dX1_readBoard_70 : decode cX1_readBoard 70 = .ok (.aload_n 0, 1) := by decide +kernel
theorem dX1_readBoard_71 : decode cX1_readBoard 71 = .ok (.getfield 21, 3) := by decide +kernel
theorem dX1_readBoard_74 : decode cX1_readBoard 74 = .ok (.aload_n 0, 1) := by decide +kernel
theorem dX1_readBoard_75 : decode cX1_readBoard 75 = .ok (.getfield 29, 3) := by decide +kernel
theorem dX1_readBoard_78 : decode cX1_readBoard 78 = .ok (.iconst 1, 1) := by decide +kernel
theorem dX1_readBoard_79 : decode cX1_readBoard 79 = .ok (.iaload, 1) := by decide +kernel
theorem dX1_readBoard_80 : decode cX1_readBoard 80 = .ok (.putfield 130, 3) := by decide +kernel
theorem dX1_readBoard_83 : decode cX1_readBoard 83 = .ok (.aload_n 0, 1) := by decide +kernel
theorem dX1_readBoard_84 : decode cX1_readBoard 84 = .ok (.getfield 21, 3) := by decide +kernel
theorem dX1_readBoard_87 : decode cX1_readBoard 87 = .ok (.aload_n 0, 1) := by decide +kernel
theorem dX1_readBoard_88 : decode cX1_readBoard 88 = .ok (.getfield 29, 3) := by decide +kernel
theorem dX1_readBoard_91 : decode cX1_readBoard 91 = .ok (.iconst 2, 1) := by decide +kernel
theorem dX1_readBoard_92 : decode cX1_readBoard 92 = .ok (.iaload, 1) := by decide +kernel
theorem dX1_readBoard_93 : decode cX1_readBoard 93 = .ok (.putfield 132, 3) := by decide +kernel
theorem dX1_readBoard_96 : decode cX1_readBoard 96 = .ok (.iconst 1, 1) := by decide +kernel
theorem dX1_readBoard_97 : decode cX1_readBoard 97 = .ok (.ireturn, 1) := by decide +kernel
theorem dX1_readWatcher_0 : decode cX1_readWatcher 0 = .ok (.aload_n 0, 1) := by decide +kernel
theorem dX1_readWatcher_1 : decode cX1_readWatcher 1 = .ok (.getfield 21, 3) := by decide +kernel
theorem dX1_readWatcher_4 : decode cX1_readWatcher 4 = .ok (.getfield 134, 3) := by decide +kernel
theorem dX1_readWatcher_7 : decode cX1_readWatcher 7 = .ok (.iconst 3, 1) := by decide +kernel
theorem dX1_readWatcher_8 : decode cX1_readWatcher 8 = .ok (.if_icmp .lt 9, 3) := by decide +kernel
theorem dX1_readWatcher_11 : decode cX1_readWatcher 11 = .ok (.aload_n 0, 1) := by decide +kernel
theorem dX1_readWatcher_12 : decode cX1_readWatcher 12 = .ok (.iconst 3, 1) := by decide +kernel
theorem dX1_readWatcher_13 : decode cX1_readWatcher 13 = .ok (.invokevirtual 71, 3) := by decide +kernel
theorem dX1_readWatcher_16 : decode cX1_readWatcher 16 = .ok (.ireturn, 1) := by decide +kernel
theorem dX1_readWatcher_17 : decode cX1_readWatcher 17 = .ok (.aload_n 0, 1) := by decide +kernel
theorem dX1_readWatcher_18 : decode cX1_readWatcher 18 = .ok (.getfield 12, 3) := by decide +kernel
theorem dX1_readWatcher_21 : decode cX1_readWatcher 21 = .ok (.invokevirtual 112, 3) := by decide +kernel
theorem dX1_readWatcher_24 : decode cX1_readWatcher 24 = .ok (.aload_n 0, 1) := by decide +kernel
theorem dX1_readWatcher_25 : decode cX1_readWatcher 25 = .ok (.getfield 29, 3) := by decide +kernel
theorem dX1_readWatcher_28 : decode cX1_readWatcher 28 = .ok (.iconst 0, 1) := by decide +kernel
theorem dX1_readWatcher_29 : decode cX1_readWatcher 29 = .ok (.iconst (-1), 1) := by decide +kernel
theorem dX1_readWatcher_30 : decode cX1_readWatcher 30 = .ok (.iastore, 1) := by decide +kernel
theorem dX1_readWatcher_31 : decode cX1_readWatcher 31 = .ok (.aload_n 0, 1) := by decide +kernel
theorem dX1_readWatcher_32 : decode cX1_readWatcher 32 = .ok (.getfield 21, 3) := by decide +kernel
theorem dX1_readWatcher_35 : decode cX1_readWatcher 35 = .ok (.getfield 134, 3) := by decide +kernel
theorem dX1_readWatcher_38 : decode cX1_readWatcher 38 = .ok (.ifCond .ne 12, 3) := by decide +kernel
theorem dX1_readWatcher_41 : decode cX1_readWatcher 41 = .ok (.aload_n 0, 1) := by decide +kernel
theorem dX1_readWatcher_42 : decode cX1_readWatcher 42 = .ok (.ldc 137, 2) := by decide +kernel
theorem dX1_readWatcher_44 : decode cX1_readWatcher 44 = .ok (.invokevirtual 139, 3) := by decide +kernel
theorem dX1_readWatcher_47 : decode cX1_readWatcher 47 = .ok (.goto 20, 3) := by decide +kernel
theorem dX1_readWatcher_50 : decode cX1_readWatcher 50 = .ok (.aload_n 0, 1) := by decide +kernel
theorem dX1_readWatcher_51 : decode cX1_readWatcher 51 = .ok (.ldc 142, 2) := by decide +kernel
theorem dX1_readWatcher_53 : decode cX1_readWatcher 53 = .ok (.iconst 0, 1) := by decide +kernel
theorem dX1_readWatcher_54 : decode cX1_readWatcher 54 = .ok (.aload_n 0, 1) := by decide +kernel
theorem dX1_readWatcher_55 : decode cX1_readWatcher 55 = .ok (.getfield 21, 3) := by decide +kernel
theorem dX1_readWatcher_58 : decode cX1_readWatcher 58 = .ok (.getfield 134, 3) := by decide +kernel
theorem dX1_readWatcher_61 : decode cX1_readWatcher 61 = .ok (.iconst 1, 1) := by decide +kernel
theorem dX1_readWatcher_62 : decode cX1_readWatcher 62 = .ok (.isub, 1) := by decide +kernel
theorem dX1_readWatcher_63 : decode cX1_readWatcher 63 = .ok (.iconst 0, 1) := by decide +kernel
theorem dX1_readWatcher_64 : decode cX1_readWatcher 64 = .ok (.invokevirtual 117, 3) := by decide +kernel
theorem dX1_readWatcher_67 : decode cX1_readWatcher 67 = .ok (.istore_n 1, 1) := by decide +kernel
theorem dX1_readWatcher_68 : decode cX1_readWatcher 68 = .ok (.iload_n 1, 1) := by decide +kernel
theorem dX1_readWatcher_69 : decode cX1_readWatcher 69 = .ok (.ifCond .eq 10, 3) := by decide +kernel
theorem dX1_readWatcher_72 : decode cX1_readWatcher 72 = .ok (.aload_n 0, 1) := by decide +kernel
theorem dX1_readWatcher_73 : decode cX1_readWatcher 73 = .ok (.invokevirtual 125, 3) := by decide +kernel
theorem dX1_readWatcher_76 : decode cX1_readWatcher 76 = .ok (.ifCond .ne 5, 3) := by decide +kernel
theorem dX1_readWatcher_79 : decode cX1_readWatcher 79 = .ok (.iconst 0, 1) := by decide +kernel
theorem dX1_readWatcher_80 : decode cX1_readWatcher 80 = .ok (.ireturn, 1) := by decide +kernel
theorem dX1_readWatcher_81 : decode cX1_readWatcher 81 = .ok (.aload_n 0, 1) := by decide +kernel
theorem dX1_readWatcher_82 : decode cX1_readWatcher 82 = .ok (.getfield 21, 3) := by decide +kernel
theorem dX1_readWatcher_85 : decode cX1_readWatcher 85 = .ok (.aload_n 0, 1) := by decide +kernel
theorem dX1_readWatcher_86 : decode cX1_readWatcher 86 = .ok (.getfield 29, 3) := by decide +kernel
theorem dX1_readWatcher_89 : decode cX1_readWatcher 89 = .ok (.iconst 0, 1) := by decide +kernel
theorem dX1_readWatcher_90 : decode cX1_readWatcher 90 = .ok (.iaload, 1) := by decide +kernel
theorem dX1_readWatcher_91 : decode cX1_readWatcher 91 = .ok (.invokevirtual 144, 3) := by decide +kernel
theorem dX1_readWatcher_94 : decode cX1_readWatcher 94 = .ok (.iconst 1, 1) := by decide +kernel
theorem dX1_readWatcher_95 : decode cX1_readWatcher 95 = .ok (.ireturn, 1) := by decide +kernel
theorem dX1_readTask_0 : decode cX1_readTask 0 = .ok (.aload_n 0, 1) := by decide +kernel
theorem dX1_readTask_1 : decode cX1_readTask 1 = .ok (.getfield 21, 3) := by decide +kernel
theorem dX1_readTask_4 : decode cX1_readTask 4 = .ok (.getfield 59, 3) := by decide +kernel
theorem dX1_readTask_7 : decode cX1_readTask 7 = .ok (.iconst 5, 1) := by decide +kernel
theorem dX1_readTask_8 : decode cX1_readTask 8 = .ok (.if_icmp .lt 9, 3) := by decide +kernel
theorem dX1_readTask_11 : decode cX1_readTask 11 = .ok (.aload_n 0, 1) := by decide +kernel
theorem dX1_readTask_12 : decode cX1_readTask 12 = .ok (.iconst 3, 1) := by decide +kernel
theorem dX1_readTask_13 : decode cX1_readTask 13 = .ok (.invokevirtual 71, 3) := by decide +kernel
theorem dX1_readTask_16 : decode cX1_readTask 16 = .ok (.ireturn, 1) := by decide +kernel
theorem dX1_readTask_17 : decode cX1_readTask 17 = .ok (.aload_n 0, 1) := by decide +kernel
theorem dX1_readTask_18 : decode cX1_readTask 18 = .ok (.getfield 12, 3) := by decide +kernel
theorem dX1_readTask_21 : decode cX1_readTask 21 = .ok (.invokevirtual 112, 3) := by decide +kernel
theorem dX1_readTask_24 : decode cX1_readTask 24 = .ok (.aload_n 0, 1) := by decide +kernel
theorem dX1_readTask_25 : decode cX1_readTask 25 = .ok (.ldc 142, 2) := by decide +kernel
theorem dX1_readTask_27 : decode cX1_readTask 27 = .ok (.iconst 0, 1) := by decide +kernel
theorem dX1_readTask_28 : decode cX1_readTask 28 = .ok (.aload_n 0, 1) := by decide +kernel
theorem dX1_readTask_29 : decode cX1_readTask 29 = .ok (.getfield 21, 3) := by decide +kernel
theorem dX1_readTask_32 : decode cX1_readTask 32 = .ok (.getfield 134, 3) := by decide +kernel
theorem dX1_readTask_35 : decode cX1_readTask 35 = .ok (.iconst 1, 1) := by decide +kernel
theorem dX1_readTask_36 : decode cX1_readTask 36 = .ok (.isub, 1) := by decide +kernel
theorem dX1_readTask_37 : decode cX1_readTask 37 = .ok (.iconst 0, 1) := by decide +kernel
theorem dX1_readTask_38 : decode cX1_readTask 38 = .ok (.invokevirtual 117, 3) := by decide +kernel
theorem dX1_readTask_41 : decode cX1_readTask 41 = .ok (.ifCond .eq 87, 3) := by decide +kernel
theorem dX1_readTask_44 : decode cX1_readTask 44 = .ok (.aload_n 0, 1) := by decide +kernel
theorem dX1_readTask_45 : decode cX1_readTask 45 = .ok (.ldc 148, 2) := by decide +kernel
theorem dX1_readTask_47 : decode cX1_readTask 47 = .ok (.iconst 4, 1) := by decide +kernel
theorem dX1_readTask_48 : decode cX1_readTask 48 = .ok (.bipush 60, 2) := by decide +kernel
theorem dX1_readTask_50 : decode cX1_readTask 50 = .ok (.iconst 1, 1) := by decide +kernel
theorem dX1_readTask_51 : decode cX1_readTask 51 = .ok (.invokevirtual 117, 3) := by decide +kernel
theorem dX1_readTask_54 : decode cX1_readTask 54 = .ok (.ifCond .eq 74, 3) := by decide +kernel
theorem dX1_readTask_57 : decode cX1_readTask 57 = .ok (.aload_n 0, 1) := by decide +kernel
theorem dX1_readTask_58 : decode cX1_readTask 58 = .ok (.ldc 150, 2) := by decide +kernel
theorem dX1_readTask_60 : decode cX1_readTask 60 = .ok (.iconst 0, 1) := by decide +kernel
theorem dX1_readTask_61 : decode cX1_readTask 61 = .ok (.bipush 99, 2) := by decide +kernel
theorem dX1_readTask_63 : decode cX1_readTask 63 = .ok (.iconst 2, 1) := by decide +kernel
theorem dX1_readTask_64 : decode cX1_readTask 64 = .ok (.invokevirtual 117, 3) := by decide +kernel
theorem dX1_readTask_67 : decode cX1_readTask 67 = .ok (.ifCond .eq 61, 3) := by decide +kernel
theorem dX1_readTask_70 : decode cX1_readTask 70 = .ok (.aload_n 0, 1) := by decide +kernel
theorem dX1_readTask_71 : decode cX1_readTask 71 = .ok (.ldc 152, 2) := by decide +kernel
theorem dX1_readTask_73 : decode cX1_readTask 73 = .ok (.aload_n 0, 1) := by decide +kernel
theorem dX1_readTask_74 : decode cX1_readTask 74 = .ok (.getfield 29, 3) := by decide +kernel
theorem dX1_readTask_77 : decode cX1_readTask 77 = .ok (.iconst 2, 1) := by decide +kernel
theorem dX1_readTask_78 : decode cX1_readTask 78 = .ok (.iaload, 1) := by decide +kernel
theorem dX1_readTask_79 : decode cX1_readTask 79 = .ok (.iconst 1, 1) := by decide +kernel
theorem dX1_readTask_80 : decode cX1_readTask 80 = .ok (.iadd, 1) := by decide +kernel
theorem dX1_readTask_81 : decode cX1_readTask 81 = .ok (.bipush 120, 2) := by decide +kernel
theorem dX1_readTask_83 : decode cX1_readTask 83 = .ok (.iconst 3, 1) := by decide +kernel
theorem dX1_readTask_84 : decode cX1_readTask 84 = .ok (.invokevirtual 117, 3) := by decide +kernel
theorem dX1_readTask_87 : decode cX1_readTask 87 = .ok (.ifCond .eq 41, 3) := by decide +kernel
theorem dX1_readTask_90 : decode cX1_readTask 90 = .ok (.aload_n 0, 1) := by decide +kernel
theorem dX1_readTask_91 : decode cX1_readTask 91 = .ok (.ldc 154, 2) := by decide +kernel
theorem dX1_readTask_93 : decode cX1_readTask 93 = .ok (.iconst 0, 1) := by decide +kernel
theorem dX1_readTask_94 : decode cX1_readTask 94 = .ok (.bipush 20, 2) := by decide +kernel
theorem dX1_readTask_96 : decode cX1_readTask 96 = .ok (.iconst 4, 1) := by decide +kernel
theorem dX1_readTask_97 : decode cX1_readTask 97 = .ok (.invokevirtual 117, 3) := by decide +kernel
theorem dX1_readTask_100 : decode cX1_readTask 100 = .ok (.ifCond .eq 28, 3) := by decide +kernel
theorem dX1_readTask_103 : decode cX1_readTask 103 = .ok (.aload_n 0, 1) := by decide +kernel
theorem dX1_readTask_104 : decode cX1_readTask 104 = .ok (.ldc 156, 2) := by decide +kernel
theorem dX1_readTask_106 : decode cX1_readTask 106 = .ok (.aload_n 0, 1) := by decide +kernel
theorem dX1_readTask_107 : decode cX1_readTask 107 = .ok (.getfield 29, 3) := by decide +kernel
theorem dX1_readTask_110 : decode cX1_readTask 110 = .ok (.iconst 4, 1) := by decide +kernel
theorem dX1_readTask_111 : decode cX1_readTask 111 = .ok (.iaload, 1) := by decide +kernel
theorem dX1_readTask_112 : decode cX1_readTask 112 = .ok (.bipush 40, 2) := by decide +kernel
theorem dX1_readTask_114 : decode cX1_readTask 114 = .ok (.iconst 5, 1) := by decide +kernel
theorem dX1_readTask_115 : decode cX1_readTask 115 = .ok (.invokevirtual 117, 3) := by decide +kernel
theorem dX1_readTask_118 : decode cX1_readTask 118 = .ok (.ifCond .eq 10, 3) := by decide +kernel
theorem dX1_readTask_121 : decode cX1_readTask 121 = .ok (.aload_n 0, 1) := by decide +kernel
theorem dX1_readTask_122 : decode cX1_readTask 122 = .ok (.invokevirtual 125, 3) := by decide +kernel
theorem dX1_readTask_125 : decode cX1_readTask 125 = .ok (.ifCond .ne 5, 3) := by decide +kernel
theorem dX1_readTask_128 : decode cX1_readTask 128 = .ok (.iconst 0, 1) := by decide +kernel
theorem dX1_readTask_129 : decode cX1_readTask 129 = .ok (.ireturn, 1) := by decide +kernel
theorem dX1_readTask_130 : decode cX1_readTask 130 = .ok (.aload_n 0, 1) := by decide +kernel
theorem dX1_readTask_131 : decode cX1_readTask 131 = .ok (.getfield 21, 3) := by decide +kernel
theorem dX1_readTask_134 : decode cX1_readTask 134 = .ok (.getfield 62, 3) := by decide +kernel
theorem dX1_readTask_137 : decode cX1_readTask 137 = .ok (.aload_n 0, 1) := by decide +kernel
theorem dX1_readTask_138 : decode cX1_readTask 138 = .ok (.getfield 21, 3) := by decide +kernel
theorem dX1_readTask_141 : decode cX1_readTask 141 = .ok (.getfield 59, 3) := by decide +kernel
theorem dX1_readTask_144 : decode cX1_readTask 144 = .ok (.aaload, 1) := by decide +kernel
theorem dX1_readTask_145 : decode cX1_readTask 145 = .ok (.astore_n 1, 1) := by decide +kernel
theorem dX1_readTask_146 : decode cX1_readTask 146 = .ok (.iconst 0, 1) := by decide +kernel
theorem dX1_readTask_147 : decode cX1_readTask 147 = .ok (.istore_n 2, 1) := by decide +kernel
theorem dX1_readTask_148 : decode cX1_readTask 148 = .ok (.iload_n 2, 1) := by decide +kernel
theorem dX1_readTask_149 : decode cX1_readTask 149 = .ok (.iconst 5, 1) := by decide +kernel
theorem dX1_readTask_150 : decode cX1_readTask 150 = .ok (.if_icmp .gt 18, 3) := by decide +kernel
theorem dX1_readTask_153 : decode cX1_readTask 153 = .ok (.aload_n 1, 1) := by decide +kernel
theorem dX1_readTask_154 : decode cX1_readTask 154 = .ok (.iload_n 2, 1) := by decide +kernel
theorem dX1_readTask_155 : decode cX1_readTask 155 = .ok (.aload_n 0, 1) := by decide +kernel
theorem dX1_readTask_156 : decode cX1_readTask 156 = .ok (.getfield 29, 3) := by decide +kernel
theorem dX1_readTask_159 : decode cX1_readTask 159 = .ok (.iload_n 2, 1) := by decide +kernel
theorem dX1_readTask_160 : decode cX1_readTask 160 = .ok (.iaload, 1) := by decide +kernel
theorem dX1_readTask_161 : decode cX1_readTask 161 = .ok (.iastore, 1) := by decide +kernel
theorem dX1_readTask_162 : decode cX1_readTask 162 = .ok (.iinc 2 1, 3) := by decide +kernel
theorem dX1_readTask_165 : decode cX1_readTask 165 = .ok (.goto (-17), 3) := by decide +kernel
theorem dX1_readTask_168 : decode cX1_readTask 168 = .ok (.aload_n 0, 1) := by decide +kernel
theorem dX1_readTask_169 : decode cX1_readTask 169 = .ok (.getfield 21, 3) := by decide +kernel
theorem dX1_readTask_172 : decode cX1_readTask 172 = .ok (.dup, 1) := by decide +kernel
theorem dX1_readTask_173 : decode cX1_readTask 173 = .ok (.getfield 59, 3) := by decide +kernel
theorem dX1_readTask_176 : decode cX1_readTask 176 = .ok (.iconst 1, 1) := by decide +kernel
theorem dX1_readTask_177 : decode cX1_readTask 177 = .ok (.iadd, 1) := by decide +kernel
theorem dX1_readTask_178 : decode cX1_readTask 178 = .ok (.putfield 59, 3) := by decide +kernel
theorem dX1_readTask_181 : decode cX1_readTask 181 = .ok (.iconst 1, 1) := by decide +kernel
theorem dX1_readTask_182 : decode cX1_readTask 182 = .ok (.ireturn, 1) := by decide +kernel
theorem dX1_readNode_0 : decode cX1_readNode 0 = .ok (.aload_n 0, 1) := by decide +kernel
theorem dX1_readNode_1 : decode cX1_readNode 1 = .ok (.getfield 21, 3) := by decide +kernel
theorem dX1_readNode_4 : decode cX1_readNode 4 = .ok (.getfield 59, 3) := by decide +kernel
theorem dX1_readNode_7 : decode cX1_readNode 7 = .ok (.iconst 1, 1) := by decide +kernel
theorem dX1_readNode_8 : decode cX1_readNode 8 = .ok (.isub, 1) := by decide +kernel
theorem dX1_readNode_9 : decode cX1_readNode 9 = .ok (.istore_n 1, 1) := by decide +kernel
theorem dX1_readNode_10 : decode cX1_readNode 10 = .ok (.iload_n 1, 1) := by decide +kernel
theorem dX1_readNode_11 : decode cX1_readNode 11 = .ok (.ifCond .ge 9, 3) := by decide +kernel
theorem dX1_readNode_14 : decode cX1_readNode 14 = .ok (.aload_n 0, 1) := by decide +kernel
theorem dX1_readNode_15 : decode cX1_readNode 15 = .ok (.iconst 1, 1) := by decide +kernel
theorem dX1_readNode_16 : decode cX1_readNode 16 = .ok (.invokevirtual 71, 3) := by decide +kernel
theorem dX1_readNode_19 : decode cX1_readNode 19 = .ok (.ireturn, 1) := by decide +kernel
theorem dX1_readNode_20 : decode cX1_readNode 20 = .ok (.aload_n 0, 1) := by decide +kernel
theorem dX1_readNode_21 : decode cX1_readNode 21 = .ok (.getfield 21, 3) := by decide +kernel
theorem dX1_readNode_24 : decode cX1_readNode 24 = .ok (.getfield 62, 3) := by decide +kernel
theorem dX1_readNode_27 : decode cX1_readNode 27 = .ok (.iload_n 1, 1) := by decide +kernel
theorem dX1_readNode_28 : decode cX1_readNode 28 = .ok (.aaload, 1) := by decide +kernel
theorem dX1_readNode_29 : decode cX1_readNode 29 = .ok (.bipush 6, 2) := by decide +kernel
theorem dX1_readNode_31 : decode cX1_readNode 31 = .ok (.iaload, 1) := by decide +kernel
theorem dX1_readNode_32 : decode cX1_readNode 32 = .ok (.istore_n 2, 1) := by decide +kernel
theorem dX1_readNode_33 : decode cX1_readNode 33 = .ok (.iload_n 2, 1) := by decide +kernel
theorem dX1_readNode_34 : decode cX1_readNode 34 = .ok (.bipush 6, 2) := by decide +kernel
theorem dX1_readNode_36 : decode cX1_readNode 36 = .ok (.if_icmp .lt 9, 3) := by decide +kernel
theorem dX1_readNode_39 : decode cX1_readNode 39 = .ok (.aload_n 0, 1) := by decide +kernel
theorem dX1_readNode_40 : decode cX1_readNode 40 = .ok (.iconst 3, 1) := by decide +kernel
theorem dX1_readNode_41 : decode cX1_readNode 41 = .ok (.invokevirtual 71, 3) := by decide +kernel
theorem dX1_readNode_44 : decode cX1_readNode 44 = .ok (.ireturn, 1) := by decide +kernel
theorem dX1_readNode_45 : decode cX1_readNode 45 = .ok (.aload_n 0, 1) := by decide +kernel
theorem dX1_readNode_46 : decode cX1_readNode 46 = .ok (.getfield 12, 3) := by decide +kernel
theorem dX1_readNode_49 : decode cX1_readNode 49 = .ok (.invokevirtual 112, 3) := by decide +kernel
theorem dX1_readNode_52 : decode cX1_readNode 52 = .ok (.aload_n 0, 1) := by decide +kernel
theorem dX1_readNode_53 : decode cX1_readNode 53 = .ok (.iconst 1, 1) := by decide +kernel
theorem dX1_readNode_54 : decode cX1_readNode 54 = .ok (.bipush 9, 2) := by decide +kernel
theorem dX1_readNode_56 : decode cX1_readNode 56 = .ok (.iconst 0, 1) := by decide +kernel
theorem dX1_readNode_57 : decode cX1_readNode 57 = .ok (.invokevirtual 158, 3) := by decide +kernel
theorem dX1_readNode_60 : decode cX1_readNode 60 = .ok (.ifCond .eq 23, 3) := by decide +kernel
theorem dX1_readNode_63 : decode cX1_readNode 63 = .ok (.iload_n 2, 1) := by decide +kernel
theorem dX1_readNode_64 : decode cX1_readNode 64 = .ok (.ifCond .le 12, 3) := by decide +kernel
theorem dX1_readNode_67 : decode cX1_readNode 67 = .ok (.aload_n 0, 1) := by decide +kernel
theorem dX1_readNode_68 : decode cX1_readNode 68 = .ok (.iload_n 1, 1) := by decide +kernel
theorem dX1_readNode_69 : decode cX1_readNode 69 = .ok (.iload_n 2, 1) := by decide +kernel
theorem dX1_readNode_70 : decode cX1_readNode 70 = .ok (.invokevirtual 162, 3) := by decide +kernel
theorem dX1_readNode_73 : decode cX1_readNode 73 = .ok (.ifCond .eq 10, 3) := by decide +kernel
theorem dX1_readNode_76 : decode cX1_readNode 76 = .ok (.aload_n 0, 1) := by decide +kernel
theorem dX1_readNode_77 : decode cX1_readNode 77 = .ok (.invokevirtual 125, 3) := by decide +kernel
theorem dX1_readNode_80 : decode cX1_readNode 80 = .ok (.ifCond .ne 5, 3) := by decide +kernel
theorem dX1_readNode_83 : decode cX1_readNode 83 = .ok (.iconst 0, 1) := by decide +kernel
theorem dX1_readNode_84 : decode cX1_readNode 84 = .ok (.ireturn, 1) := by decide +kernel
theorem dX1_readNode_85 : decode cX1_readNode 85 = .ok (.aload_n 0, 1) := by decide +kernel
theorem dX1_readNode_86 : decode cX1_readNode 86 = .ok (.getfield 21, 3) := by decide +kernel
theorem dX1_readNode_89 : decode cX1_readNode 89 = .ok (.getfield 166, 3) := by decide +kernel
theorem dX1_readNode_92 : decode cX1_readNode 92 = .ok (.iload_n 1, 1) := by decide +kernel
theorem dX1_readNode_93 : decode cX1_readNode 93 = .ok (.aaload, 1) := by decide +kernel
theorem dX1_readNode_94 : decode cX1_readNode 94 = .ok (.iload_n 2, 1) := by decide +kernel
theorem dX1_readNode_95 : decode cX1_readNode 95 = .ok (.aload_n 0, 1) := by decide +kernel
theorem dX1_readNode_96 : decode cX1_readNode 96 = .ok (.getfield 29, 3) := by decide +kernel
theorem dX1_readNode_99 : decode cX1_readNode 99 = .ok (.iconst 0, 1) := by decide +kernel
theorem dX1_readNode_100 : decode cX1_readNode 100 = .ok (.iaload, 1) := by decide +kernel
theorem dX1_readNode_101 : decode cX1_readNode 101 = .ok (.iastore, 1) := by decide +kernel
theorem dX1_readNode_102 : decode cX1_readNode 102 = .ok (.aload_n 0, 1) := by decide +kernel
theorem dX1_readNode_103 : decode cX1_readNode 103 = .ok (.getfield 21, 3) := by decide +kernel
theorem dX1_readNode_106 : decode cX1_readNode 106 = .ok (.getfield 62, 3) := by decide +kernel
theorem dX1_readNode_109 : decode cX1_readNode 109 = .ok (.iload_n 1, 1) := by decide +kernel
theorem dX1_readNode_110 : decode cX1_readNode 110 = .ok (.aaload, 1) := by decide +kernel
theorem dX1_readNode_111 : decode cX1_readNode 111 = .ok (.bipush 6, 2) := by decide +kernel
theorem dX1_readNode_113 : decode cX1_readNode 113 = .ok (.dup2, 1) := by decide +kernel
theorem dX1_readNode_114 : decode cX1_readNode 114 = .ok (.iaload, 1) := by decide +kernel
theorem dX1_readNode_115 : decode cX1_readNode 115 = .ok (.iconst 1, 1) := by decide +kernel
theorem dX1_readNode_116 : decode cX1_readNode 116 = .ok (.iadd, 1) := by decide +kernel
theorem dX1_readNode_117 : decode cX1_readNode 117 = .ok (.iastore, 1) := by decide +kernel
theorem dX1_readNode_118 : decode cX1_readNode 118 = .ok (.iconst 1, 1) := by decide +kernel
theorem dX1_readNode_119 : decode cX1_readNode 119 = .ok (.ireturn, 1) := by decide +kernel
theorem dX1_readFlow_0 : decode cX1_readFlow 0 = .ok (.aload_n 0, 1) := by decide +kernel
theorem dX1_readFlow_1 : decode cX1_readFlow 1 = .ok (.ldc 169, 2) := by decide +kernel
theorem dX1_readFlow_3 : decode cX1_readFlow 3 = .ok (.invokevirtual 139, 3) := by decide +kernel
theorem dX1_readFlow_6 : decode cX1_readFlow 6 = .ok (.ifCond .ne 5, 3) := by decide +kernel
theorem dX1_readFlow_9 : decode cX1_readFlow 9 = .ok (.iconst 0, 1) := by decide +kernel
theorem dX1_readFlow_10 : decode cX1_readFlow 10 = .ok (.ireturn, 1) := by decide +kernel
theorem dX1_readFlow_11 : decode cX1_readFlow 11 = .ok (.iconst 0, 1) := by decide +kernel
theorem dX1_readFlow_12 : decode cX1_readFlow 12 = .ok (.istore_n 3, 1) := by decide +kernel
theorem dX1_readFlow_13 : decode cX1_readFlow 13 = .ok (.iload_n 3, 1) := by decide +kernel
theorem dX1_readFlow_14 : decode cX1_readFlow 14 = .ok (.ifCond .eq 21, 3) := by decide +kernel
theorem dX1_readFlow_17 : decode cX1_readFlow 17 = .ok (.iload_n 3, 1) := by decide +kernel
theorem dX1_readFlow_18 : decode cX1_readFlow 18 = .ok (.iload_n 2, 1) := by decide +kernel
theorem dX1_readFlow_19 : decode cX1_readFlow 19 = .ok (.iconst 1, 1) := by decide +kernel
theorem dX1_readFlow_20 : decode cX1_readFlow 20 = .ok (.iadd, 1) := by decide +kernel
theorem dX1_readFlow_21 : decode cX1_readFlow 21 = .ok (.if_icmp .ge 92, 3) := by decide +kernel
theorem dX1_readFlow_24 : decode cX1_readFlow 24 = .ok (.aload_n 0, 1) := by decide +kernel
theorem dX1_readFlow_25 : decode cX1_readFlow 25 = .ok (.getfield 12, 3) := by decide +kernel
theorem dX1_readFlow_28 : decode cX1_readFlow 28 = .ok (.getfield 42, 3) := by decide +kernel
theorem dX1_readFlow_31 : decode cX1_readFlow 31 = .ok (.iconst 1, 1) := by decide +kernel
theorem dX1_readFlow_32 : decode cX1_readFlow 32 = .ok (.if_icmp .ne 81, 3) := by decide +kernel
theorem dX1_readFlow_35 : decode cX1_readFlow 35 = .ok (.aload_n 0, 1) := by decide +kernel
theorem dX1_readFlow_36 : decode cX1_readFlow 36 = .ok (.getfield 12, 3) := by decide +kernel
theorem dX1_readFlow_39 : decode cX1_readFlow 39 = .ok (.getfield 42, 3) := by decide +kernel
theorem dX1_readFlow_42 : decode cX1_readFlow 42 = .ok (.iconst 1, 1) := by decide +kernel
theorem dX1_readFlow_43 : decode cX1_readFlow 43 = .ok (.if_icmp .ne 28, 3) := by decide +kernel
theorem dX1_readFlow_46 : decode cX1_readFlow 46 = .ok (.aload_n 0, 1) := by decide +kernel
theorem dX1_readFlow_47 : decode cX1_readFlow 47 = .ok (.getfield 21, 3) := by decide +kernel
theorem dX1_readFlow_50 : decode cX1_readFlow 50 = .ok (.iload_n 1, 1) := by decide +kernel
theorem dX1_readFlow_51 : decode cX1_readFlow 51 = .ok (.aload_n 0, 1) := by decide +kernel
theorem dX1_readFlow_52 : decode cX1_readFlow 52 = .ok (.getfield 12, 3) := by decide +kernel
theorem dX1_readFlow_55 : decode cX1_readFlow 55 = .ok (.getfield 171, 3) := by decide +kernel
theorem dX1_readFlow_58 : decode cX1_readFlow 58 = .ok (.iload_n 2, 1) := by decide +kernel
theorem dX1_readFlow_59 : decode cX1_readFlow 59 = .ok (.invokevirtual 174, 3) := by decide +kernel
theorem dX1_readFlow_62 : decode cX1_readFlow 62 = .ok (.ifCond .eq 9, 3) := by decide +kernel
theorem dX1_readFlow_65 : decode cX1_readFlow 65 = .ok (.aload_n 0, 1) := by decide +kernel
theorem dX1_readFlow_66 : decode cX1_readFlow 66 = .ok (.iconst 2, 1) := by decide +kernel
theorem dX1_readFlow_67 : decode cX1_readFlow 67 = .ok (.invokevirtual 71, 3) := by decide +kernel
theorem dX1_readFlow_70 : decode cX1_readFlow 70 = .ok (.ireturn, 1) := by decide +kernel
theorem dX1_readFlow_71 : decode cX1_readFlow 71 = .ok (.aload_n 0, 1) := by decide +kernel
theorem dX1_readFlow_72 : decode cX1_readFlow 72 = .ok (.iconst 0, 1) := by decide +kernel
theorem dX1_readFlow_73 : decode cX1_readFlow 73 = .ok (.iload_n 2, 1) := by decide +kernel
theorem dX1_readFlow_74 : decode cX1_readFlow 74 = .ok (.iconst 1, 1) := by decide +kernel
theorem dX1_readFlow_75 : decode cX1_readFlow 75 = .ok (.isub, 1) := by decide +kernel
theorem dX1_readFlow_76 : decode cX1_readFlow 76 = .ok (.iconst 1, 1) := by decide +kernel
theorem dX1_readFlow_77 : decode cX1_readFlow 77 = .ok (.invokevirtual 158, 3) := by decide +kernel
theorem dX1_readFlow_80 : decode cX1_readFlow 80 = .ok (.ifCond .ne 5, 3) := by decide +kernel
theorem dX1_readFlow_83 : decode cX1_readFlow 83 = .ok (.iconst 0, 1) := by decide +kernel
theorem dX1_readFlow_84 : decode cX1_readFlow 84 = .ok (.ireturn, 1) := by decide +kernel
theorem dX1_readFlow_85 : decode cX1_readFlow 85 = .ok (.aload_n 0, 1) := by decide +kernel
theorem dX1_readFlow_86 : decode cX1_readFlow 86 = .ok (.getfield 21, 3) := by decide +kernel
theorem dX1_readFlow_89 : decode cX1_readFlow 89 = .ok (.getfield 177, 3) := by decide +kernel
theorem dX1_readFlow_92 : decode cX1_readFlow 92 = .ok (.iload_n 1, 1) := by decide +kernel
theorem dX1_readFlow_93 : decode cX1_readFlow 93 = .ok (.aaload, 1) := by decide +kernel
theorem dX1_readFlow_94 : decode cX1_readFlow 94 = .ok (.aload_n 0, 1) := by decide +kernel
theorem dX1_readFlow_95 : decode cX1_readFlow 95 = .ok (.getfield 29, 3) := by decide +kernel
theorem dX1_readFlow_98 : decode cX1_readFlow 98 = .ok (.iconst 1, 1) := by decide +kernel
theorem dX1_readFlow_99 : decode cX1_readFlow 99 = .ok (.iaload, 1) := by decide +kernel
theorem dX1_readFlow_100 : decode cX1_readFlow 100 = .ok (.dup2, 1) := by decide +kernel
theorem dX1_readFlow_101 : decode cX1_readFlow 101 = .ok (.iaload, 1) := by decide +kernel
theorem dX1_readFlow_102 : decode cX1_readFlow 102 = .ok (.iconst 1, 1) := by decide +kernel
theorem dX1_readFlow_103 : decode cX1_readFlow 103 = .ok (.iload_n 2, 1) := by decide +kernel
theorem dX1_readFlow_104 : decode cX1_readFlow 104 = .ok (.ishl, 1) := by decide +kernel
theorem dX1_readFlow_105 : decode cX1_readFlow 105 = .ok (.ior, 1) := by decide +kernel
theorem dX1_readFlow_106 : decode cX1_readFlow 106 = .ok (.iastore, 1) := by decide +kernel
theorem dX1_readFlow_107 : decode cX1_readFlow 107 = .ok (.iinc 3 1, 3) := by decide +kernel
theorem dX1_readFlow_110 : decode cX1_readFlow 110 = .ok (.goto (-97), 3) := by decide +kernel
theorem dX1_readFlow_113 : decode cX1_readFlow 113 = .ok (.iconst 1, 1) := by decide +kernel
theorem dX1_readFlow_114 : decode cX1_readFlow 114 = .ok (.ireturn, 1) := by decide +kernel
theorem dX1_readInjection_0 : decode cX1_readInjection 0 = .ok (.iload_n 1, 1) := by decide +kernel
theorem dX1_readInjection_1 : decode cX1_readInjection 1 = .ok (.iconst (-1), 1) := by decide +kernel
theorem dX1_readInjection_2 : decode cX1_readInjection 2 = .ok (.if_icmp .ne 9, 3) := by decide +kernel
theorem dX1_readInjection_5 : decode cX1_readInjection 5 = .ok (.aload_n 0, 1) := by decide +kernel
theorem dX1_readInjection_6 : decode cX1_readInjection 6 = .ok (.iconst 1, 1) := by decide +kernel
theorem dX1_readInjection_7 : decode cX1_readInjection 7 = .ok (.invokevirtual 71, 3) := by decide +kernel
theorem dX1_readInjection_10 : decode cX1_readInjection 10 = .ok (.ireturn, 1) := by decide +kernel
theorem dX1_readInjection_11 : decode cX1_readInjection 11 = .ok (.aload_n 0, 1) := by decide +kernel
theorem dX1_readInjection_12 : decode cX1_readInjection 12 = .ok (.getfield 21, 3) := by decide +kernel
theorem dX1_readInjection_15 : decode cX1_readInjection 15 = .ok (.getfield 180, 3) := by decide +kernel
theorem dX1_readInjection_18 : decode cX1_readInjection 18 = .ok (.bipush 8, 2) := by decide +kernel
theorem dX1_readInjection_20 : decode cX1_readInjection 20 = .ok (.if_icmp .lt 9, 3) := by decide +kernel
theorem dX1_readInjection_23 : decode cX1_readInjection 23 = .ok (.aload_n 0, 1) := by decide +kernel
theorem dX1_readInjection_24 : decode cX1_readInjection 24 = .ok (.iconst 3, 1) := by decide +kernel
theorem dX1_readInjection_25 : decode cX1_readInjection 25 = .ok (.invokevirtual 71, 3) := by decide +kernel
theorem dX1_readInjection_28 : decode cX1_readInjection 28 = .ok (.ireturn, 1) := by decide +kernel
theorem dX1_readInjection_29 : decode cX1_readInjection 29 = .ok (.aload_n 0, 1) := by decide +kernel
theorem dX1_readInjection_30 : decode cX1_readInjection 30 = .ok (.getfield 12, 3) := by decide +kernel
theorem dX1_readInjection_33 : decode cX1_readInjection 33 = .ok (.invokevirtual 112, 3) := by decide +kernel
theorem dX1_readInjection_36 : decode cX1_readInjection 36 = .ok (.iload_n 1, 1) := by decide +kernel
theorem dX1_readInjection_37 : decode cX1_readInjection 37 = .ok (.iconst 5, 1) := by decide +kernel
theorem dX1_readInjection_38 : decode cX1_readInjection 38 = .ok (.if_icmp .ne 37, 3) := by decide +kernel
theorem dX1_readInjection_41 : decode cX1_readInjection 41 = .ok (.aload_n 0, 1) := by decide +kernel
theorem dX1_readInjection_42 : decode cX1_readInjection 42 = .ok (.iconst 0, 1) := by decide +kernel
theorem dX1_readInjection_43 : decode cX1_readInjection 43 = .ok (.aload_n 0, 1) := by decide +kernel
theorem dX1_readInjection_44 : decode cX1_readInjection 44 = .ok (.getfield 21, 3) := by decide +kernel
theorem dX1_readInjection_47 : decode cX1_readInjection 47 = .ok (.getfield 134, 3) := by decide +kernel
theorem dX1_readInjection_50 : decode cX1_readInjection 50 = .ok (.iconst 1, 1) := by decide +kernel
theorem dX1_readInjection_51 : decode cX1_readInjection 51 = .ok (.isub, 1) := by decide +kernel
theorem dX1_readInjection_52 : decode cX1_readInjection 52 = .ok (.iconst 0, 1) := by decide +kernel
theorem dX1_readInjection_53 : decode cX1_readInjection 53 = .ok (.invokevirtual 158, 3) := by decide +kernel
theorem dX1_readInjection_56 : decode cX1_readInjection 56 = .ok (.ifCond .eq 17, 3) := by decide +kernel
theorem dX1_readInjection_59 : decode cX1_readInjection 59 = .ok (.aload_n 0, 1) := by decide +kernel
theorem dX1_readInjection_60 : decode cX1_readInjection 60 = .ok (.ldc 183, 2) := by decide +kernel
theorem dX1_readInjection_62 : decode cX1_readInjection 62 = .ok (.iconst 0, 1) := by decide +kernel
theorem dX1_readInjection_63 : decode cX1_readInjection 63 = .ok (.sipush 199, 3) := by decide +kernel
theorem dX1_readInjection_66 : decode cX1_readInjection 66 = .ok (.iconst 1, 1) := by decide +kernel
theorem dX1_readInjection_67 : decode cX1_readInjection 67 = .ok (.invokevirtual 117, 3) := by decide +kernel
theorem dX1_readInjection_70 : decode cX1_readInjection 70 = .ok (.ifCond .ne 75, 3) := by decide +kernel
theorem dX1_readInjection_73 : decode cX1_readInjection 73 = .ok (.iconst 0, 1) := by decide +kernel
theorem dX1_readInjection_74 : decode cX1_readInjection 74 = .ok (.ireturn, 1) := by decide +kernel
theorem dX1_readInjection_75 : decode cX1_readInjection 75 = .ok (.aload_n 0, 1) := by decide +kernel
theorem dX1_readInjection_76 : decode cX1_readInjection 76 = .ok (.invokevirtual 185, 3) := by decide +kernel
theorem dX1_readInjection_79 : decode cX1_readInjection 79 = .ok (.ifCond .eq 64, 3) := by decide +kernel
theorem dX1_readInjection_82 : decode cX1_readInjection 82 = .ok (.aload_n 0, 1) := by decide +kernel
theorem dX1_readInjection_83 : decode cX1_readInjection 83 = .ok (.ldc 188, 2) := by decide +kernel
theorem dX1_readInjection_85 : decode cX1_readInjection 85 = .ok (.iconst 0, 1) := by decide +kernel
theorem dX1_readInjection_86 : decode cX1_readInjection 86 = .ok (.bipush 50, 2) := by decide +kernel
theorem dX1_readInjection_88 : decode cX1_readInjection 88 = .ok (.iconst 1, 1) := by decide +kernel
theorem dX1_readInjection_89 : decode cX1_readInjection 89 = .ok (.invokevirtual 117, 3) := by decide +kernel
theorem dX1_readInjection_92 : decode cX1_readInjection 92 = .ok (.ifCond .eq 51, 3) := by decide +kernel
theorem dX1_readInjection_95 : decode cX1_readInjection 95 = .ok (.iload_n 1, 1) := by decide +kernel
theorem dX1_readInjection_96 : decode cX1_readInjection 96 = .ok (.iconst 4, 1) := by decide +kernel
theorem dX1_readInjection_97 : decode cX1_readInjection 97 = .ok (.if_icmp .eq 33, 3) := by decide +kernel
theorem dX1_readInjection_100 : decode cX1_readInjection 100 = .ok (.aload_n 0, 1) := by decide +kernel
theorem dX1_readInjection_101 : decode cX1_readInjection 101 = .ok (.ldc 88, 2) := by decide +kernel
theorem dX1_readInjection_103 : decode cX1_readInjection 103 = .ok (.iconst 0, 1) := by decide +kernel
theorem dX1_readInjection_104 : decode cX1_readInjection 104 = .ok (.aload_n 0, 1) := by decide +kernel
theorem dX1_readInjection_105 : decode cX1_readInjection 105 = .ok (.getfield 21, 3) := by decide +kernel
theorem dX1_readInjection_108 : decode cX1_readInjection 108 = .ok (.getfield 62, 3) := by decide +kernel
theorem dX1_readInjection_111 : decode cX1_readInjection 111 = .ok (.aload_n 0, 1) := by decide +kernel
theorem dX1_readInjection_112 : decode cX1_readInjection 112 = .ok (.getfield 29, 3) := by decide +kernel
theorem dX1_readInjection_115 : decode cX1_readInjection 115 = .ok (.iconst 0, 1) := by decide +kernel
theorem dX1_readInjection_116 : decode cX1_readInjection 116 = .ok (.iaload, 1) := by decide +kernel
theorem dX1_readInjection_117 : decode cX1_readInjection 117 = .ok (.aaload, 1) := by decide +kernel
theorem dX1_readInjection_118 : decode cX1_readInjection 118 = .ok (.bipush 6, 2) := by decide +kernel
theorem dX1_readInjection_120 : decode cX1_readInjection 120 = .ok (.iaload, 1) := by decide +kernel
theorem dX1_readInjection_121 : decode cX1_readInjection 121 = .ok (.iconst 1, 1) := by decide +kernel
theorem dX1_readInjection_122 : decode cX1_readInjection 122 = .ok (.isub, 1) := by decide +kernel
theorem dX1_readInjection_123 : decode cX1_readInjection 123 = .ok (.iconst 2, 1) := by decide +kernel
theorem dX1_readInjection_124 : decode cX1_readInjection 124 = .ok (.invokevirtual 117, 3) := by decide +kernel
theorem dX1_readInjection_127 : decode cX1_readInjection 127 = .ok (.ifCond .eq 16, 3) := by decide +kernel
theorem dX1_readInjection_130 : decode cX1_readInjection 130 = .ok (.aload_n 0, 1) := by decide +kernel
theorem dX1_readInjection_131 : decode cX1_readInjection 131 = .ok (.ldc 190, 2) := by decide +kernel
theorem dX1_readInjection_133 : decode cX1_readInjection 133 = .ok (.iconst 1, 1) := by decide +kernel
theorem dX1_readInjection_134 : decode cX1_readInjection 134 = .ok (.bipush 9, 2) := by decide +kernel
theorem dX1_readInjection_136 : decode cX1_readInjection 136 = .ok (.iconst 3, 1) := by decide +kernel
theorem dX1_readInjection_137 : decode cX1_readInjection 137 = .ok (.invokevirtual 117, 3) := by decide +kernel
theorem dX1_readInjection_140 : decode cX1_readInjection 140 = .ok (.ifCond .ne 5, 3) := by decide +kernel
theorem dX1_readInjection_143 : decode cX1_readInjection 143 = .ok (.iconst 0, 1) := by decide +kernel
theorem dX1_readInjection_144 : decode cX1_readInjection 144 = .ok (.ireturn, 1) := by decide +kernel
theorem dX1_readInjection_145 : decode cX1_readInjection 145 = .ok (.aload_n 0, 1) := by decide +kernel
theorem dX1_readInjection_146 : decode cX1_readInjection 146 = .ok (.invokevirtual 125, 3) := by decide +kernel
theorem dX1_readInjection_149 : decode cX1_readInjection 149 = .ok (.ifCond .ne 5, 3) := by decide +kernel
theorem dX1_readInjection_152 : decode cX1_readInjection 152 = .ok (.iconst 0, 1) := by decide +kernel
theorem dX1_readInjection_153 : decode cX1_readInjection 153 = .ok (.ireturn, 1) := by decide +kernel
theorem dX1_readInjection_154 : decode cX1_readInjection 154 = .ok (.aload_n 0, 1) := by decide +kernel
theorem dX1_readInjection_155 : decode cX1_readInjection 155 = .ok (.getfield 21, 3) := by decide +kernel
theorem dX1_readInjection_158 : decode cX1_readInjection 158 = .ok (.aload_n 0, 1) := by decide +kernel
theorem dX1_readInjection_159 : decode cX1_readInjection 159 = .ok (.getfield 21, 3) := by decide +kernel
theorem dX1_readInjection_162 : decode cX1_readInjection 162 = .ok (.getfield 180, 3) := by decide +kernel
theorem dX1_readInjection_165 : decode cX1_readInjection 165 = .ok (.iload_n 1, 1) := by decide +kernel
theorem dX1_readInjection_166 : decode cX1_readInjection 166 = .ok (.aload_n 0, 1) := by decide +kernel
theorem dX1_readInjection_167 : decode cX1_readInjection 167 = .ok (.getfield 29, 3) := by decide +kernel
theorem dX1_readInjection_170 : decode cX1_readInjection 170 = .ok (.iconst 0, 1) := by decide +kernel
theorem dX1_readInjection_171 : decode cX1_readInjection 171 = .ok (.iaload, 1) := by decide +kernel
theorem dX1_readInjection_172 : decode cX1_readInjection 172 = .ok (.aload_n 0, 1) := by decide +kernel
theorem dX1_readInjection_173 : decode cX1_readInjection 173 = .ok (.getfield 29, 3) := by decide +kernel
theorem dX1_readInjection_176 : decode cX1_readInjection 176 = .ok (.iconst 1, 1) := by decide +kernel
theorem dX1_readInjection_177 : decode cX1_readInjection 177 = .ok (.iaload, 1) := by decide +kernel
theorem dX1_readInjection_178 : decode cX1_readInjection 178 = .ok (.aload_n 0, 1) := by decide +kernel
theorem dX1_readInjection_179 : decode cX1_readInjection 179 = .ok (.getfield 29, 3) := by decide +kernel
theorem dX1_readInjection_182 : decode cX1_readInjection 182 = .ok (.iconst 2, 1) := by decide +kernel
theorem dX1_readInjection_183 : decode cX1_readInjection 183 = .ok (.iaload, 1) := by decide +kernel
theorem dX1_readInjection_184 : decode cX1_readInjection 184 = .ok (.aload_n 0, 1) := by decide +kernel
theorem dX1_readInjection_185 : decode cX1_readInjection 185 = .ok (.getfield 29, 3) := by decide +kernel
theorem dX1_readInjection_188 : decode cX1_readInjection 188 = .ok (.iconst 3, 1) := by decide +kernel
theorem dX1_readInjection_189 : decode cX1_readInjection 189 = .ok (.iaload, 1) := by decide +kernel
theorem dX1_readInjection_190 : decode cX1_readInjection 190 = .ok (.invokevirtual 192, 3) := by decide +kernel
theorem dX1_readInjection_193 : decode cX1_readInjection 193 = .ok (.aload_n 0, 1) := by decide +kernel
theorem dX1_readInjection_194 : decode cX1_readInjection 194 = .ok (.getfield 21, 3) := by decide +kernel
theorem dX1_readInjection_197 : decode cX1_readInjection 197 = .ok (.dup, 1) := by decide +kernel
theorem dX1_readInjection_198 : decode cX1_readInjection 198 = .ok (.getfield 180, 3) := by decide +kernel
theorem dX1_readInjection_201 : decode cX1_readInjection 201 = .ok (.iconst 1, 1) := by decide +kernel
theorem dX1_readInjection_202 : decode cX1_readInjection 202 = .ok (.iadd, 1) := by decide +kernel
theorem dX1_readInjection_203 : decode cX1_readInjection 203 = .ok (.putfield 180, 3) := by decide +kernel
theorem dX1_readInjection_206 : decode cX1_readInjection 206 = .ok (.iconst 1, 1) := by decide +kernel
theorem dX1_readInjection_207 : decode cX1_readInjection 207 = .ok (.ireturn, 1) := by decide +kernel
theorem dX1_readChangedTask_0 : decode cX1_readChangedTask 0 = .ok (.aload_n 0, 1) := by decide +kernel
theorem dX1_readChangedTask_1 : decode cX1_readChangedTask 1 = .ok (.getfield 12, 3) := by decide +kernel
theorem dX1_readChangedTask_4 : decode cX1_readChangedTask 4 = .ok (.getfield 42, 3) := by decide +kernel
theorem dX1_readChangedTask_7 : decode cX1_readChangedTask 7 = .ok (.iconst 1, 1) := by decide +kernel
theorem dX1_readChangedTask_8 : decode cX1_readChangedTask 8 = .ok (.if_icmp .ne 27, 3) := by decide +kernel
theorem dX1_readChangedTask_11 : decode cX1_readChangedTask 11 = .ok (.aload_n 0, 1) := by decide +kernel
theorem dX1_readChangedTask_12 : decode cX1_readChangedTask 12 = .ok (.getfield 21, 3) := by decide +kernel
theorem dX1_readChangedTask_15 : decode cX1_readChangedTask 15 = .ok (.aload_n 0, 1) := by decide +kernel
theorem dX1_readChangedTask_16 : decode cX1_readChangedTask 16 = .ok (.getfield 12, 3) := by decide +kernel
theorem dX1_readChangedTask_19 : decode cX1_readChangedTask 19 = .ok (.getfield 171, 3) := by decide +kernel
theorem dX1_readChangedTask_22 : decode cX1_readChangedTask 22 = .ok (.iconst 0, 1) := by decide +kernel
theorem dX1_readChangedTask_23 : decode cX1_readChangedTask 23 = .ok (.invokevirtual 196, 3) := by decide +kernel
theorem dX1_readChangedTask_26 : decode cX1_readChangedTask 26 = .ok (.ifCond .ne 9, 3) := by decide +kernel
theorem dX1_readChangedTask_29 : decode cX1_readChangedTask 29 = .ok (.aload_n 0, 1) := by decide +kernel
theorem dX1_readChangedTask_30 : decode cX1_readChangedTask 30 = .ok (.iconst 2, 1) := by decide +kernel
theorem dX1_readChangedTask_31 : decode cX1_readChangedTask 31 = .ok (.invokevirtual 71, 3) := by decide +kernel
theorem dX1_readChangedTask_34 : decode cX1_readChangedTask 34 = .ok (.ireturn, 1) := by decide +kernel
theorem dX1_readChangedTask_35 : decode cX1_readChangedTask 35 = .ok (.aload_n 0, 1) := by decide +kernel
theorem dX1_readChangedTask_36 : decode cX1_readChangedTask 36 = .ok (.iconst 0, 1) := by decide +kernel
theorem dX1_readChangedTask_37 : decode cX1_readChangedTask 37 = .ok (.aload_n 0, 1) := by decide +kernel
theorem dX1_readChangedTask_38 : decode cX1_readChangedTask 38 = .ok (.getfield 21, 3) := by decide +kernel
theorem dX1_readChangedTask_41 : decode cX1_readChangedTask 41 = .ok (.getfield 59, 3) := by decide +kernel
theorem dX1_readChangedTask_44 : decode cX1_readChangedTask 44 = .ok (.iconst 1, 1) := by decide +kernel
theorem dX1_readChangedTask_45 : decode cX1_readChangedTask 45 = .ok (.isub, 1) := by decide +kernel
theorem dX1_readChangedTask_46 : decode cX1_readChangedTask 46 = .ok (.iconst 0, 1) := by decide +kernel
theorem dX1_readChangedTask_47 : decode cX1_readChangedTask 47 = .ok (.invokevirtual 158, 3) := by decide +kernel
theorem dX1_readChangedTask_50 : decode cX1_readChangedTask 50 = .ok (.ireturn, 1) := by decide +kernel
theorem dX1_readPair_0 : decode cX1_readPair 0 = .ok (.aload_n 0, 1) := by decide +kernel
theorem dX1_readPair_1 : decode cX1_readPair 1 = .ok (.aload_n 1, 1) := by decide +kernel
theorem dX1_readPair_2 : decode cX1_readPair 2 = .ok (.invokevirtual 139, 3) := by decide +kernel
theorem dX1_readPair_5 : decode cX1_readPair 5 = .ok (.ifCond .eq 18, 3) := by decide +kernel
theorem dX1_readPair_8 : decode cX1_readPair 8 = .ok (.aload_n 0, 1) := by decide +kernel
theorem dX1_readPair_9 : decode cX1_readPair 9 = .ok (.iload_n 2, 1) := by decide +kernel
theorem dX1_readPair_10 : decode cX1_readPair 10 = .ok (.iload_n 3, 1) := by decide +kernel
theorem dX1_readPair_11 : decode cX1_readPair 11 = .ok (.iload 4, 2) := by decide +kernel
theorem dX1_readPair_13 : decode cX1_readPair 13 = .ok (.invokevirtual 158, 3) := by decide +kernel
theorem dX1_readPair_16 : decode cX1_readPair 16 = .ok (.ifCond .eq 7, 3) := by decide +kernel
theorem dX1_readPair_19 : decode cX1_readPair 19 = .ok (.iconst 1, 1) := by decide +kernel
theorem dX1_readPair_20 : decode cX1_readPair 20 = .ok (.goto 4, 3) := by decide +kernel
theorem dX1_readPair_23 : decode cX1_readPair 23 = .ok (.iconst 0, 1) := by decide +kernel
theorem dX1_readPair_24 : decode cX1_readPair 24 = .ok (.ireturn, 1) := by decide +kernel
theorem dX1_readWord_0 : decode cX1_readWord 0 = .ok (.aload_n 0, 1) := by decide +kernel
theorem dX1_readWord_1 : decode cX1_readWord 1 = .ok (.getfield 12, 3) := by decide +kernel
theorem dX1_readWord_4 : decode cX1_readWord 4 = .ok (.aload_n 1, 1) := by decide +kernel
theorem dX1_readWord_5 : decode cX1_readWord 5 = .ok (.invokevirtual 67, 3) := by decide +kernel
theorem dX1_readWord_8 : decode cX1_readWord 8 = .ok (.ifCond .ne 9, 3) := by decide +kernel
theorem dX1_readWord_11 : decode cX1_readWord 11 = .ok (.aload_n 0, 1) := by decide +kernel
theorem dX1_readWord_12 : decode cX1_readWord 12 = .ok (.iconst 1, 1) := by decide +kernel
theorem dX1_readWord_13 : decode cX1_readWord 13 = .ok (.invokevirtual 71, 3) := by decide +kernel
theorem dX1_readWord_16 : decode cX1_readWord 16 = .ok (.ireturn, 1) := by decide +kernel
theorem dX1_readWord_17 : decode cX1_readWord 17 = .ok (.aload_n 0, 1) := by decide +kernel
theorem dX1_readWord_18 : decode cX1_readWord 18 = .ok (.getfield 12, 3) := by decide +kernel
theorem dX1_readWord_21 : decode cX1_readWord 21 = .ok (.invokevirtual 112, 3) := by decide +kernel
theorem dX1_readWord_24 : decode cX1_readWord 24 = .ok (.iconst 1, 1) := by decide +kernel
theorem dX1_readWord_25 : decode cX1_readWord 25 = .ok (.ireturn, 1) := by decide +kernel
theorem dX1_readNumber_0 : decode cX1_readNumber 0 = .ok (.aload_n 0, 1) := by decide +kernel
theorem dX1_readNumber_1 : decode cX1_readNumber 1 = .ok (.getfield 12, 3) := by decide +kernel
theorem dX1_readNumber_4 : decode cX1_readNumber 4 = .ok (.getfield 42, 3) := by decide +kernel
theorem dX1_readNumber_7 : decode cX1_readNumber 7 = .ok (.iconst 1, 1) := by decide +kernel
theorem dX1_readNumber_8 : decode cX1_readNumber 8 = .ok (.if_icmp .eq 9, 3) := by decide +kernel
theorem dX1_readNumber_11 : decode cX1_readNumber 11 = .ok (.aload_n 0, 1) := by decide +kernel
theorem dX1_readNumber_12 : decode cX1_readNumber 12 = .ok (.iconst 1, 1) := by decide +kernel
theorem dX1_readNumber_13 : decode cX1_readNumber 13 = .ok (.invokevirtual 71, 3) := by decide +kernel
theorem dX1_readNumber_16 : decode cX1_readNumber 16 = .ok (.ireturn, 1) := by decide +kernel
theorem dX1_readNumber_17 : decode cX1_readNumber 17 = .ok (.aload_n 0, 1) := by decide +kernel
theorem dX1_readNumber_18 : decode cX1_readNumber 18 = .ok (.getfield 12, 3) := by decide +kernel
theorem dX1_readNumber_21 : decode cX1_readNumber 21 = .ok (.getfield 171, 3) := by decide +kernel
theorem dX1_readNumber_24 : decode cX1_readNumber 24 = .ok (.iload_n 1, 1) := by decide +kernel
theorem dX1_readNumber_25 : decode cX1_readNumber 25 = .ok (.if_icmp .lt 14, 3) := by decide +kernel
theorem dX1_readNumber_28 : decode cX1_readNumber 28 = .ok (.aload_n 0, 1) := by decide +kernel
theorem dX1_readNumber_29 : decode cX1_readNumber 29 = .ok (.getfield 12, 3) := by decide +kernel
theorem dX1_readNumber_32 : decode cX1_readNumber 32 = .ok (.getfield 171, 3) := by decide +kernel
theorem dX1_readNumber_35 : decode cX1_readNumber 35 = .ok (.iload_n 2, 1) := by decide +kernel
theorem dX1_readNumber_36 : decode cX1_readNumber 36 = .ok (.if_icmp .le 9, 3) := by decide +kernel
theorem dX1_readNumber_39 : decode cX1_readNumber 39 = .ok (.aload_n 0, 1) := by decide +kernel
theorem dX1_readNumber_40 : decode cX1_readNumber 40 = .ok (.iconst 2, 1) := by decide +kernel
theorem dX1_readNumber_41 : decode cX1_readNumber 41 = .ok (.invokevirtual 71, 3) := by decide +kernel
theorem dX1_readNumber_44 : decode cX1_readNumber 44 = .ok (.ireturn, 1) := by decide +kernel
theorem dX1_readNumber_45 : decode cX1_readNumber 45 = .ok (.aload_n 0, 1) := by decide +kernel
theorem dX1_readNumber_46 : decode cX1_readNumber 46 = .ok (.getfield 29, 3) := by decide +kernel
theorem dX1_readNumber_49 : decode cX1_readNumber 49 = .ok (.iload_n 3, 1) := by decide +kernel
theorem dX1_readNumber_50 : decode cX1_readNumber 50 = .ok (.aload_n 0, 1) := by decide +kernel
theorem dX1_readNumber_51 : decode cX1_readNumber 51 = .ok (.getfield 12, 3) := by decide +kernel
theorem dX1_readNumber_54 : decode cX1_readNumber 54 = .ok (.getfield 171, 3) := by decide +kernel
theorem dX1_readNumber_57 : decode cX1_readNumber 57 = .ok (.iastore, 1) := by decide +kernel
theorem dX1_readNumber_58 : decode cX1_readNumber 58 = .ok (.aload_n 0, 1) := by decide +kernel
theorem dX1_readNumber_59 : decode cX1_readNumber 59 = .ok (.getfield 12, 3) := by decide +kernel
theorem dX1_readNumber_62 : decode cX1_readNumber 62 = .ok (.invokevirtual 112, 3) := by decide +kernel
theorem dX1_readNumber_65 : decode cX1_readNumber 65 = .ok (.iconst 1, 1) := by decide +kernel
theorem dX1_readNumber_66 : decode cX1_readNumber 66 = .ok (.ireturn, 1) := by decide +kernel
theorem dX1_readEnd_0 : decode cX1_readEnd 0 = .ok (.aload_n 0, 1) := by decide +kernel
theorem dX1_readEnd_1 : decode cX1_readEnd 1 = .ok (.getfield 12, 3) := by decide +kernel
theorem dX1_readEnd_4 : decode cX1_readEnd 4 = .ok (.getfield 42, 3) := by decide +kernel
theorem dX1_readEnd_7 : decode cX1_readEnd 7 = .ok (.iconst 2, 1) := by decide +kernel
theorem dX1_readEnd_8 : decode cX1_readEnd 8 = .ok (.if_icmp .eq 9, 3) := by decide +kernel
theorem dX1_readEnd_11 : decode cX1_readEnd 11 = .ok (.aload_n 0, 1) := by decide +kernel
theorem dX1_readEnd_12 : decode cX1_readEnd 12 = .ok (.iconst 1, 1) := by decide +kernel
theorem dX1_readEnd_13 : decode cX1_readEnd 13 = .ok (.invokevirtual 71, 3) := by decide +kernel
theorem dX1_readEnd_16 : decode cX1_readEnd 16 = .ok (.ireturn, 1) := by decide +kernel
theorem dX1_readEnd_17 : decode cX1_readEnd 17 = .ok (.aload_n 0, 1) := by decide +kernel
theorem dX1_readEnd_18 : decode cX1_readEnd 18 = .ok (.getfield 12, 3) := by decide +kernel
theorem dX1_readEnd_21 : decode cX1_readEnd 21 = .ok (.invokevirtual 112, 3) := by decide +kernel
theorem dX1_readEnd_24 : decode cX1_readEnd 24 = .ok (.iconst 1, 1) := by decide +kernel
theorem dX1_readEnd_25 : decode cX1_readEnd 25 = .ok (.ireturn, 1) := by decide +kernel
theorem dX2_init_0 : decode cX2_init 0 = .ok (.aload_n 0, 1) := by decide +kernel
theorem dX2_init_1 : decode cX2_init 1 = .ok (.invokespecial 3, 3) := by decide +kernel
theorem dX2_init_4 : decode cX2_init 4 = .ok (.aload_n 0, 1) := by decide +kernel
theorem dX2_init_5 : decode cX2_init 5 = .ok (.bipush 6, 2) := by decide +kernel
theorem dX2_init_7 : decode cX2_init 7 = .ok (.bipush 64, 2) := by decide +kernel
theorem dX2_init_9 : decode cX2_init 9 = .ok (.multianewarray 9 2, 4) := by decide +kernel
theorem dX2_init_13 : decode cX2_init 13 = .ok (.putfield 11, 3) := by decide +kernel
theorem dX2_init_16 : decode cX2_init 16 = .ok (.aload_n 0, 1) := by decide +kernel
theorem dX2_init_17 : decode cX2_init 17 = .ok (.bipush 64, 2) := by decide +kernel
theorem dX2_init_19 : decode cX2_init 19 = .ok (.newarray .int, 2) := by decide +kernel
theorem dX2_init_21 : decode cX2_init 21 = .ok (.putfield 16, 3) := by decide +kernel
theorem dX2_init_24 : decode cX2_init 24 = .ok (.return_, 1) := by decide +kernel
theorem dX2_follower_0 : decode cX2_follower 0 = .ok (.aload_n 0, 1) := by decide +kernel
theorem dX2_follower_1 : decode cX2_follower 1 = .ok (.iload_n 1, 1) := by decide +kernel
theorem dX2_follower_2 : decode cX2_follower 2 = .ok (.iload_n 2, 1) := by decide +kernel
theorem dX2_follower_3 : decode cX2_follower 3 = .ok (.invokevirtual 20, 3) := by decide +kernel
theorem dX2_follower_6 : decode cX2_follower 6 = .ok (.ifCond .ne 5, 3) := by decide +kernel
theorem dX2_follower_9 : decode cX2_follower 9 = .ok (.iconst (-1), 1) := by decide +kernel
theorem dX2_follower_10 : decode cX2_follower 10 = .ok (.ireturn, 1) := by decide +kernel
theorem dX2_follower_11 : decode cX2_follower 11 = .ok (.aload_n 0, 1) := by decide +kernel
theorem dX2_follower_12 : decode cX2_follower 12 = .ok (.getfield 26, 3) := by decide +kernel
theorem dX2_follower_15 : decode cX2_follower 15 = .ok (.iload_n 1, 1) := by decide +kernel
theorem dX2_follower_16 : decode cX2_follower 16 = .ok (.aaload, 1) := by decide +kernel
theorem dX2_follower_17 : decode cX2_follower 17 = .ok (.iload_n 2, 1) := by decide +kernel
theorem dX2_follower_18 : decode cX2_follower 18 = .ok (.iaload, 1) := by decide +kernel
theorem dX2_follower_19 : decode cX2_follower 19 = .ok (.istore 4, 2) := by decide +kernel
theorem dX2_follower_21 : decode cX2_follower 21 = .ok (.iload 4, 2) := by decide +kernel
theorem dX2_follower_23 : decode cX2_follower 23 = .ok (.invokestatic 29, 3) := by decide +kernel
theorem dX2_follower_26 : decode cX2_follower 26 = .ok (.istore 5, 2) := by decide +kernel
theorem dX2_follower_28 : decode cX2_follower 28 = .ok (.iload 5, 2) := by decide +kernel
theorem dX2_follower_30 : decode cX2_follower 30 = .ok (.ifCond .ne 5, 3) := by decide +kernel
theorem dX2_follower_33 : decode cX2_follower 33 = .ok (.iconst (-1), 1) := by decide +kernel
theorem dX2_follower_34 : decode cX2_follower 34 = .ok (.ireturn, 1) := by decide +kernel
theorem dX2_follower_35 : decode cX2_follower 35 = .ok (.iload_n 3, 1) := by decide +kernel
theorem dX2_follower_36 : decode cX2_follower 36 = .ok (.iload 5, 2) := by decide +kernel
theorem dX2_follower_38 : decode cX2_follower 38 = .ok (.irem, 1) := by decide +kernel
theorem dX2_follower_39 : decode cX2_follower 39 = .ok (.istore 6, 2) := by decide +kernel
theorem dX2_follower_41 : decode cX2_follower 41 = .ok (.iconst 0, 1) := by decide +kernel
theorem dX2_follower_42 : decode cX2_follower 42 = .ok (.istore 7, 2) := by decide +kernel
theorem dX2_follower_44 : decode cX2_follower 44 = .ok (.iload 7, 2) := by decide +kernel
theorem dX2_follower_46 : decode cX2_follower 46 = .ok (.bipush 6, 2) := by decide +kernel
theorem dX2_follower_48 : decode cX2_follower 48 = .ok (.if_icmp .ge 30, 3) := by decide +kernel
theorem dX2_follower_51 : decode cX2_follower 51 = .ok (.iload 4, 2) := by decide +kernel
theorem dX2_follower_53 : decode cX2_follower 53 = .ok (.iconst 1, 1) := by decide +kernel
theorem dX2_follower_54 : decode cX2_follower 54 = .ok (.iload 7, 2) := by decide +kernel
theorem dX2_follower_56 : decode cX2_follower 56 = .ok (.ishl, 1) := by decide +kernel
theorem dX2_follower_57 : decode cX2_follower 57 = .ok (.iand, 1) := by decide +kernel
theorem dX2_follower_58 : decode cX2_follower 58 = .ok (.ifCond .eq 14, 3) := by decide +kernel
theorem dX2_follower_61 : decode cX2_follower 61 = .ok (.iload 6, 2) := by decide +kernel
theorem dX2_follower_63 : decode cX2_follower 63 = .ok (.ifCond .ne 6, 3) := by decide +kernel
theorem dX2_follower_66 : decode cX2_follower 66 = .ok (.iload 7, 2) := by decide +kernel
theorem dX2_follower_68 : decode cX2_follower 68 = .ok (.ireturn, 1) := by decide +kernel
theorem dX2_follower_69 : decode cX2_follower 69 = .ok (.iinc 6 (-1), 3) := by decide +kernel
theorem dX2_follower_72 : decode cX2_follower 72 = .ok (.iinc 7 1, 3) := by decide +kernel
theorem dX2_follower_75 : decode cX2_follower 75 = .ok (.goto (-31), 3) := by decide +kernel
theorem dX2_follower_78 : decode cX2_follower 78 = .ok (.iconst (-1), 1) := by decide +kernel
theorem dX2_follower_79 : decode cX2_follower 79 = .ok (.ireturn, 1) := by decide +kernel
theorem dX2_nodeOnWay_0 : decode cX2_nodeOnWay 0 = .ok (.iconst 0, 1) := by decide +kernel
theorem dX2_nodeOnWay_1 : decode cX2_nodeOnWay 1 = .ok (.istore 4, 2) := by decide +kernel
theorem dX2_nodeOnWay_3 : decode cX2_nodeOnWay 3 = .ok (.iconst 0, 1) := by decide +kernel
theorem dX2_nodeOnWay_4 : decode cX2_nodeOnWay 4 = .ok (.istore 5, 2) := by decide +kernel
theorem dX2_nodeOnWay_6 : decode cX2_nodeOnWay 6 = .ok (.iload 5, 2) := by decide +kernel
theorem dX2_nodeOnWay_8 : decode cX2_nodeOnWay 8 = .ok (.iload_n 3, 1) := by decide +kernel
theorem dX2_nodeOnWay_9 : decode cX2_nodeOnWay 9 = .ok (.if_icmp .ge 25, 3) := by decide +kernel
theorem dX2_nodeOnWay_12 : decode cX2_nodeOnWay 12 = .ok (.iload 4, 2) := by decide +kernel
theorem dX2_nodeOnWay_14 : decode cX2_nodeOnWay 14 = .ok (.iconst (-1), 1) := by decide +kernel
theorem dX2_nodeOnWay_15 : decode cX2_nodeOnWay 15 = .ok (.if_icmp .eq 19, 3) := by decide +kernel
theorem dX2_nodeOnWay_18 : decode cX2_nodeOnWay 18 = .ok (.aload_n 0, 1) := by decide +kernel
theorem dX2_nodeOnWay_19 : decode cX2_nodeOnWay 19 = .ok (.iload_n 1, 1) := by decide +kernel
theorem dX2_nodeOnWay_20 : decode cX2_nodeOnWay 20 = .ok (.iload 4, 2) := by decide +kernel
theorem dX2_nodeOnWay_22 : decode cX2_nodeOnWay 22 = .ok (.iload_n 2, 1) := by decide +kernel
theorem dX2_nodeOnWay_23 : decode cX2_nodeOnWay 23 = .ok (.invokestatic 35, 3) := by decide +kernel
theorem dX2_nodeOnWay_26 : decode cX2_nodeOnWay 26 = .ok (.istore 4, 2) := by decide +kernel
theorem dX2_nodeOnWay_28 : decode cX2_nodeOnWay 28 = .ok (.iinc 5 1, 3) := by decide +kernel
theorem dX2_nodeOnWay_31 : decode cX2_nodeOnWay 31 = .ok (.goto (-25), 3) := by decide +kernel
theorem dX2_nodeOnWay_34 : decode cX2_nodeOnWay 34 = .ok (.iload 4, 2) := by decide +kernel
theorem dX2_nodeOnWay_36 : decode cX2_nodeOnWay 36 = .ok (.ireturn, 1) := by decide +kernel
theorem dX2_answerOf_0 : decode cX2_answerOf 0 = .ok (.iload_n 3, 1) := by decide +kernel
theorem dX2_answerOf_1 : decode cX2_answerOf 1 = .ok (.istore 4, 2) := by decide +kernel
theorem dX2_answerOf_3 : decode cX2_answerOf 3 = .ok (.iconst 0, 1) := by decide +kernel
theorem dX2_answerOf_4 : decode cX2_answerOf 4 = .ok (.istore 5, 2) := by decide +kernel
theorem dX2_answerOf_6 : decode cX2_answerOf 6 = .ok (.iconst 0, 1) := by decide +kernel
theorem dX2_answerOf_7 : decode cX2_answerOf 7 = .ok (.istore 6, 2) := by decide +kernel
theorem dX2_answerOf_9 : decode cX2_answerOf 9 = .ok (.iload 6, 2) := by decide +kernel
theorem dX2_answerOf_11 : decode cX2_answerOf 11 = .ok (.bipush 6, 2) := by decide +kernel
theorem dX2_answerOf_13 : decode cX2_answerOf 13 = .ok (.if_icmp .ge 34, 3) := by decide +kernel
theorem dX2_answerOf_16 : decode cX2_answerOf 16 = .ok (.iload 5, 2) := by decide +kernel
theorem dX2_answerOf_18 : decode cX2_answerOf 18 = .ok (.iconst (-1), 1) := by decide +kernel
theorem dX2_answerOf_19 : decode cX2_answerOf 19 = .ok (.if_icmp .eq 28, 3) := by decide +kernel
theorem dX2_answerOf_22 : decode cX2_answerOf 22 = .ok (.iload 4, 2) := by decide +kernel
theorem dX2_answerOf_24 : decode cX2_answerOf 24 = .ok (.iload 5, 2) := by decide +kernel
theorem dX2_answerOf_26 : decode cX2_answerOf 26 = .ok (.invokestatic 39, 3) := by decide +kernel
theorem dX2_answerOf_29 : decode cX2_answerOf 29 = .ok (.istore 4, 2) := by decide +kernel
theorem dX2_answerOf_31 : decode cX2_answerOf 31 = .ok (.aload_n 0, 1) := by decide +kernel
theorem dX2_answerOf_32 : decode cX2_answerOf 32 = .ok (.iload_n 1, 1) := by decide +kernel
theorem dX2_answerOf_33 : decode cX2_answerOf 33 = .ok (.iload 5, 2) := by decide +kernel
theorem dX2_answerOf_35 : decode cX2_answerOf 35 = .ok (.iload_n 2, 1) := by decide +kernel
theorem dX2_answerOf_36 : decode cX2_answerOf 36 = .ok (.invokestatic 35, 3) := by decide +kernel
theorem dX2_answerOf_39 : decode cX2_answerOf 39 = .ok (.istore 5, 2) := by decide +kernel
theorem dX2_answerOf_41 : decode cX2_answerOf 41 = .ok (.iinc 6 1, 3) := by decide +kernel
theorem dX2_answerOf_44 : decode cX2_answerOf 44 = .ok (.goto (-35), 3) := by decide +kernel
theorem dX2_answerOf_47 : decode cX2_answerOf 47 = .ok (.iload 4, 2) := by decide +kernel
theorem dX2_answerOf_49 : decode cX2_answerOf 49 = .ok (.ireturn, 1) := by decide +kernel
theorem dX2_behindNode_0 : decode cX2_behindNode 0 = .ok (.iconst 5, 1) := by decide +kernel
theorem dX2_behindNode_1 : decode cX2_behindNode 1 = .ok (.iload_n 0, 1) := by decide +kernel
theorem dX2_behindNode_2 : decode cX2_behindNode 2 = .ok (.imul, 1) := by decide +kernel
theorem dX2_behindNode_3 : decode cX2_behindNode 3 = .ok (.iload_n 1, 1) := by decide +kernel
theorem dX2_behindNode_4 : decode cX2_behindNode 4 = .ok (.iadd, 1) := by decide +kernel
theorem dX2_behindNode_5 : decode cX2_behindNode 5 = .ok (.iconst 1, 1) := by decide +kernel
theorem dX2_behindNode_6 : decode cX2_behindNode 6 = .ok (.iadd, 1) := by decide +kernel
theorem dX2_behindNode_7 : decode cX2_behindNode 7 = .ok (.bipush 64, 2) := by decide +kernel
theorem dX2_behindNode_9 : decode cX2_behindNode 9 = .ok (.irem, 1) := by decide +kernel
theorem dX2_behindNode_10 : decode cX2_behindNode 10 = .ok (.ireturn, 1) := by decide +kernel
theorem dX2_countWays_0 : decode cX2_countWays 0 = .ok (.aload_n 0, 1) := by decide +kernel
theorem dX2_countWays_1 : decode cX2_countWays 1 = .ok (.aload_n 1, 1) := by decide +kernel
theorem dX2_countWays_2 : decode cX2_countWays 2 = .ok (.iload_n 2, 1) := by decide +kernel
theorem dX2_countWays_3 : decode cX2_countWays 3 = .ok (.iconst 0, 1) := by decide +kernel
theorem dX2_countWays_4 : decode cX2_countWays 4 = .ok (.invokevirtual 43, 3) := by decide +kernel
theorem dX2_countWays_7 : decode cX2_countWays 7 = .ok (.iconst 0, 1) := by decide +kernel
theorem dX2_countWays_8 : decode cX2_countWays 8 = .ok (.istore_n 3, 1) := by decide +kernel
theorem dX2_countWays_9 : decode cX2_countWays 9 = .ok (.iconst 0, 1) := by decide +kernel
theorem dX2_countWays_10 : decode cX2_countWays 10 = .ok (.istore 4, 2) := by decide +kernel
theorem dX2_countWays_12 : decode cX2_countWays 12 = .ok (.iload 4, 2) := by decide +kernel
theorem dX2_countWays_14 : decode cX2_countWays 14 = .ok (.bipush 64, 2) := by decide +kernel
theorem dX2_countWays_16 : decode cX2_countWays 16 = .ok (.if_icmp .ge 19, 3) := by decide +kernel
theorem dX2_countWays_19 : decode cX2_countWays 19 = .ok (.iload_n 3, 1) := by decide +kernel
theorem dX2_countWays_20 : decode cX2_countWays 20 = .ok (.aload_n 0, 1) := by decide +kernel
theorem dX2_countWays_21 : decode cX2_countWays 21 = .ok (.getfield 16, 3) := by decide +kernel
theorem dX2_countWays_24 : decode cX2_countWays 24 = .ok (.iload 4, 2) := by decide +kernel
theorem dX2_countWays_26 : decode cX2_countWays 26 = .ok (.iaload, 1) := by decide +kernel
theorem dX2_countWays_27 : decode cX2_countWays 27 = .ok (.iadd, 1) := by decide +kernel
theorem dX2_countWays_28 : decode cX2_countWays 28 = .ok (.istore_n 3, 1) := by decide +kernel
theorem dX2_countWays_29 : decode cX2_countWays 29 = .ok (.iinc 4 1, 3) := by decide +kernel
theorem dX2_countWays_32 : decode cX2_countWays 32 = .ok (.goto (-20), 3) := by decide +kernel
theorem dX2_countWays_35 : decode cX2_countWays 35 = .ok (.iload_n 3, 1) := by decide +kernel
theorem dX2_countWays_36 : decode cX2_countWays 36 = .ok (.ireturn, 1) := by decide +kernel
theorem dX2_countPairs_0 : decode cX2_countPairs 0 = .ok (.aload_n 0, 1) := by decide +kernel
theorem dX2_countPairs_1 : decode cX2_countPairs 1 = .ok (.aload_n 1, 1) := by decide +kernel
theorem dX2_countPairs_2 : decode cX2_countPairs 2 = .ok (.iload_n 2, 1) := by decide +kernel
theorem dX2_countPairs_3 : decode cX2_countPairs 3 = .ok (.iload_n 3, 1) := by decide +kernel
theorem dX2_countPairs_4 : decode cX2_countPairs 4 = .ok (.invokevirtual 43, 3) := by decide +kernel
theorem dX2_countPairs_7 : decode cX2_countPairs 7 = .ok (.iconst 0, 1) := by decide +kernel
theorem dX2_countPairs_8 : decode cX2_countPairs 8 = .ok (.istore 4, 2) := by decide +kernel
theorem dX2_countPairs_10 : decode cX2_countPairs 10 = .ok (.iconst 0, 1) := by decide +kernel
theorem dX2_countPairs_11 : decode cX2_countPairs 11 = .ok (.istore 5, 2) := by decide +kernel
theorem dX2_countPairs_13 : decode cX2_countPairs 13 = .ok (.iload 5, 2) := by decide +kernel
theorem dX2_countPairs_15 : decode cX2_countPairs 15 = .ok (.bipush 64, 2) := by decide +kernel
theorem dX2_countPairs_17 : decode cX2_countPairs 17 = .ok (.if_icmp .ge 33, 3) := by decide +kernel
theorem dX2_countPairs_20 : decode cX2_countPairs 20 = .ok (.iload 4, 2) := by decide +kernel
theorem dX2_countPairs_22 : decode cX2_countPairs 22 = .ok (.aload_n 0, 1) := by decide +kernel
theorem dX2_countPairs_23 : decode cX2_countPairs 23 = .ok (.getfield 16, 3) := by decide +kernel
theorem dX2_countPairs_26 : decode cX2_countPairs 26 = .ok (.iload 5, 2) := by decide +kernel
theorem dX2_countPairs_28 : decode cX2_countPairs 28 = .ok (.iaload, 1) := by decide +kernel
theorem dX2_countPairs_29 : decode cX2_countPairs 29 = .ok (.aload_n 0, 1) := by decide +kernel
theorem dX2_countPairs_30 : decode cX2_countPairs 30 = .ok (.getfield 16, 3) := by decide +kernel
theorem dX2_countPairs_33 : decode cX2_countPairs 33 = .ok (.iload 5, 2) := by decide +kernel
theorem dX2_countPairs_35 : decode cX2_countPairs 35 = .ok (.iaload, 1) := by decide +kernel
theorem dX2_countPairs_36 : decode cX2_countPairs 36 = .ok (.iconst 1, 1) := by decide +kernel
theorem dX2_countPairs_37 : decode cX2_countPairs 37 = .ok (.isub, 1) := by decide +kernel
theorem dX2_countPairs_38 : decode cX2_countPairs 38 = .ok (.imul, 1) := by decide +kernel
theorem dX2_countPairs_39 : decode cX2_countPairs 39 = .ok (.iconst 2, 1) := by decide +kernel
theorem dX2_countPairs_40 : decode cX2_countPairs 40 = .ok (.idiv, 1) := by decide +kernel
theorem dX2_countPairs_41 : decode cX2_countPairs 41 = .ok (.iadd, 1) := by decide +kernel
theorem dX2_countPairs_42 : decode cX2_countPairs 42 = .ok (.istore 4, 2) := by decide +kernel
theorem dX2_countPairs_44 : decode cX2_countPairs 44 = .ok (.iinc 5 1, 3) := by decide +kernel
theorem dX2_countPairs_47 : decode cX2_countPairs 47 = .ok (.goto (-34), 3) := by decide +kernel
theorem dX2_countPairs_50 : decode cX2_countPairs 50 = .ok (.iload 4, 2) := by decide +kernel
theorem dX2_countPairs_52 : decode cX2_countPairs 52 = .ok (.ireturn, 1) := by decide +kernel
theorem dX2_tallyAnswers_0 : decode cX2_tallyAnswers 0 = .ok (.iconst 0, 1) := by decide +kernel
theorem dX2_tallyAnswers_1 : decode cX2_tallyAnswers 1 = .ok (.istore 4, 2) := by decide +kernel
theorem dX2_tallyAnswers_3 : decode cX2_tallyAnswers 3 = .ok (.iload 4, 2) := by decide +kernel
theorem dX2_tallyAnswers_5 : decode cX2_tallyAnswers 5 = .ok (.bipush 64, 2) := by decide +kernel
theorem dX2_tallyAnswers_7 : decode cX2_tallyAnswers 7 = .ok (.if_icmp .ge 44, 3) := by decide +kernel
theorem dX2_tallyAnswers_10 : decode cX2_tallyAnswers 10 = .ok (.aload_n 0, 1) := by decide +kernel
theorem dX2_tallyAnswers_11 : decode cX2_tallyAnswers 11 = .ok (.getfield 16, 3) := by decide +kernel
theorem dX2_tallyAnswers_14 : decode cX2_tallyAnswers 14 = .ok (.iload 4, 2) := by decide +kernel
theorem dX2_tallyAnswers_16 : decode cX2_tallyAnswers 16 = .ok (.iconst 0, 1) := by decide +kernel
theorem dX2_tallyAnswers_17 : decode cX2_tallyAnswers 17 = .ok (.iastore, 1) := by decide +kernel
theorem dX2_tallyAnswers_18 : decode cX2_tallyAnswers 18 = .ok (.iconst 0, 1) := by decide +kernel
theorem dX2_tallyAnswers_19 : decode cX2_tallyAnswers 19 = .ok (.istore 5, 2) := by decide +kernel
theorem dX2_tallyAnswers_21 : decode cX2_tallyAnswers 21 = .ok (.iload 5, 2) := by decide +kernel
theorem dX2_tallyAnswers_23 : decode cX2_tallyAnswers 23 = .ok (.bipush 6, 2) := by decide +kernel
theorem dX2_tallyAnswers_25 : decode cX2_tallyAnswers 25 = .ok (.if_icmp .ge 20, 3) := by decide +kernel
theorem dX2_tallyAnswers_28 : decode cX2_tallyAnswers 28 = .ok (.aload_n 0, 1) := by decide +kernel
theorem dX2_tallyAnswers_29 : decode cX2_tallyAnswers 29 = .ok (.getfield 11, 3) := by decide +kernel
theorem dX2_tallyAnswers_32 : decode cX2_tallyAnswers 32 = .ok (.iload 5, 2) := by decide +kernel
theorem dX2_tallyAnswers_34 : decode cX2_tallyAnswers 34 = .ok (.aaload, 1) := by decide +kernel
theorem dX2_tallyAnswers_35 : decode cX2_tallyAnswers 35 = .ok (.iload 4, 2) := by decide +kernel
theorem dX2_tallyAnswers_37 : decode cX2_tallyAnswers 37 = .ok (.iconst 0, 1) := by decide +kernel
theorem dX2_tallyAnswers_38 : decode cX2_tallyAnswers 38 = .ok (.iastore, 1) := by decide +kernel
theorem dX2_tallyAnswers_39 : decode cX2_tallyAnswers 39 = .ok (.iinc 5 1, 3) := by decide +kernel
theorem dX2_tallyAnswers_42 : decode cX2_tallyAnswers 42 = .ok (.goto (-21), 3) := by decide +kernel
theorem dX2_tallyAnswers_45 : decode cX2_tallyAnswers 45 = .ok (.iinc 4 1, 3) := by decide +kernel
theorem dX2_tallyAnswers_48 : decode cX2_tallyAnswers 48 = .ok (.goto (-45), 3) := by decide +kernel
theorem dX2_tallyAnswers_51 : decode cX2_tallyAnswers 51 = .ok (.aload_n 0, 1) := by decide +kernel
theorem dX2_tallyAnswers_52 : decode cX2_tallyAnswers 52 = .ok (.getfield 11, 3) := by decide +kernel
theorem dX2_tallyAnswers_55 : decode cX2_tallyAnswers 55 = .ok (.iconst 0, 1) := by decide +kernel
theorem dX2_tallyAnswers_56 : decode cX2_tallyAnswers 56 = .ok (.aaload, 1) := by decide +kernel
theorem dX2_tallyAnswers_57 : decode cX2_tallyAnswers 57 = .ok (.iload_n 3, 1) := by decide +kernel
theorem dX2_tallyAnswers_58 : decode cX2_tallyAnswers 58 = .ok (.iconst 1, 1) := by decide +kernel
theorem dX2_tallyAnswers_59 : decode cX2_tallyAnswers 59 = .ok (.iastore, 1) := by decide +kernel
theorem dX2_tallyAnswers_60 : decode cX2_tallyAnswers 60 = .ok (.iconst 0, 1) := by decide +kernel
theorem dX2_tallyAnswers_61 : decode cX2_tallyAnswers 61 = .ok (.istore 4, 2) := by decide +kernel
theorem dX2_tallyAnswers_63 : decode cX2_tallyAnswers 63 = .ok (.iload 4, 2) := by decide +kernel
theorem dX2_tallyAnswers_65 : decode cX2_tallyAnswers 65 = .ok (.aload_n 1, 1) := by decide +kernel
theorem dX2_tallyAnswers_66 : decode cX2_tallyAnswers 66 = .ok (.getfield 47, 3) := by decide +kernel
theorem dX2_tallyAnswers_69 : decode cX2_tallyAnswers 69 = .ok (.iload_n 2, 1) := by decide +kernel
theorem dX2_tallyAnswers_70 : decode cX2_tallyAnswers 70 = .ok (.aaload, 1) := by decide +kernel
theorem dX2_tallyAnswers_71 : decode cX2_tallyAnswers 71 = .ok (.bipush 6, 2) := by decide +kernel
theorem dX2_tallyAnswers_73 : decode cX2_tallyAnswers 73 = .ok (.iaload, 1) := by decide +kernel
theorem dX2_tallyAnswers_74 : decode cX2_tallyAnswers 74 = .ok (.if_icmp .ge 55, 3) := by decide +kernel
theorem dX2_tallyAnswers_77 : decode cX2_tallyAnswers 77 = .ok (.iconst 0, 1) := by decide +kernel
theorem dX2_tallyAnswers_78 : decode cX2_tallyAnswers 78 = .ok (.istore 5, 2) := by decide +kernel
theorem dX2_tallyAnswers_80 : decode cX2_tallyAnswers 80 = .ok (.iload 5, 2) := by decide +kernel
theorem dX2_tallyAnswers_82 : decode cX2_tallyAnswers 82 = .ok (.bipush 64, 2) := by decide +kernel
theorem dX2_tallyAnswers_84 : decode cX2_tallyAnswers 84 = .ok (.if_icmp .ge 39, 3) := by decide +kernel
theorem dX2_tallyAnswers_87 : decode cX2_tallyAnswers 87 = .ok (.aload_n 0, 1) := by decide +kernel
theorem dX2_tallyAnswers_88 : decode cX2_tallyAnswers 88 = .ok (.aload_n 1, 1) := by decide +kernel
theorem dX2_tallyAnswers_89 : decode cX2_tallyAnswers 89 = .ok (.getfield 26, 3) := by decide +kernel
theorem dX2_tallyAnswers_92 : decode cX2_tallyAnswers 92 = .ok (.iload_n 2, 1) := by decide +kernel
theorem dX2_tallyAnswers_93 : decode cX2_tallyAnswers 93 = .ok (.aaload, 1) := by decide +kernel
theorem dX2_tallyAnswers_94 : decode cX2_tallyAnswers 94 = .ok (.iload 4, 2) := by decide +kernel
theorem dX2_tallyAnswers_96 : decode cX2_tallyAnswers 96 = .ok (.iaload, 1) := by decide +kernel
theorem dX2_tallyAnswers_97 : decode cX2_tallyAnswers 97 = .ok (.iload 5, 2) := by decide +kernel
theorem dX2_tallyAnswers_99 : decode cX2_tallyAnswers 99 = .ok (.iload 4, 2) := by decide +kernel
theorem dX2_tallyAnswers_101 : decode cX2_tallyAnswers 101 = .ok (.invokestatic 39, 3) := by decide +kernel
theorem dX2_tallyAnswers_104 : decode cX2_tallyAnswers 104 = .ok (.aload_n 0, 1) := by decide +kernel
theorem dX2_tallyAnswers_105 : decode cX2_tallyAnswers 105 = .ok (.getfield 11, 3) := by decide +kernel
theorem dX2_tallyAnswers_108 : decode cX2_tallyAnswers 108 = .ok (.iload 4, 2) := by decide +kernel
theorem dX2_tallyAnswers_110 : decode cX2_tallyAnswers 110 = .ok (.aaload, 1) := by decide +kernel
theorem dX2_tallyAnswers_111 : decode cX2_tallyAnswers 111 = .ok (.iload 5, 2) := by decide +kernel
theorem dX2_tallyAnswers_113 : decode cX2_tallyAnswers 113 = .ok (.iaload, 1) := by decide +kernel
theorem dX2_tallyAnswers_114 : decode cX2_tallyAnswers 114 = .ok (.invokevirtual 50, 3) := by decide +kernel
theorem dX2_tallyAnswers_117 : decode cX2_tallyAnswers 117 = .ok (.iinc 5 1, 3) := by decide +kernel
theorem dX2_tallyAnswers_120 : decode cX2_tallyAnswers 120 = .ok (.goto (-40), 3) := by decide +kernel
theorem dX2_tallyAnswers_123 : decode cX2_tallyAnswers 123 = .ok (.iinc 4 1, 3) := by decide +kernel
theorem dX2_tallyAnswers_126 : decode cX2_tallyAnswers 126 = .ok (.goto (-63), 3) := by decide +kernel
theorem dX2_tallyAnswers_129 : decode cX2_tallyAnswers 129 = .ok (.return_, 1) := by decide +kernel
theorem dX2_pass_0 : decode cX2_pass 0 = .ok (.iload_n 1, 1) := by decide +kernel
theorem dX2_pass_1 : decode cX2_pass 1 = .ok (.ifCond .ne 14, 3) := by decide +kernel
theorem dX2_pass_4 : decode cX2_pass 4 = .ok (.aload_n 0, 1) := by decide +kernel
theorem dX2_pass_5 : decode cX2_pass 5 = .ok (.getfield 16, 3) := by decide +kernel
theorem dX2_pass_8 : decode cX2_pass 8 = .ok (.iload_n 2, 1) := by decide +kernel
theorem dX2_pass_9 : decode cX2_pass 9 = .ok (.dup2, 1) := by decide +kernel
theorem dX2_pass_10 : decode cX2_pass 10 = .ok (.iaload, 1) := by decide +kernel
theorem dX2_pass_11 : decode cX2_pass 11 = .ok (.iload_n 3, 1) := by decide +kernel
theorem dX2_pass_12 : decode cX2_pass 12 = .ok (.iadd, 1) := by decide +kernel
theorem dX2_pass_13 : decode cX2_pass 13 = .ok (.iastore, 1) := by decide +kernel
theorem dX2_pass_14 : decode cX2_pass 14 = .ok (.return_, 1) := by decide +kernel
theorem dX2_pass_15 : decode cX2_pass 15 = .ok (.iconst 0, 1) := by decide +kernel
theorem dX2_pass_16 : decode cX2_pass 16 = .ok (.istore 4, 2) := by decide +kernel
theorem dX2_pass_18 : decode cX2_pass 18 = .ok (.iload 4, 2) := by decide +kernel
theorem dX2_pass_20 : decode cX2_pass 20 = .ok (.bipush 6, 2) := by decide +kernel
theorem dX2_pass_22 : decode cX2_pass 22 = .ok (.if_icmp .ge 31, 3) := by decide +kernel
theorem dX2_pass_25 : decode cX2_pass 25 = .ok (.iload_n 1, 1) := by decide +kernel
theorem dX2_pass_26 : decode cX2_pass 26 = .ok (.iconst 1, 1) := by decide +kernel
theorem dX2_pass_27 : decode cX2_pass 27 = .ok (.iload 4, 2) := by decide +kernel
theorem dX2_pass_29 : decode cX2_pass 29 = .ok (.ishl, 1) := by decide +kernel
theorem dX2_pass_30 : decode cX2_pass 30 = .ok (.iand, 1) := by decide +kernel
theorem dX2_pass_31 : decode cX2_pass 31 = .ok (.ifCond .eq 16, 3) := by decide +kernel
theorem dX2_pass_34 : decode cX2_pass 34 = .ok (.aload_n 0, 1) := by decide +kernel
theorem dX2_pass_35 : decode cX2_pass 35 = .ok (.getfield 11, 3) := by decide +kernel
theorem dX2_pass_38 : decode cX2_pass 38 = .ok (.iload 4, 2) := by decide +kernel
theorem dX2_pass_40 : decode cX2_pass 40 = .ok (.aaload, 1) := by decide +kernel
theorem dX2_pass_41 : decode cX2_pass 41 = .ok (.iload_n 2, 1) := by decide +kernel
theorem dX2_pass_42 : decode cX2_pass 42 = .ok (.dup2, 1) := by decide +kernel
theorem dX2_pass_43 : decode cX2_pass 43 = .ok (.iaload, 1) := by decide +kernel
theorem dX2_pass_44 : decode cX2_pass 44 = .ok (.iload_n 3, 1) := by decide +kernel
theorem dX2_pass_45 : decode cX2_pass 45 = .ok (.iadd, 1) := by decide +kernel
theorem dX2_pass_46 : decode cX2_pass 46 = .ok (.iastore, 1) := by decide +kernel
theorem dX2_pass_47 : decode cX2_pass 47 = .ok (.iinc 4 1, 3) := by decide +kernel
theorem dX2_pass_50 : decode cX2_pass 50 = .ok (.goto (-32), 3) := by decide +kernel
theorem dX2_pass_53 : decode cX2_pass 53 = .ok (.return_, 1) := by decide +kernel
theorem dX3_init_0 : decode cX3_init 0 = .ok (.aload_n 0, 1) := by decide +kernel
theorem dX3_init_1 : decode cX3_init 1 = .ok (.invokespecial 3, 3) := by decide +kernel
theorem dX3_init_4 : decode cX3_init 4 = .ok (.aload_n 0, 1) := by decide +kernel
theorem dX3_init_5 : decode cX3_init 5 = .ok (.iconst 5, 1) := by decide +kernel
theorem dX3_init_6 : decode cX3_init 6 = .ok (.newarray .int, 2) := by decide +kernel
theorem dX3_init_8 : decode cX3_init 8 = .ok (.putfield 9, 3) := by decide +kernel
theorem dX3_init_11 : decode cX3_init 11 = .ok (.aload_n 0, 1) := by decide +kernel
theorem dX3_init_12 : decode cX3_init 12 = .ok (.iconst (-1), 1) := by decide +kernel
theorem dX3_init_13 : decode cX3_init 13 = .ok (.putfield 15, 3) := by decide +kernel
theorem dX3_init_16 : decode cX3_init 16 = .ok (.return_, 1) := by decide +kernel
theorem dX3_lineUp_0 : decode cX3_lineUp 0 = .ok (.iconst 0, 1) := by decide +kernel
theorem dX3_lineUp_1 : decode cX3_lineUp 1 = .ok (.istore_n 2, 1) := by decide +kernel
theorem dX3_lineUp_2 : decode cX3_lineUp 2 = .ok (.iload_n 2, 1) := by decide +kernel
theorem dX3_lineUp_3 : decode cX3_lineUp 3 = .ok (.iload_n 1, 1) := by decide +kernel
theorem dX3_lineUp_4 : decode cX3_lineUp 4 = .ok (.if_icmp .ge 21, 3) := by decide +kernel
theorem dX3_lineUp_7 : decode cX3_lineUp 7 = .ok (.iload_n 2, 1) := by decide +kernel
theorem dX3_lineUp_8 : decode cX3_lineUp 8 = .ok (.iconst 5, 1) := by decide +kernel
theorem dX3_lineUp_9 : decode cX3_lineUp 9 = .ok (.if_icmp .ge 16, 3) := by decide +kernel
theorem dX3_lineUp_12 : decode cX3_lineUp 12 = .ok (.aload_n 0, 1) := by decide +kernel
theorem dX3_lineUp_13 : decode cX3_lineUp 13 = .ok (.getfield 9, 3) := by decide +kernel
theorem dX3_lineUp_16 : decode cX3_lineUp 16 = .ok (.iload_n 2, 1) := by decide +kernel
theorem dX3_lineUp_17 : decode cX3_lineUp 17 = .ok (.iload_n 2, 1) := by decide +kernel
theorem dX3_lineUp_18 : decode cX3_lineUp 18 = .ok (.iastore, 1) := by decide +kernel
theorem dX3_lineUp_19 : decode cX3_lineUp 19 = .ok (.iinc 2 1, 3) := by decide +kernel
theorem dX3_lineUp_22 : decode cX3_lineUp 22 = .ok (.goto (-20), 3) := by decide +kernel
theorem dX3_lineUp_25 : decode cX3_lineUp 25 = .ok (.return_, 1) := by decide +kernel
theorem dX3_costOf_0 : decode cX3_costOf 0 = .ok (.aload_n 1, 1) := by decide +kernel
theorem dX3_costOf_1 : decode cX3_costOf 1 = .ok (.getfield 19, 3) := by decide +kernel
theorem dX3_costOf_4 : decode cX3_costOf 4 = .ok (.iload_n 2, 1) := by decide +kernel
theorem dX3_costOf_5 : decode cX3_costOf 5 = .ok (.aaload, 1) := by decide +kernel
theorem dX3_costOf_6 : decode cX3_costOf 6 = .ok (.iload_n 3, 1) := by decide +kernel
theorem dX3_costOf_7 : decode cX3_costOf 7 = .ok (.iaload, 1) := by decide +kernel
theorem dX3_costOf_8 : decode cX3_costOf 8 = .ok (.iload_n 2, 1) := by decide +kernel
theorem dX3_costOf_9 : decode cX3_costOf 9 = .ok (.aload_n 0, 1) := by decide +kernel
theorem dX3_costOf_10 : decode cX3_costOf 10 = .ok (.getfield 15, 3) := by decide +kernel
theorem dX3_costOf_13 : decode cX3_costOf 13 = .ok (.if_icmp .ne 10, 3) := by decide +kernel
theorem dX3_costOf_16 : decode cX3_costOf 16 = .ok (.aload_n 0, 1) := by decide +kernel
theorem dX3_costOf_17 : decode cX3_costOf 17 = .ok (.getfield 25, 3) := by decide +kernel
theorem dX3_costOf_20 : decode cX3_costOf 20 = .ok (.goto 4, 3) := by decide +kernel
theorem dX3_costOf_23 : decode cX3_costOf 23 = .ok (.iconst 0, 1) := by decide +kernel
theorem dX3_costOf_24 : decode cX3_costOf 24 = .ok (.iadd, 1) := by decide +kernel
theorem dX3_costOf_25 : decode cX3_costOf 25 = .ok (.ireturn, 1) := by decide +kernel
theorem dX3_responseAt_0 : decode cX3_responseAt 0 = .ok (.aload_n 1, 1) := by decide +kernel
theorem dX3_responseAt_1 : decode cX3_responseAt 1 = .ok (.getfield 28, 3) := by decide +kernel
theorem dX3_responseAt_4 : decode cX3_responseAt 4 = .ok (.aload_n 0, 1) := by decide +kernel
theorem dX3_responseAt_5 : decode cX3_responseAt 5 = .ok (.getfield 9, 3) := by decide +kernel
theorem dX3_responseAt_8 : decode cX3_responseAt 8 = .ok (.iload_n 2, 1) := by decide +kernel
theorem dX3_responseAt_9 : decode cX3_responseAt 9 = .ok (.iaload, 1) := by decide +kernel
theorem dX3_responseAt_10 : decode cX3_responseAt 10 = .ok (.aaload, 1) := by decide +kernel
theorem dX3_responseAt_11 : decode cX3_responseAt 11 = .ok (.iconst 1, 1) := by decide +kernel
theorem dX3_responseAt_12 : decode cX3_responseAt 12 = .ok (.iaload, 1) := by decide +kernel
theorem dX3_responseAt_13 : decode cX3_responseAt 13 = .ok (.istore_n 3, 1) := by decide +kernel
theorem dX3_responseAt_14 : decode cX3_responseAt 14 = .ok (.iconst 1, 1) := by decide +kernel
theorem dX3_responseAt_15 : decode cX3_responseAt 15 = .ok (.istore 4, 2) := by decide +kernel
theorem dX3_responseAt_17 : decode cX3_responseAt 17 = .ok (.iload 4, 2) := by decide +kernel
theorem dX3_responseAt_19 : decode cX3_responseAt 19 = .ok (.iload_n 3, 1) := by decide +kernel
theorem dX3_responseAt_20 : decode cX3_responseAt 20 = .ok (.if_icmp .gt 25, 3) := by decide +kernel
theorem dX3_responseAt_23 : decode cX3_responseAt 23 = .ok (.aload_n 0, 1) := by decide +kernel
theorem dX3_responseAt_24 : decode cX3_responseAt 24 = .ok (.aload_n 1, 1) := by decide +kernel
theorem dX3_responseAt_25 : decode cX3_responseAt 25 = .ok (.iload_n 2, 1) := by decide +kernel
theorem dX3_responseAt_26 : decode cX3_responseAt 26 = .ok (.iload 4, 2) := by decide +kernel
theorem dX3_responseAt_28 : decode cX3_responseAt 28 = .ok (.invokevirtual 31, 3) := by decide +kernel
theorem dX3_responseAt_31 : decode cX3_responseAt 31 = .ok (.iload 4, 2) := by decide +kernel
theorem dX3_responseAt_33 : decode cX3_responseAt 33 = .ok (.if_icmp .ne 6, 3) := by decide +kernel
theorem dX3_responseAt_36 : decode cX3_responseAt 36 = .ok (.iload 4, 2) := by decide +kernel
theorem dX3_responseAt_38 : decode cX3_responseAt 38 = .ok (.ireturn, 1) := by decide +kernel
theorem dX3_responseAt_39 : decode cX3_responseAt 39 = .ok (.iinc 4 1, 3) := by decide +kernel
theorem dX3_responseAt_42 : decode cX3_responseAt 42 = .ok (.goto (-25), 3) := by decide +kernel
theorem dX3_responseAt_45 : decode cX3_responseAt 45 = .ok (.iconst (-1), 1) := by decide +kernel
theorem dX3_responseAt_46 : decode cX3_responseAt 46 = .ok (.ireturn, 1) := by decide +kernel
theorem dX3_demandAt_0 : decode cX3_demandAt 0 = .ok (.aload_n 0, 1) := by decide +kernel
theorem dX3_demandAt_1 : decode cX3_demandAt 1 = .ok (.aload_n 1, 1) := by decide +kernel
theorem dX3_demandAt_2 : decode cX3_demandAt 2 = .ok (.aload_n 0, 1) := by decide +kernel
theorem dX3_demandAt_3 : decode cX3_demandAt 3 = .ok (.getfield 9, 3) := by decide +kernel
theorem dX3_demandAt_6 : decode cX3_demandAt 6 = .ok (.iload_n 2, 1) := by decide +kernel
theorem dX3_demandAt_7 : decode cX3_demandAt 7 = .ok (.iaload, 1) := by decide +kernel
theorem dX3_demandAt_8 : decode cX3_demandAt 8 = .ok (.iconst 1, 1) := by decide +kernel
theorem dX3_demandAt_9 : decode cX3_demandAt 9 = .ok (.invokevirtual 35, 3) := by decide +kernel
theorem dX3_demandAt_12 : decode cX3_demandAt 12 = .ok (.istore 4, 2) := by decide +kernel
theorem dX3_demandAt_14 : decode cX3_demandAt 14 = .ok (.iconst 0, 1) := by decide +kernel
theorem dX3_demandAt_15 : decode cX3_demandAt 15 = .ok (.istore 5, 2) := by decide +kernel
theorem dX3_demandAt_17 : decode cX3_demandAt 17 = .ok (.iload 5, 2) := by decide +kernel
theorem dX3_demandAt_19 : decode cX3_demandAt 19 = .ok (.iload_n 2, 1) := by decide +kernel
theorem dX3_demandAt_20 : decode cX3_demandAt 20 = .ok (.if_icmp .ge 50, 3) := by decide +kernel
theorem dX3_demandAt_23 : decode cX3_demandAt 23 = .ok (.iload_n 3, 1) := by decide +kernel
theorem dX3_demandAt_24 : decode cX3_demandAt 24 = .ok (.aload_n 1, 1) := by decide +kernel
theorem dX3_demandAt_25 : decode cX3_demandAt 25 = .ok (.getfield 28, 3) := by decide +kernel
theorem dX3_demandAt_28 : decode cX3_demandAt 28 = .ok (.aload_n 0, 1) := by decide +kernel
theorem dX3_demandAt_29 : decode cX3_demandAt 29 = .ok (.getfield 9, 3) := by decide +kernel
theorem dX3_demandAt_32 : decode cX3_demandAt 32 = .ok (.iload 5, 2) := by decide +kernel
theorem dX3_demandAt_34 : decode cX3_demandAt 34 = .ok (.iaload, 1) := by decide +kernel
theorem dX3_demandAt_35 : decode cX3_demandAt 35 = .ok (.aaload, 1) := by decide +kernel
theorem dX3_demandAt_36 : decode cX3_demandAt 36 = .ok (.iconst 1, 1) := by decide +kernel
theorem dX3_demandAt_37 : decode cX3_demandAt 37 = .ok (.iaload, 1) := by decide +kernel
theorem dX3_demandAt_38 : decode cX3_demandAt 38 = .ok (.invokestatic 38, 3) := by decide +kernel
theorem dX3_demandAt_41 : decode cX3_demandAt 41 = .ok (.istore 6, 2) := by decide +kernel
theorem dX3_demandAt_43 : decode cX3_demandAt 43 = .ok (.iload 4, 2) := by decide +kernel
theorem dX3_demandAt_45 : decode cX3_demandAt 45 = .ok (.iload 6, 2) := by decide +kernel
theorem dX3_demandAt_47 : decode cX3_demandAt 47 = .ok (.aload_n 0, 1) := by decide +kernel
theorem dX3_demandAt_48 : decode cX3_demandAt 48 = .ok (.aload_n 1, 1) := by decide +kernel
theorem dX3_demandAt_49 : decode cX3_demandAt 49 = .ok (.aload_n 0, 1) := by decide +kernel
theorem dX3_demandAt_50 : decode cX3_demandAt 50 = .ok (.getfield 9, 3) := by decide +kernel
theorem dX3_demandAt_53 : decode cX3_demandAt 53 = .ok (.iload 5, 2) := by decide +kernel
theorem dX3_demandAt_55 : decode cX3_demandAt 55 = .ok (.iaload, 1) := by decide +kernel
theorem dX3_demandAt_56 : decode cX3_demandAt 56 = .ok (.iconst 1, 1) := by decide +kernel
theorem dX3_demandAt_57 : decode cX3_demandAt 57 = .ok (.invokevirtual 35, 3) := by decide +kernel
theorem dX3_demandAt_60 : decode cX3_demandAt 60 = .ok (.imul, 1) := by decide +kernel
theorem dX3_demandAt_61 : decode cX3_demandAt 61 = .ok (.iadd, 1) := by decide +kernel
theorem dX3_demandAt_62 : decode cX3_demandAt 62 = .ok (.istore 4, 2) := by decide +kernel
theorem dX3_demandAt_64 : decode cX3_demandAt 64 = .ok (.iinc 5 1, 3) := by decide +kernel
theorem dX3_demandAt_67 : decode cX3_demandAt 67 = .ok (.goto (-50), 3) := by decide +kernel
theorem dX3_demandAt_70 : decode cX3_demandAt 70 = .ok (.iload 4, 2) := by decide +kernel
theorem dX3_demandAt_72 : decode cX3_demandAt 72 = .ok (.ireturn, 1) := by decide +kernel
theorem dX3_limit_0 : decode cX3_limit 0 = .ok (.aload_n 0, 1) := by decide +kernel
theorem dX3_limit_1 : decode cX3_limit 1 = .ok (.getfield 28, 3) := by decide +kernel
theorem dX3_limit_4 : decode cX3_limit 4 = .ok (.iload_n 1, 1) := by decide +kernel
theorem dX3_limit_5 : decode cX3_limit 5 = .ok (.aaload, 1) := by decide +kernel
theorem dX3_limit_6 : decode cX3_limit 6 = .ok (.iconst 1, 1) := by decide +kernel
theorem dX3_limit_7 : decode cX3_limit 7 = .ok (.iaload, 1) := by decide +kernel
theorem dX3_limit_8 : decode cX3_limit 8 = .ok (.istore 4, 2) := by decide +kernel
theorem dX3_limit_10 : decode cX3_limit 10 = .ok (.iload_n 3, 1) := by decide +kernel
theorem dX3_limit_11 : decode cX3_limit 11 = .ok (.tableswitch 51 0 2 #[25, 30, 35], 25) := by decide +kernel
theorem dX3_limit_36 : decode cX3_limit 36 = .ok (.iload 4, 2) := by decide +kernel
theorem dX3_limit_38 : decode cX3_limit 38 = .ok (.iload_n 2, 1) := by decide +kernel
theorem dX3_limit_39 : decode cX3_limit 39 = .ok (.isub, 1) := by decide +kernel
theorem dX3_limit_40 : decode cX3_limit 40 = .ok (.ireturn, 1) := by decide +kernel
theorem dX3_limit_41 : decode cX3_limit 41 = .ok (.iload 4, 2) := by decide +kernel
theorem dX3_limit_43 : decode cX3_limit 43 = .ok (.iload_n 2, 1) := by decide +kernel
theorem dX3_limit_44 : decode cX3_limit 44 = .ok (.iadd, 1) := by decide +kernel
theorem dX3_limit_45 : decode cX3_limit 45 = .ok (.ireturn, 1) := by decide +kernel
theorem dX3_limit_46 : decode cX3_limit 46 = .ok (.iconst 0, 1) := by decide +kernel
theorem dX3_limit_47 : decode cX3_limit 47 = .ok (.aload_n 0, 1) := by decide +kernel
theorem dX3_limit_48 : decode cX3_limit 48 = .ok (.getfield 42, 3) := by decide +kernel
theorem dX3_limit_51 : decode cX3_limit 51 = .ok (.iload_n 2, 1) := by decide +kernel
theorem dX3_limit_52 : decode cX3_limit 52 = .ok (.isub, 1) := by decide +kernel
theorem dX3_limit_53 : decode cX3_limit 53 = .ok (.iload 4, 2) := by decide +kernel
theorem dX3_limit_55 : decode cX3_limit 55 = .ok (.invokestatic 45, 3) := by decide +kernel
theorem dX3_limit_58 : decode cX3_limit 58 = .ok (.invokestatic 48, 3) := by decide +kernel
theorem dX3_limit_61 : decode cX3_limit 61 = .ok (.ireturn, 1) := by decide +kernel
theorem dX3_limit_62 : decode cX3_limit 62 = .ok (.aload_n 0, 1) := by decide +kernel
theorem dX3_limit_63 : decode cX3_limit 63 = .ok (.getfield 42, 3) := by decide +kernel
theorem dX3_limit_66 : decode cX3_limit 66 = .ok (.iload_n 2, 1) := by decide +kernel
theorem dX3_limit_67 : decode cX3_limit 67 = .ok (.iadd, 1) := by decide +kernel
theorem dX3_limit_68 : decode cX3_limit 68 = .ok (.iload 4, 2) := by decide +kernel
theorem dX3_limit_70 : decode cX3_limit 70 = .ok (.invokestatic 38, 3) := by decide +kernel
theorem dX3_limit_73 : decode cX3_limit 73 = .ok (.ireturn, 1) := by decide +kernel
theorem dX3_isLawful_0 : decode cX3_isLawful 0 = .ok (.aload_n 0, 1) := by decide +kernel
theorem dX3_isLawful_1 : decode cX3_isLawful 1 = .ok (.aload_n 1, 1) := by decide +kernel
theorem dX3_isLawful_2 : decode cX3_isLawful 2 = .ok (.iload_n 2, 1) := by decide +kernel
theorem dX3_isLawful_3 : decode cX3_isLawful 3 = .ok (.invokevirtual 53, 3) := by decide +kernel
theorem dX3_isLawful_6 : decode cX3_isLawful 6 = .ok (.istore_n 3, 1) := by decide +kernel
theorem dX3_isLawful_7 : decode cX3_isLawful 7 = .ok (.iload_n 3, 1) := by decide +kernel
theorem dX3_isLawful_8 : decode cX3_isLawful 8 = .ok (.iconst (-1), 1) := by decide +kernel
theorem dX3_isLawful_9 : decode cX3_isLawful 9 = .ok (.if_icmp .ne 5, 3) := by decide +kernel
theorem dX3_isLawful_12 : decode cX3_isLawful 12 = .ok (.iconst 0, 1) := by decide +kernel
theorem dX3_isLawful_13 : decode cX3_isLawful 13 = .ok (.ireturn, 1) := by decide +kernel
theorem dX3_isLawful_14 : decode cX3_isLawful 14 = .ok (.aload_n 0, 1) := by decide +kernel
theorem dX3_isLawful_15 : decode cX3_isLawful 15 = .ok (.getfield 9, 3) := by decide +kernel
theorem dX3_isLawful_18 : decode cX3_isLawful 18 = .ok (.iload_n 2, 1) := by decide +kernel
theorem dX3_isLawful_19 : decode cX3_isLawful 19 = .ok (.iaload, 1) := by decide +kernel
theorem dX3_isLawful_20 : decode cX3_isLawful 20 = .ok (.istore 4, 2) := by decide +kernel
theorem dX3_isLawful_22 : decode cX3_isLawful 22 = .ok (.aload_n 1, 1) := by decide +kernel
theorem dX3_isLawful_23 : decode cX3_isLawful 23 = .ok (.getfield 28, 3) := by decide +kernel
theorem dX3_isLawful_26 : decode cX3_isLawful 26 = .ok (.iload 4, 2) := by decide +kernel
theorem dX3_isLawful_28 : decode cX3_isLawful 28 = .ok (.aaload, 1) := by decide +kernel
theorem dX3_isLawful_29 : decode cX3_isLawful 29 = .ok (.astore 5, 2) := by decide +kernel
theorem dX3_isLawful_31 : decode cX3_isLawful 31 = .ok (.iload_n 3, 1) := by decide +kernel
theorem dX3_isLawful_32 : decode cX3_isLawful 32 = .ok (.aload_n 0, 1) := by decide +kernel
theorem dX3_isLawful_33 : decode cX3_isLawful 33 = .ok (.aload_n 1, 1) := by decide +kernel
theorem dX3_isLawful_34 : decode cX3_isLawful 34 = .ok (.iload 4, 2) := by decide +kernel
theorem dX3_isLawful_36 : decode cX3_isLawful 36 = .ok (.iconst 0, 1) := by decide +kernel
theorem dX3_isLawful_37 : decode cX3_isLawful 37 = .ok (.invokevirtual 35, 3) := by decide +kernel
theorem dX3_isLawful_40 : decode cX3_isLawful 40 = .ok (.isub, 1) := by decide +kernel
theorem dX3_isLawful_41 : decode cX3_isLawful 41 = .ok (.istore 6, 2) := by decide +kernel
theorem dX3_isLawful_43 : decode cX3_isLawful 43 = .ok (.aload 5, 2) := by decide +kernel
theorem dX3_isLawful_45 : decode cX3_isLawful 45 = .ok (.iconst 2, 1) := by decide +kernel
theorem dX3_isLawful_46 : decode cX3_isLawful 46 = .ok (.iaload, 1) := by decide +kernel
theorem dX3_isLawful_47 : decode cX3_isLawful 47 = .ok (.aload_n 1, 1) := by decide +kernel
theorem dX3_isLawful_48 : decode cX3_isLawful 48 = .ok (.iload 4, 2) := by decide +kernel
theorem dX3_isLawful_50 : decode cX3_isLawful 50 = .ok (.iload 6, 2) := by decide +kernel
theorem dX3_isLawful_52 : decode cX3_isLawful 52 = .ok (.iconst 0, 1) := by decide +kernel
theorem dX3_isLawful_53 : decode cX3_isLawful 53 = .ok (.invokestatic 57, 3) := by decide +kernel
theorem dX3_isLawful_56 : decode cX3_isLawful 56 = .ok (.if_icmp .gt 55, 3) := by decide +kernel
theorem dX3_isLawful_59 : decode cX3_isLawful 59 = .ok (.aload 5, 2) := by decide +kernel
theorem dX3_isLawful_61 : decode cX3_isLawful 61 = .ok (.iconst 3, 1) := by decide +kernel
theorem dX3_isLawful_62 : decode cX3_isLawful 62 = .ok (.iaload, 1) := by decide +kernel
theorem dX3_isLawful_63 : decode cX3_isLawful 63 = .ok (.aload_n 1, 1) := by decide +kernel
theorem dX3_isLawful_64 : decode cX3_isLawful 64 = .ok (.iload 4, 2) := by decide +kernel
theorem dX3_isLawful_66 : decode cX3_isLawful 66 = .ok (.iload 6, 2) := by decide +kernel
theorem dX3_isLawful_68 : decode cX3_isLawful 68 = .ok (.iconst 1, 1) := by decide +kernel
theorem dX3_isLawful_69 : decode cX3_isLawful 69 = .ok (.invokestatic 57, 3) := by decide +kernel
theorem dX3_isLawful_72 : decode cX3_isLawful 72 = .ok (.if_icmp .lt 39, 3) := by decide +kernel
theorem dX3_isLawful_75 : decode cX3_isLawful 75 = .ok (.aload 5, 2) := by decide +kernel
theorem dX3_isLawful_77 : decode cX3_isLawful 77 = .ok (.iconst 4, 1) := by decide +kernel
theorem dX3_isLawful_78 : decode cX3_isLawful 78 = .ok (.iaload, 1) := by decide +kernel
theorem dX3_isLawful_79 : decode cX3_isLawful 79 = .ok (.aload_n 1, 1) := by decide +kernel
theorem dX3_isLawful_80 : decode cX3_isLawful 80 = .ok (.iload 4, 2) := by decide +kernel
theorem dX3_isLawful_82 : decode cX3_isLawful 82 = .ok (.iload 6, 2) := by decide +kernel
theorem dX3_isLawful_84 : decode cX3_isLawful 84 = .ok (.iconst 2, 1) := by decide +kernel
theorem dX3_isLawful_85 : decode cX3_isLawful 85 = .ok (.invokestatic 57, 3) := by decide +kernel
theorem dX3_isLawful_88 : decode cX3_isLawful 88 = .ok (.if_icmp .gt 23, 3) := by decide +kernel
theorem dX3_isLawful_91 : decode cX3_isLawful 91 = .ok (.aload 5, 2) := by decide +kernel
theorem dX3_isLawful_93 : decode cX3_isLawful 93 = .ok (.iconst 5, 1) := by decide +kernel
theorem dX3_isLawful_94 : decode cX3_isLawful 94 = .ok (.iaload, 1) := by decide +kernel
theorem dX3_isLawful_95 : decode cX3_isLawful 95 = .ok (.aload_n 1, 1) := by decide +kernel
theorem dX3_isLawful_96 : decode cX3_isLawful 96 = .ok (.iload 4, 2) := by decide +kernel
theorem dX3_isLawful_98 : decode cX3_isLawful 98 = .ok (.iload 6, 2) := by decide +kernel
theorem dX3_isLawful_100 : decode cX3_isLawful 100 = .ok (.iconst 3, 1) := by decide +kernel
theorem dX3_isLawful_101 : decode cX3_isLawful 101 = .ok (.invokestatic 57, 3) := by decide +kernel
theorem dX3_isLawful_104 : decode cX3_isLawful 104 = .ok (.if_icmp .lt 7, 3) := by decide +kernel
theorem dX3_isLawful_107 : decode cX3_isLawful 107 = .ok (.iconst 1, 1) := by decide +kernel
theorem dX3_isLawful_108 : decode cX3_isLawful 108 = .ok (.goto 4, 3) := by decide +kernel
theorem dX3_isLawful_111 : decode cX3_isLawful 111 = .ok (.iconst 0, 1) := by decide +kernel
theorem dX3_isLawful_112 : decode cX3_isLawful 112 = .ok (.ireturn, 1) := by decide +kernel
theorem dX3_lawfulBits_0 : decode cX3_lawfulBits 0 = .ok (.aload_n 0, 1) := by decide +kernel
theorem dX3_lawfulBits_1 : decode cX3_lawfulBits 1 = .ok (.aload_n 1, 1) := by decide +kernel
theorem dX3_lawfulBits_2 : decode cX3_lawfulBits 2 = .ok (.getfield 61, 3) := by decide +kernel
theorem dX3_lawfulBits_5 : decode cX3_lawfulBits 5 = .ok (.invokevirtual 64, 3) := by decide +kernel
theorem dX3_lawfulBits_8 : decode cX3_lawfulBits 8 = .ok (.iconst 0, 1) := by decide +kernel
theorem dX3_lawfulBits_9 : decode cX3_lawfulBits 9 = .ok (.istore_n 2, 1) := by decide +kernel
theorem dX3_lawfulBits_10 : decode cX3_lawfulBits 10 = .ok (.iconst 0, 1) := by decide +kernel
theorem dX3_lawfulBits_11 : decode cX3_lawfulBits 11 = .ok (.istore_n 3, 1) := by decide +kernel
theorem dX3_lawfulBits_12 : decode cX3_lawfulBits 12 = .ok (.iload_n 3, 1) := by decide +kernel
theorem dX3_lawfulBits_13 : decode cX3_lawfulBits 13 = .ok (.aload_n 1, 1) := by decide +kernel
theorem dX3_lawfulBits_14 : decode cX3_lawfulBits 14 = .ok (.getfield 61, 3) := by decide +kernel
theorem dX3_lawfulBits_17 : decode cX3_lawfulBits 17 = .ok (.if_icmp .ge 24, 3) := by decide +kernel
theorem dX3_lawfulBits_20 : decode cX3_lawfulBits 20 = .ok (.aload_n 0, 1) := by decide +kernel
theorem dX3_lawfulBits_21 : decode cX3_lawfulBits 21 = .ok (.aload_n 1, 1) := by decide +kernel
theorem dX3_lawfulBits_22 : decode cX3_lawfulBits 22 = .ok (.iload_n 3, 1) := by decide +kernel
theorem dX3_lawfulBits_23 : decode cX3_lawfulBits 23 = .ok (.invokevirtual 68, 3) := by decide +kernel
theorem dX3_lawfulBits_26 : decode cX3_lawfulBits 26 = .ok (.ifCond .eq 9, 3) := by decide +kernel
theorem dX3_lawfulBits_29 : decode cX3_lawfulBits 29 = .ok (.iload_n 2, 1) := by decide +kernel
theorem dX3_lawfulBits_30 : decode cX3_lawfulBits 30 = .ok (.iconst 1, 1) := by decide +kernel
theorem dX3_lawfulBits_31 : decode cX3_lawfulBits 31 = .ok (.iload_n 3, 1) := by decide +kernel
theorem dX3_lawfulBits_32 : decode cX3_lawfulBits 32 = .ok (.ishl, 1) := by decide +kernel
theorem dX3_lawfulBits_33 : decode cX3_lawfulBits 33 = .ok (.ior, 1) := by decide +kernel
theorem dX3_lawfulBits_34 : decode cX3_lawfulBits 34 = .ok (.istore_n 2, 1) := by decide +kernel
theorem dX3_lawfulBits_35 : decode cX3_lawfulBits 35 = .ok (.iinc 3 1, 3) := by decide +kernel
theorem dX3_lawfulBits_38 : decode cX3_lawfulBits 38 = .ok (.goto (-26), 3) := by decide +kernel
theorem dX3_lawfulBits_41 : decode cX3_lawfulBits 41 = .ok (.iload_n 2, 1) := by decide +kernel
theorem dX3_lawfulBits_42 : decode cX3_lawfulBits 42 = .ok (.ireturn, 1) := by decide +kernel
theorem dX3_roomOf_0 : decode cX3_roomOf 0 = .ok (.aload_n 0, 1) := by decide +kernel
theorem dX3_roomOf_1 : decode cX3_roomOf 1 = .ok (.aload_n 1, 1) := by decide +kernel
theorem dX3_roomOf_2 : decode cX3_roomOf 2 = .ok (.invokevirtual 72, 3) := by decide +kernel
theorem dX3_roomOf_5 : decode cX3_roomOf 5 = .ok (.istore_n 3, 1) := by decide +kernel
theorem dX3_roomOf_6 : decode cX3_roomOf 6 = .ok (.iconst 0, 1) := by decide +kernel
theorem dX3_roomOf_7 : decode cX3_roomOf 7 = .ok (.istore 4, 2) := by decide +kernel
theorem dX3_roomOf_9 : decode cX3_roomOf 9 = .ok (.aload_n 0, 1) := by decide +kernel
theorem dX3_roomOf_10 : decode cX3_roomOf 10 = .ok (.iload_n 2, 1) := by decide +kernel
theorem dX3_roomOf_11 : decode cX3_roomOf 11 = .ok (.putfield 15, 3) := by decide +kernel
theorem dX3_roomOf_14 : decode cX3_roomOf 14 = .ok (.bipush 50, 2) := by decide +kernel
theorem dX3_roomOf_16 : decode cX3_roomOf 16 = .ok (.istore 5, 2) := by decide +kernel
theorem dX3_roomOf_18 : decode cX3_roomOf 18 = .ok (.iload 5, 2) := by decide +kernel
theorem dX3_roomOf_20 : decode cX3_roomOf 20 = .ok (.ifCond .le 36, 3) := by decide +kernel
theorem dX3_roomOf_23 : decode cX3_roomOf 23 = .ok (.iload 4, 2) := by decide +kernel
theorem dX3_roomOf_25 : decode cX3_roomOf 25 = .ok (.ifCond .ne 31, 3) := by decide +kernel
theorem dX3_roomOf_28 : decode cX3_roomOf 28 = .ok (.aload_n 0, 1) := by decide +kernel
theorem dX3_roomOf_29 : decode cX3_roomOf 29 = .ok (.iload 5, 2) := by decide +kernel
theorem dX3_roomOf_31 : decode cX3_roomOf 31 = .ok (.putfield 25, 3) := by decide +kernel
theorem dX3_roomOf_34 : decode cX3_roomOf 34 = .ok (.iload_n 3, 1) := by decide +kernel
theorem dX3_roomOf_35 : decode cX3_roomOf 35 = .ok (.aload_n 0, 1) := by decide +kernel
theorem dX3_roomOf_36 : decode cX3_roomOf 36 = .ok (.aload_n 1, 1) := by decide +kernel
theorem dX3_roomOf_37 : decode cX3_roomOf 37 = .ok (.invokevirtual 72, 3) := by decide +kernel
theorem dX3_roomOf_40 : decode cX3_roomOf 40 = .ok (.iconst (-1), 1) := by decide +kernel
theorem dX3_roomOf_41 : decode cX3_roomOf 41 = .ok (.ixor, 1) := by decide +kernel
theorem dX3_roomOf_42 : decode cX3_roomOf 42 = .ok (.iand, 1) := by decide +kernel
theorem dX3_roomOf_43 : decode cX3_roomOf 43 = .ok (.ifCond .ne 7, 3) := by decide +kernel
theorem dX3_roomOf_46 : decode cX3_roomOf 46 = .ok (.iload 5, 2) := by decide +kernel
theorem dX3_roomOf_48 : decode cX3_roomOf 48 = .ok (.istore 4, 2) := by decide +kernel
theorem dX3_roomOf_50 : decode cX3_roomOf 50 = .ok (.iinc 5 (-1), 3) := by decide +kernel
theorem dX3_roomOf_53 : decode cX3_roomOf 53 = .ok (.goto (-35), 3) := by decide +kernel
theorem dX3_roomOf_56 : decode cX3_roomOf 56 = .ok (.aload_n 0, 1) := by decide +kernel
theorem dX3_roomOf_57 : decode cX3_roomOf 57 = .ok (.iconst (-1), 1) := by decide +kernel
theorem dX3_roomOf_58 : decode cX3_roomOf 58 = .ok (.putfield 15, 3) := by decide +kernel
theorem dX3_roomOf_61 : decode cX3_roomOf 61 = .ok (.aload_n 0, 1) := by decide +kernel
theorem dX3_roomOf_62 : decode cX3_roomOf 62 = .ok (.iconst 0, 1) := by decide +kernel
theorem dX3_roomOf_63 : decode cX3_roomOf 63 = .ok (.putfield 25, 3) := by decide +kernel
theorem dX3_roomOf_66 : decode cX3_roomOf 66 = .ok (.iload 4, 2) := by decide +kernel
theorem dX3_roomOf_68 : decode cX3_roomOf 68 = .ok (.ireturn, 1) := by decide +kernel
theorem dX3_countOrders_0 : decode cX3_countOrders 0 = .ok (.iconst 0, 1) := by decide +kernel
theorem dX3_countOrders_1 : decode cX3_countOrders 1 = .ok (.istore_n 2, 1) := by decide +kernel
theorem dX3_countOrders_2 : decode cX3_countOrders 2 = .ok (.aload_n 0, 1) := by decide +kernel
theorem dX3_countOrders_3 : decode cX3_countOrders 3 = .ok (.aload_n 1, 1) := by decide +kernel
theorem dX3_countOrders_4 : decode cX3_countOrders 4 = .ok (.getfield 61, 3) := by decide +kernel
theorem dX3_countOrders_7 : decode cX3_countOrders 7 = .ok (.invokevirtual 64, 3) := by decide +kernel
theorem dX3_countOrders_10 : decode cX3_countOrders 10 = .ok (.iconst 1, 1) := by decide +kernel
theorem dX3_countOrders_11 : decode cX3_countOrders 11 = .ok (.istore_n 3, 1) := by decide +kernel
theorem dX3_countOrders_12 : decode cX3_countOrders 12 = .ok (.iconst 0, 1) := by decide +kernel
theorem dX3_countOrders_13 : decode cX3_countOrders 13 = .ok (.istore 4, 2) := by decide +kernel
theorem dX3_countOrders_15 : decode cX3_countOrders 15 = .ok (.iload 4, 2) := by decide +kernel
theorem dX3_countOrders_17 : decode cX3_countOrders 17 = .ok (.bipush 120, 2) := by decide +kernel
theorem dX3_countOrders_19 : decode cX3_countOrders 19 = .ok (.if_icmp .ge 33, 3) := by decide +kernel
theorem dX3_countOrders_22 : decode cX3_countOrders 22 = .ok (.iload_n 3, 1) := by decide +kernel
theorem dX3_countOrders_23 : decode cX3_countOrders 23 = .ok (.ifCond .eq 29, 3) := by decide +kernel
theorem dX3_countOrders_26 : decode cX3_countOrders 26 = .ok (.aload_n 0, 1) := by decide +kernel
theorem dX3_countOrders_27 : decode cX3_countOrders 27 = .ok (.aload_n 1, 1) := by decide +kernel
theorem dX3_countOrders_28 : decode cX3_countOrders 28 = .ok (.invokevirtual 76, 3) := by decide +kernel
theorem dX3_countOrders_31 : decode cX3_countOrders 31 = .ok (.ifCond .eq 6, 3) := by decide +kernel
theorem dX3_countOrders_34 : decode cX3_countOrders 34 = .ok (.iinc 2 1, 3) := by decide +kernel
theorem dX3_countOrders_37 : decode cX3_countOrders 37 = .ok (.aload_n 0, 1) := by decide +kernel
theorem dX3_countOrders_38 : decode cX3_countOrders 38 = .ok (.aload_n 1, 1) := by decide +kernel
theorem dX3_countOrders_39 : decode cX3_countOrders 39 = .ok (.getfield 61, 3) := by decide +kernel
theorem dX3_countOrders_42 : decode cX3_countOrders 42 = .ok (.invokevirtual 80, 3) := by decide +kernel
theorem dX3_countOrders_45 : decode cX3_countOrders 45 = .ok (.istore_n 3, 1) := by decide +kernel
theorem dX3_countOrders_46 : decode cX3_countOrders 46 = .ok (.iinc 4 1, 3) := by decide +kernel
theorem dX3_countOrders_49 : decode cX3_countOrders 49 = .ok (.goto (-34), 3) := by decide +kernel
theorem dX3_countOrders_52 : decode cX3_countOrders 52 = .ok (.iload_n 2, 1) := by decide +kernel
theorem dX3_countOrders_53 : decode cX3_countOrders 53 = .ok (.ireturn, 1) := by decide +kernel
theorem dX3_findOrder_0 : decode cX3_findOrder 0 = .ok (.aload_n 0, 1) := by decide +kernel
theorem dX3_findOrder_1 : decode cX3_findOrder 1 = .ok (.aload_n 1, 1) := by decide +kernel
theorem dX3_findOrder_2 : decode cX3_findOrder 2 = .ok (.getfield 61, 3) := by decide +kernel
theorem dX3_findOrder_5 : decode cX3_findOrder 5 = .ok (.invokevirtual 64, 3) := by decide +kernel
theorem dX3_findOrder_8 : decode cX3_findOrder 8 = .ok (.iconst 1, 1) := by decide +kernel
theorem dX3_findOrder_9 : decode cX3_findOrder 9 = .ok (.istore_n 2, 1) := by decide +kernel
theorem dX3_findOrder_10 : decode cX3_findOrder 10 = .ok (.iconst 0, 1) := by decide +kernel
theorem dX3_findOrder_11 : decode cX3_findOrder 11 = .ok (.istore_n 3, 1) := by decide +kernel
theorem dX3_findOrder_12 : decode cX3_findOrder 12 = .ok (.iload_n 3, 1) := by decide +kernel
theorem dX3_findOrder_13 : decode cX3_findOrder 13 = .ok (.bipush 120, 2) := by decide +kernel
theorem dX3_findOrder_15 : decode cX3_findOrder 15 = .ok (.if_icmp .ge 32, 3) := by decide +kernel
theorem dX3_findOrder_18 : decode cX3_findOrder 18 = .ok (.iload_n 2, 1) := by decide +kernel
theorem dX3_findOrder_19 : decode cX3_findOrder 19 = .ok (.ifCond .eq 28, 3) := by decide +kernel
theorem dX3_findOrder_22 : decode cX3_findOrder 22 = .ok (.aload_n 0, 1) := by decide +kernel
theorem dX3_findOrder_23 : decode cX3_findOrder 23 = .ok (.aload_n 1, 1) := by decide +kernel
theorem dX3_findOrder_24 : decode cX3_findOrder 24 = .ok (.invokevirtual 76, 3) := by decide +kernel
theorem dX3_findOrder_27 : decode cX3_findOrder 27 = .ok (.ifCond .eq 5, 3) := by decide +kernel
theorem dX3_findOrder_30 : decode cX3_findOrder 30 = .ok (.iconst 1, 1) := by decide +kernel
theorem dX3_findOrder_31 : decode cX3_findOrder 31 = .ok (.ireturn, 1) := by decide +kernel
theorem dX3_findOrder_32 : decode cX3_findOrder 32 = .ok (.aload_n 0, 1) := by decide +kernel
theorem dX3_findOrder_33 : decode cX3_findOrder 33 = .ok (.aload_n 1, 1) := by decide +kernel
theorem dX3_findOrder_34 : decode cX3_findOrder 34 = .ok (.getfield 61, 3) := by decide +kernel
theorem dX3_findOrder_37 : decode cX3_findOrder 37 = .ok (.invokevirtual 80, 3) := by decide +kernel
theorem dX3_findOrder_40 : decode cX3_findOrder 40 = .ok (.istore_n 2, 1) := by decide +kernel
theorem dX3_findOrder_41 : decode cX3_findOrder 41 = .ok (.iinc 3 1, 3) := by decide +kernel
theorem dX3_findOrder_44 : decode cX3_findOrder 44 = .ok (.goto (-32), 3) := by decide +kernel
theorem dX3_findOrder_47 : decode cX3_findOrder 47 = .ok (.iconst 0, 1) := by decide +kernel
theorem dX3_findOrder_48 : decode cX3_findOrder 48 = .ok (.ireturn, 1) := by decide +kernel
theorem dX3_isOrderLawful_0 : decode cX3_isOrderLawful 0 = .ok (.iconst 0, 1) := by decide +kernel
theorem dX3_isOrderLawful_1 : decode cX3_isOrderLawful 1 = .ok (.istore_n 2, 1) := by decide +kernel
theorem dX3_isOrderLawful_2 : decode cX3_isOrderLawful 2 = .ok (.iload_n 2, 1) := by decide +kernel
theorem dX3_isOrderLawful_3 : decode cX3_isOrderLawful 3 = .ok (.aload_n 1, 1) := by decide +kernel
theorem dX3_isOrderLawful_4 : decode cX3_isOrderLawful 4 = .ok (.getfield 61, 3) := by decide +kernel
theorem dX3_isOrderLawful_7 : decode cX3_isOrderLawful 7 = .ok (.if_icmp .ge 20, 3) := by decide +kernel
theorem dX3_isOrderLawful_10 : decode cX3_isOrderLawful 10 = .ok (.aload_n 0, 1) := by decide +kernel
theorem dX3_isOrderLawful_11 : decode cX3_isOrderLawful 11 = .ok (.aload_n 1, 1) := by decide +kernel
theorem dX3_isOrderLawful_12 : decode cX3_isOrderLawful 12 = .ok (.iload_n 2, 1) := by decide +kernel
theorem dX3_isOrderLawful_13 : decode cX3_isOrderLawful 13 = .ok (.invokevirtual 68, 3) := by decide +kernel
theorem dX3_isOrderLawful_16 : decode cX3_isOrderLawful 16 = .ok (.ifCond .ne 5, 3) := by decide +kernel
theorem dX3_isOrderLawful_19 : decode cX3_isOrderLawful 19 = .ok (.iconst 0, 1) := by decide +kernel
theorem dX3_isOrderLawful_20 : decode cX3_isOrderLawful 20 = .ok (.ireturn, 1) := by decide +kernel
theorem dX3_isOrderLawful_21 : decode cX3_isOrderLawful 21 = .ok (.iinc 2 1, 3) := by decide +kernel
theorem dX3_isOrderLawful_24 : decode cX3_isOrderLawful 24 = .ok (.goto (-22), 3) := by decide +kernel
theorem dX3_isOrderLawful_27 : decode cX3_isOrderLawful 27 = .ok (.iconst 1, 1) := by decide +kernel
theorem dX3_isOrderLawful_28 : decode cX3_isOrderLawful 28 = .ok (.ireturn, 1) := by decide +kernel
theorem dX3_nextOrder_0 : decode cX3_nextOrder 0 = .ok (.iload_n 1, 1) := by decide +kernel
theorem dX3_nextOrder_1 : decode cX3_nextOrder 1 = .ok (.iconst 2, 1) := by decide +kernel
theorem dX3_nextOrder_2 : decode cX3_nextOrder 2 = .ok (.isub, 1) := by decide +kernel
theorem dX3_nextOrder_3 : decode cX3_nextOrder 3 = .ok (.istore_n 2, 1) := by decide +kernel
theorem dX3_nextOrder_4 : decode cX3_nextOrder 4 = .ok (.iload_n 2, 1) := by decide +kernel
theorem dX3_nextOrder_5 : decode cX3_nextOrder 5 = .ok (.ifCond .lt 26, 3) := by decide +kernel
theorem dX3_nextOrder_8 : decode cX3_nextOrder 8 = .ok (.aload_n 0, 1) := by decide +kernel
theorem dX3_nextOrder_9 : decode cX3_nextOrder 9 = .ok (.getfield 9, 3) := by decide +kernel
theorem dX3_nextOrder_12 : decode cX3_nextOrder 12 = .ok (.iload_n 2, 1) := by decide +kernel
theorem dX3_nextOrder_13 : decode cX3_nextOrder 13 = .ok (.iaload, 1) := by decide +kernel
theorem dX3_nextOrder_14 : decode cX3_nextOrder 14 = .ok (.aload_n 0, 1) := by decide +kernel
theorem dX3_nextOrder_15 : decode cX3_nextOrder 15 = .ok (.getfield 9, 3) := by decide +kernel
theorem dX3_nextOrder_18 : decode cX3_nextOrder 18 = .ok (.iload_n 2, 1) := by decide +kernel
theorem dX3_nextOrder_19 : decode cX3_nextOrder 19 = .ok (.iconst 1, 1) := by decide +kernel
theorem dX3_nextOrder_20 : decode cX3_nextOrder 20 = .ok (.iadd, 1) := by decide +kernel
theorem dX3_nextOrder_21 : decode cX3_nextOrder 21 = .ok (.iaload, 1) := by decide +kernel
theorem dX3_nextOrder_22 : decode cX3_nextOrder 22 = .ok (.if_icmp .le 9, 3) := by decide +kernel
theorem dX3_nextOrder_25 : decode cX3_nextOrder 25 = .ok (.iinc 2 (-1), 3) := by decide +kernel
theorem dX3_nextOrder_28 : decode cX3_nextOrder 28 = .ok (.goto (-24), 3) := by decide +kernel
theorem dX3_nextOrder_31 : decode cX3_nextOrder 31 = .ok (.iload_n 2, 1) := by decide +kernel
theorem dX3_nextOrder_32 : decode cX3_nextOrder 32 = .ok (.ifCond .ge 5, 3) := by decide +kernel
theorem dX3_nextOrder_35 : decode cX3_nextOrder 35 = .ok (.iconst 0, 1) := by decide +kernel
theorem dX3_nextOrder_36 : decode cX3_nextOrder 36 = .ok (.ireturn, 1) := by decide +kernel
theorem dX3_nextOrder_37 : decode cX3_nextOrder 37 = .ok (.iload_n 1, 1) := by decide +kernel
theorem dX3_nextOrder_38 : decode cX3_nextOrder 38 = .ok (.iconst 1, 1) := by decide +kernel
theorem dX3_nextOrder_39 : decode cX3_nextOrder 39 = .ok (.isub, 1) := by decide +kernel
theorem dX3_nextOrder_40 : decode cX3_nextOrder 40 = .ok (.istore_n 3, 1) := by decide +kernel
theorem dX3_nextOrder_41 : decode cX3_nextOrder 41 = .ok (.iload_n 3, 1) := by decide +kernel
theorem dX3_nextOrder_42 : decode cX3_nextOrder 42 = .ok (.iload_n 2, 1) := by decide +kernel
theorem dX3_nextOrder_43 : decode cX3_nextOrder 43 = .ok (.iconst 1, 1) := by decide +kernel
theorem dX3_nextOrder_44 : decode cX3_nextOrder 44 = .ok (.iadd, 1) := by decide +kernel
theorem dX3_nextOrder_45 : decode cX3_nextOrder 45 = .ok (.if_icmp .le 24, 3) := by decide +kernel
theorem dX3_nextOrder_48 : decode cX3_nextOrder 48 = .ok (.aload_n 0, 1) := by decide +kernel
theorem dX3_nextOrder_49 : decode cX3_nextOrder 49 = .ok (.getfield 9, 3) := by decide +kernel
theorem dX3_nextOrder_52 : decode cX3_nextOrder 52 = .ok (.iload_n 3, 1) := by decide +kernel
theorem dX3_nextOrder_53 : decode cX3_nextOrder 53 = .ok (.iaload, 1) := by decide +kernel
theorem dX3_nextOrder_54 : decode cX3_nextOrder 54 = .ok (.aload_n 0, 1) := by decide +kernel
theorem dX3_nextOrder_55 : decode cX3_nextOrder 55 = .ok (.getfield 9, 3) := by decide +kernel
theorem dX3_nextOrder_58 : decode cX3_nextOrder 58 = .ok (.iload_n 2, 1) := by decide +kernel
theorem dX3_nextOrder_59 : decode cX3_nextOrder 59 = .ok (.iaload, 1) := by decide +kernel
theorem dX3_nextOrder_60 : decode cX3_nextOrder 60 = .ok (.if_icmp .ge 9, 3) := by decide +kernel
theorem dX3_nextOrder_63 : decode cX3_nextOrder 63 = .ok (.iinc 3 (-1), 3) := by decide +kernel
theorem dX3_nextOrder_66 : decode cX3_nextOrder 66 = .ok (.goto (-25), 3) := by decide +kernel
theorem dX3_nextOrder_69 : decode cX3_nextOrder 69 = .ok (.aload_n 0, 1) := by decide +kernel
theorem dX3_nextOrder_70 : decode cX3_nextOrder 70 = .ok (.iload_n 2, 1) := by decide +kernel
theorem dX3_nextOrder_71 : decode cX3_nextOrder 71 = .ok (.iload_n 3, 1) := by decide +kernel
theorem dX3_nextOrder_72 : decode cX3_nextOrder 72 = .ok (.invokevirtual 84, 3) := by decide +kernel
theorem dX3_nextOrder_75 : decode cX3_nextOrder 75 = .ok (.iload_n 2, 1) := by decide +kernel
theorem dX3_nextOrder_76 : decode cX3_nextOrder 76 = .ok (.iconst 1, 1) := by decide +kernel
theorem dX3_nextOrder_77 : decode cX3_nextOrder 77 = .ok (.iadd, 1) := by decide +kernel
theorem dX3_nextOrder_78 : decode cX3_nextOrder 78 = .ok (.istore 4, 2) := by decide +kernel
theorem dX3_nextOrder_80 : decode cX3_nextOrder 80 = .ok (.iload_n 1, 1) := by decide +kernel
theorem dX3_nextOrder_81 : decode cX3_nextOrder 81 = .ok (.iconst 1, 1) := by decide +kernel
theorem dX3_nextOrder_82 : decode cX3_nextOrder 82 = .ok (.isub, 1) := by decide +kernel
theorem dX3_nextOrder_83 : decode cX3_nextOrder 83 = .ok (.istore 5, 2) := by decide +kernel
theorem dX3_nextOrder_85 : decode cX3_nextOrder 85 = .ok (.iload 4, 2) := by decide +kernel
theorem dX3_nextOrder_87 : decode cX3_nextOrder 87 = .ok (.iload 5, 2) := by decide +kernel
theorem dX3_nextOrder_89 : decode cX3_nextOrder 89 = .ok (.if_icmp .ge 20, 3) := by decide +kernel
theorem dX3_nextOrder_92 : decode cX3_nextOrder 92 = .ok (.aload_n 0, 1) := by decide +kernel
theorem dX3_nextOrder_93 : decode cX3_nextOrder 93 = .ok (.iload 4, 2) := by decide +kernel
theorem dX3_nextOrder_95 : decode cX3_nextOrder 95 = .ok (.iload 5, 2) := by decide +kernel
theorem dX3_nextOrder_97 : decode cX3_nextOrder 97 = .ok (.invokevirtual 84, 3) := by decide +kernel
theorem dX3_nextOrder_100 : decode cX3_nextOrder 100 = .ok (.iinc 4 1, 3) := by decide +kernel
theorem dX3_nextOrder_103 : decode cX3_nextOrder 103 = .ok (.iinc 5 (-1), 3) := by decide +kernel
theorem dX3_nextOrder_106 : decode cX3_nextOrder 106 = .ok (.goto (-21), 3) := by decide +kernel
theorem dX3_nextOrder_109 : decode cX3_nextOrder 109 = .ok (.iconst 1, 1) := by decide +kernel
theorem dX3_nextOrder_110 : decode cX3_nextOrder 110 = .ok (.ireturn, 1) := by decide +kernel
theorem dX3_swap_0 : decode cX3_swap 0 = .ok (.aload_n 0, 1) := by decide +kernel
theorem dX3_swap_1 : decode cX3_swap 1 = .ok (.getfield 9, 3) := by decide +kernel
theorem dX3_swap_4 : decode cX3_swap 4 = .ok (.iload_n 1, 1) := by decide +kernel
theorem dX3_swap_5 : decode cX3_swap 5 = .ok (.iaload, 1) := by decide +kernel
theorem dX3_swap_6 : decode cX3_swap 6 = .ok (.istore_n 3, 1) := by decide +kernel
theorem dX3_swap_7 : decode cX3_swap 7 = .ok (.aload_n 0, 1) := by decide +kernel
theorem dX3_swap_8 : decode cX3_swap 8 = .ok (.getfield 9, 3) := by decide +kernel
theorem dX3_swap_11 : decode cX3_swap 11 = .ok (.iload_n 1, 1) := by decide +kernel
theorem dX3_swap_12 : decode cX3_swap 12 = .ok (.aload_n 0, 1) := by decide +kernel
theorem dX3_swap_13 : decode cX3_swap 13 = .ok (.getfield 9, 3) := by decide +kernel
theorem dX3_swap_16 : decode cX3_swap 16 = .ok (.iload_n 2, 1) := by decide +kernel
theorem dX3_swap_17 : decode cX3_swap 17 = .ok (.iaload, 1) := by decide +kernel
theorem dX3_swap_18 : decode cX3_swap 18 = .ok (.iastore, 1) := by decide +kernel
theorem dX3_swap_19 : decode cX3_swap 19 = .ok (.aload_n 0, 1) := by decide +kernel
theorem dX3_swap_20 : decode cX3_swap 20 = .ok (.getfield 9, 3) := by decide +kernel
theorem dX3_swap_23 : decode cX3_swap 23 = .ok (.iload_n 2, 1) := by decide +kernel
theorem dX3_swap_24 : decode cX3_swap 24 = .ok (.iload_n 3, 1) := by decide +kernel
theorem dX3_swap_25 : decode cX3_swap 25 = .ok (.iastore, 1) := by decide +kernel
theorem dX3_swap_26 : decode cX3_swap 26 = .ok (.return_, 1) := by decide +kernel
theorem dX3_loadOf_0 : decode cX3_loadOf 0 = .ok (.fconst 0, 1) := by decide +kernel
theorem dX3_loadOf_1 : decode cX3_loadOf 1 = .ok (.fstore_n 1, 1) := by decide +kernel
theorem dX3_loadOf_2 : decode cX3_loadOf 2 = .ok (.iconst 0, 1) := by decide +kernel
theorem dX3_loadOf_3 : decode cX3_loadOf 3 = .ok (.istore_n 2, 1) := by decide +kernel
theorem dX3_loadOf_4 : decode cX3_loadOf 4 = .ok (.iload_n 2, 1) := by decide +kernel
theorem dX3_loadOf_5 : decode cX3_loadOf 5 = .ok (.aload_n 0, 1) := by decide +kernel
theorem dX3_loadOf_6 : decode cX3_loadOf 6 = .ok (.getfield 61, 3) := by decide +kernel
theorem dX3_loadOf_9 : decode cX3_loadOf 9 = .ok (.if_icmp .ge 37, 3) := by decide +kernel
theorem dX3_loadOf_12 : decode cX3_loadOf 12 = .ok (.aload_n 0, 1) := by decide +kernel
theorem dX3_loadOf_13 : decode cX3_loadOf 13 = .ok (.getfield 28, 3) := by decide +kernel
theorem dX3_loadOf_16 : decode cX3_loadOf 16 = .ok (.iload_n 2, 1) := by decide +kernel
theorem dX3_loadOf_17 : decode cX3_loadOf 17 = .ok (.aaload, 1) := by decide +kernel
theorem dX3_loadOf_18 : decode cX3_loadOf 18 = .ok (.iconst 1, 1) := by decide +kernel
theorem dX3_loadOf_19 : decode cX3_loadOf 19 = .ok (.iaload, 1) := by decide +kernel
theorem dX3_loadOf_20 : decode cX3_loadOf 20 = .ok (.istore_n 3, 1) := by decide +kernel
theorem dX3_loadOf_21 : decode cX3_loadOf 21 = .ok (.iload_n 3, 1) := by decide +kernel
theorem dX3_loadOf_22 : decode cX3_loadOf 22 = .ok (.ifCond .le 18, 3) := by decide +kernel
theorem dX3_loadOf_25 : decode cX3_loadOf 25 = .ok (.fload_n 1, 1) := by decide +kernel
theorem dX3_loadOf_26 : decode cX3_loadOf 26 = .ok (.aload_n 0, 1) := by decide +kernel
theorem dX3_loadOf_27 : decode cX3_loadOf 27 = .ok (.getfield 19, 3) := by decide +kernel
theorem dX3_loadOf_30 : decode cX3_loadOf 30 = .ok (.iload_n 2, 1) := by decide +kernel
theorem dX3_loadOf_31 : decode cX3_loadOf 31 = .ok (.aaload, 1) := by decide +kernel
theorem dX3_loadOf_32 : decode cX3_loadOf 32 = .ok (.iconst 1, 1) := by decide +kernel
theorem dX3_loadOf_33 : decode cX3_loadOf 33 = .ok (.iaload, 1) := by decide +kernel
theorem dX3_loadOf_34 : decode cX3_loadOf 34 = .ok (.i2f, 1) := by decide +kernel
theorem dX3_loadOf_35 : decode cX3_loadOf 35 = .ok (.iload_n 3, 1) := by decide +kernel
theorem dX3_loadOf_36 : decode cX3_loadOf 36 = .ok (.i2f, 1) := by decide +kernel
theorem dX3_loadOf_37 : decode cX3_loadOf 37 = .ok (.fdiv, 1) := by decide +kernel
theorem dX3_loadOf_38 : decode cX3_loadOf 38 = .ok (.fadd, 1) := by decide +kernel
theorem dX3_loadOf_39 : decode cX3_loadOf 39 = .ok (.fstore_n 1, 1) := by decide +kernel
theorem dX3_loadOf_40 : decode cX3_loadOf 40 = .ok (.iinc 2 1, 3) := by decide +kernel
theorem dX3_loadOf_43 : decode cX3_loadOf 43 = .ok (.goto (-39), 3) := by decide +kernel
theorem dX3_loadOf_46 : decode cX3_loadOf 46 = .ok (.fload_n 1, 1) := by decide +kernel
theorem dX3_loadOf_47 : decode cX3_loadOf 47 = .ok (.freturn, 1) := by decide +kernel
theorem dX4_init_0 : decode cX4_init 0 = .ok (.aload_n 0, 1) := by decide +kernel
theorem dX4_init_1 : decode cX4_init 1 = .ok (.invokespecial 3, 3) := by decide +kernel
theorem dX4_init_4 : decode cX4_init 4 = .ok (.aload_n 0, 1) := by decide +kernel
theorem dX4_init_5 : decode cX4_init 5 = .ok (.sipush 128, 3) := by decide +kernel
theorem dX4_init_8 : decode cX4_init 8 = .ok (.iconst 4, 1) := by decide +kernel
theorem dX4_init_9 : decode cX4_init 9 = .ok (.multianewarray 11 2, 4) := by decide +kernel
theorem dX4_init_13 : decode cX4_init 13 = .ok (.putfield 13, 3) := by decide +kernel
theorem dX4_init_16 : decode cX4_init 16 = .ok (.return_, 1) := by decide +kernel
theorem dX4_add_0 : decode cX4_add 0 = .ok (.aload_n 0, 1) := by decide +kernel
theorem dX4_add_1 : decode cX4_add 1 = .ok (.getfield 16, 3) := by decide +kernel
theorem dX4_add_4 : decode cX4_add 4 = .ok (.sipush 128, 3) := by decide +kernel
theorem dX4_add_7 : decode cX4_add 7 = .ok (.if_icmp .lt 4, 3) := by decide +kernel
theorem dX4_add_10 : decode cX4_add 10 = .ok (.return_, 1) := by decide +kernel
theorem dX4_add_11 : decode cX4_add 11 = .ok (.aload_n 0, 1) := by decide +kernel
theorem dX4_add_12 : decode cX4_add 12 = .ok (.getfield 13, 3) := by decide +kernel
theorem dX4_add_15 : decode cX4_add 15 = .ok (.aload_n 0, 1) := by decide +kernel
theorem dX4_add_16 : decode cX4_add 16 = .ok (.getfield 16, 3) := by decide +kernel
theorem dX4_add_19 : decode cX4_add 19 = .ok (.aaload, 1) := by decide +kernel
theorem dX4_add_20 : decode cX4_add 20 = .ok (.astore 5, 2) := by decide +kernel
theorem dX4_add_22 : decode cX4_add 22 = .ok (.aload 5, 2) := by decide +kernel
theorem dX4_add_24 : decode cX4_add 24 = .ok (.iconst 0, 1) := by decide +kernel
theorem dX4_add_25 : decode cX4_add 25 = .ok (.iload_n 1, 1) := by decide +kernel
theorem dX4_add_26 : decode cX4_add 26 = .ok (.iastore, 1) := by decide +kernel
theorem dX4_add_27 : decode cX4_add 27 = .ok (.aload 5, 2) := by decide +kernel
theorem dX4_add_29 : decode cX4_add 29 = .ok (.iconst 1, 1) := by decide +kernel
theorem dX4_add_30 : decode cX4_add 30 = .ok (.iload_n 2, 1) := by decide +kernel
theorem dX4_add_31 : decode cX4_add 31 = .ok (.iastore, 1) := by decide +kernel
theorem dX4_add_32 : decode cX4_add 32 = .ok (.aload 5, 2) := by decide +kernel
theorem dX4_add_34 : decode cX4_add 34 = .ok (.iconst 2, 1) := by decide +kernel
theorem dX4_add_35 : decode cX4_add 35 = .ok (.iload_n 3, 1) := by decide +kernel
theorem dX4_add_36 : decode cX4_add 36 = .ok (.iastore, 1) := by decide +kernel
theorem dX4_add_37 : decode cX4_add 37 = .ok (.aload 5, 2) := by decide +kernel
theorem dX4_add_39 : decode cX4_add 39 = .ok (.iconst 3, 1) := by decide +kernel
theorem dX4_add_40 : decode cX4_add 40 = .ok (.iload 4, 2) := by decide +kernel
theorem dX4_add_42 : decode cX4_add 42 = .ok (.iastore, 1) := by decide +kernel
theorem dX4_add_43 : decode cX4_add 43 = .ok (.aload_n 0, 1) := by decide +kernel
theorem dX4_add_44 : decode cX4_add 44 = .ok (.dup, 1) := by decide +kernel
theorem dX4_add_45 : decode cX4_add 45 = .ok (.getfield 16, 3) := by decide +kernel
theorem dX4_add_48 : decode cX4_add 48 = .ok (.iconst 1, 1) := by decide +kernel
theorem dX4_add_49 : decode cX4_add 49 = .ok (.iadd, 1) := by decide +kernel
theorem dX4_add_50 : decode cX4_add 50 = .ok (.putfield 16, 3) := by decide +kernel
theorem dX4_add_53 : decode cX4_add 53 = .ok (.return_, 1) := by decide +kernel
theorem dX4_copyFrom_0 : decode cX4_copyFrom 0 = .ok (.aload_n 0, 1) := by decide +kernel
theorem dX4_copyFrom_1 : decode cX4_copyFrom 1 = .ok (.aload_n 1, 1) := by decide +kernel
theorem dX4_copyFrom_2 : decode cX4_copyFrom 2 = .ok (.getfield 16, 3) := by decide +kernel
theorem dX4_copyFrom_5 : decode cX4_copyFrom 5 = .ok (.putfield 16, 3) := by decide +kernel
theorem dX4_copyFrom_8 : decode cX4_copyFrom 8 = .ok (.iconst 0, 1) := by decide +kernel
theorem dX4_copyFrom_9 : decode cX4_copyFrom 9 = .ok (.istore_n 2, 1) := by decide +kernel
theorem dX4_copyFrom_10 : decode cX4_copyFrom 10 = .ok (.iload_n 2, 1) := by decide +kernel
theorem dX4_copyFrom_11 : decode cX4_copyFrom 11 = .ok (.aload_n 0, 1) := by decide +kernel
theorem dX4_copyFrom_12 : decode cX4_copyFrom 12 = .ok (.getfield 16, 3) := by decide +kernel
theorem dX4_copyFrom_15 : decode cX4_copyFrom 15 = .ok (.if_icmp .ge 27, 3) := by decide +kernel
theorem dX4_copyFrom_18 : decode cX4_copyFrom 18 = .ok (.aload_n 1, 1) := by decide +kernel
theorem dX4_copyFrom_19 : decode cX4_copyFrom 19 = .ok (.getfield 13, 3) := by decide +kernel
theorem dX4_copyFrom_22 : decode cX4_copyFrom 22 = .ok (.iload_n 2, 1) := by decide +kernel
theorem dX4_copyFrom_23 : decode cX4_copyFrom 23 = .ok (.aaload, 1) := by decide +kernel
theorem dX4_copyFrom_24 : decode cX4_copyFrom 24 = .ok (.iconst 0, 1) := by decide +kernel
theorem dX4_copyFrom_25 : decode cX4_copyFrom 25 = .ok (.aload_n 0, 1) := by decide +kernel
theorem dX4_copyFrom_26 : decode cX4_copyFrom 26 = .ok (.getfield 13, 3) := by decide +kernel
theorem dX4_copyFrom_29 : decode cX4_copyFrom 29 = .ok (.iload_n 2, 1) := by decide +kernel
theorem dX4_copyFrom_30 : decode cX4_copyFrom 30 = .ok (.aaload, 1) := by decide +kernel
theorem dX4_copyFrom_31 : decode cX4_copyFrom 31 = .ok (.iconst 0, 1) := by decide +kernel
theorem dX4_copyFrom_32 : decode cX4_copyFrom 32 = .ok (.iconst 4, 1) := by decide +kernel
theorem dX4_copyFrom_33 : decode cX4_copyFrom 33 = .ok (.invokestatic 20, 3) := by decide +kernel
theorem dX4_copyFrom_36 : decode cX4_copyFrom 36 = .ok (.iinc 2 1, 3) := by decide +kernel
theorem dX4_copyFrom_39 : decode cX4_copyFrom 39 = .ok (.goto (-29), 3) := by decide +kernel
theorem dX4_copyFrom_42 : decode cX4_copyFrom 42 = .ok (.return_, 1) := by decide +kernel
theorem dX4_countAhead_0 : decode cX4_countAhead 0 = .ok (.iconst 0, 1) := by decide +kernel
theorem dX4_countAhead_1 : decode cX4_countAhead 1 = .ok (.istore_n 2, 1) := by decide +kernel
theorem dX4_countAhead_2 : decode cX4_countAhead 2 = .ok (.iconst 0, 1) := by decide +kernel
theorem dX4_countAhead_3 : decode cX4_countAhead 3 = .ok (.istore_n 3, 1) := by decide +kernel
theorem dX4_countAhead_4 : decode cX4_countAhead 4 = .ok (.iload_n 3, 1) := by decide +kernel
theorem dX4_countAhead_5 : decode cX4_countAhead 5 = .ok (.aload_n 0, 1) := by decide +kernel
theorem dX4_countAhead_6 : decode cX4_countAhead 6 = .ok (.getfield 16, 3) := by decide +kernel
theorem dX4_countAhead_9 : decode cX4_countAhead 9 = .ok (.if_icmp .ge 24, 3) := by decide +kernel
theorem dX4_countAhead_12 : decode cX4_countAhead 12 = .ok (.aload_n 0, 1) := by decide +kernel
theorem dX4_countAhead_13 : decode cX4_countAhead 13 = .ok (.getfield 13, 3) := by decide +kernel
theorem dX4_countAhead_16 : decode cX4_countAhead 16 = .ok (.iload_n 3, 1) := by decide +kernel
theorem dX4_countAhead_17 : decode cX4_countAhead 17 = .ok (.aaload, 1) := by decide +kernel
theorem dX4_countAhead_18 : decode cX4_countAhead 18 = .ok (.iconst 0, 1) := by decide +kernel
theorem dX4_countAhead_19 : decode cX4_countAhead 19 = .ok (.iaload, 1) := by decide +kernel
theorem dX4_countAhead_20 : decode cX4_countAhead 20 = .ok (.iload_n 1, 1) := by decide +kernel
theorem dX4_countAhead_21 : decode cX4_countAhead 21 = .ok (.if_icmp .ge 6, 3) := by decide +kernel
theorem dX4_countAhead_24 : decode cX4_countAhead 24 = .ok (.iinc 2 1, 3) := by decide +kernel
theorem dX4_countAhead_27 : decode cX4_countAhead 27 = .ok (.iinc 3 1, 3) := by decide +kernel
theorem dX4_countAhead_30 : decode cX4_countAhead 30 = .ok (.goto (-26), 3) := by decide +kernel
theorem dX4_countAhead_33 : decode cX4_countAhead 33 = .ok (.iload_n 2, 1) := by decide +kernel
theorem dX4_countAhead_34 : decode cX4_countAhead 34 = .ok (.ireturn, 1) := by decide +kernel
theorem dX4_countKind_0 : decode cX4_countKind 0 = .ok (.iconst 0, 1) := by decide +kernel
theorem dX4_countKind_1 : decode cX4_countKind 1 = .ok (.istore_n 2, 1) := by decide +kernel
theorem dX4_countKind_2 : decode cX4_countKind 2 = .ok (.iconst 0, 1) := by decide +kernel
theorem dX4_countKind_3 : decode cX4_countKind 3 = .ok (.istore_n 3, 1) := by decide +kernel
theorem dX4_countKind_4 : decode cX4_countKind 4 = .ok (.iload_n 3, 1) := by decide +kernel
theorem dX4_countKind_5 : decode cX4_countKind 5 = .ok (.aload_n 0, 1) := by decide +kernel
theorem dX4_countKind_6 : decode cX4_countKind 6 = .ok (.getfield 16, 3) := by decide +kernel
theorem dX4_countKind_9 : decode cX4_countKind 9 = .ok (.if_icmp .ge 24, 3) := by decide +kernel
theorem dX4_countKind_12 : decode cX4_countKind 12 = .ok (.aload_n 0, 1) := by decide +kernel
theorem dX4_countKind_13 : decode cX4_countKind 13 = .ok (.getfield 13, 3) := by decide +kernel
theorem dX4_countKind_16 : decode cX4_countKind 16 = .ok (.iload_n 3, 1) := by decide +kernel
theorem dX4_countKind_17 : decode cX4_countKind 17 = .ok (.aaload, 1) := by decide +kernel
theorem dX4_countKind_18 : decode cX4_countKind 18 = .ok (.iconst 1, 1) := by decide +kernel
theorem dX4_countKind_19 : decode cX4_countKind 19 = .ok (.iaload, 1) := by decide +kernel
theorem dX4_countKind_20 : decode cX4_countKind 20 = .ok (.iload_n 1, 1) := by decide +kernel
theorem dX4_countKind_21 : decode cX4_countKind 21 = .ok (.if_icmp .ne 6, 3) := by decide +kernel
theorem dX4_countKind_24 : decode cX4_countKind 24 = .ok (.iinc 2 1, 3) := by decide +kernel
theorem dX4_countKind_27 : decode cX4_countKind 27 = .ok (.iinc 3 1, 3) := by decide +kernel
theorem dX4_countKind_30 : decode cX4_countKind 30 = .ok (.goto (-26), 3) := by decide +kernel
theorem dX4_countKind_33 : decode cX4_countKind 33 = .ok (.iload_n 2, 1) := by decide +kernel
theorem dX4_countKind_34 : decode cX4_countKind 34 = .ok (.ireturn, 1) := by decide +kernel
theorem dX4_countLevelAhead_0 : decode cX4_countLevelAhead 0 = .ok (.iconst 0, 1) := by decide +kernel
theorem dX4_countLevelAhead_1 : decode cX4_countLevelAhead 1 = .ok (.istore_n 3, 1) := by decide +kernel
theorem dX4_countLevelAhead_2 : decode cX4_countLevelAhead 2 = .ok (.iconst 0, 1) := by decide +kernel
theorem dX4_countLevelAhead_3 : decode cX4_countLevelAhead 3 = .ok (.istore 4, 2) := by decide +kernel
theorem dX4_countLevelAhead_5 : decode cX4_countLevelAhead 5 = .ok (.iload 4, 2) := by decide +kernel
theorem dX4_countLevelAhead_7 : decode cX4_countLevelAhead 7 = .ok (.aload_n 0, 1) := by decide +kernel
theorem dX4_countLevelAhead_8 : decode cX4_countLevelAhead 8 = .ok (.getfield 16, 3) := by decide +kernel
theorem dX4_countLevelAhead_11 : decode cX4_countLevelAhead 11 = .ok (.if_icmp .ge 38, 3) := by decide +kernel
theorem dX4_countLevelAhead_14 : decode cX4_countLevelAhead 14 = .ok (.aload_n 0, 1) := by decide +kernel
theorem dX4_countLevelAhead_15 : decode cX4_countLevelAhead 15 = .ok (.getfield 13, 3) := by decide +kernel
theorem dX4_countLevelAhead_18 : decode cX4_countLevelAhead 18 = .ok (.iload 4, 2) := by decide +kernel
theorem dX4_countLevelAhead_20 : decode cX4_countLevelAhead 20 = .ok (.aaload, 1) := by decide +kernel
theorem dX4_countLevelAhead_21 : decode cX4_countLevelAhead 21 = .ok (.iconst 3, 1) := by decide +kernel
theorem dX4_countLevelAhead_22 : decode cX4_countLevelAhead 22 = .ok (.iaload, 1) := by decide +kernel
theorem dX4_countLevelAhead_23 : decode cX4_countLevelAhead 23 = .ok (.iload_n 1, 1) := by decide +kernel
theorem dX4_countLevelAhead_24 : decode cX4_countLevelAhead 24 = .ok (.if_icmp .ne 19, 3) := by decide +kernel
theorem dX4_countLevelAhead_27 : decode cX4_countLevelAhead 27 = .ok (.aload_n 0, 1) := by decide +kernel
theorem dX4_countLevelAhead_28 : decode cX4_countLevelAhead 28 = .ok (.getfield 13, 3) := by decide +kernel
theorem dX4_countLevelAhead_31 : decode cX4_countLevelAhead 31 = .ok (.iload 4, 2) := by decide +kernel
theorem dX4_countLevelAhead_33 : decode cX4_countLevelAhead 33 = .ok (.aaload, 1) := by decide +kernel
theorem dX4_countLevelAhead_34 : decode cX4_countLevelAhead 34 = .ok (.iconst 0, 1) := by decide +kernel
theorem dX4_countLevelAhead_35 : decode cX4_countLevelAhead 35 = .ok (.iaload, 1) := by decide +kernel
theorem dX4_countLevelAhead_36 : decode cX4_countLevelAhead 36 = .ok (.iload_n 2, 1) := by decide +kernel
theorem dX4_countLevelAhead_37 : decode cX4_countLevelAhead 37 = .ok (.if_icmp .ge 6, 3) := by decide +kernel
theorem dX4_countLevelAhead_40 : decode cX4_countLevelAhead 40 = .ok (.iinc 3 1, 3) := by decide +kernel
theorem dX4_countLevelAhead_43 : decode cX4_countLevelAhead 43 = .ok (.iinc 4 1, 3) := by decide +kernel
theorem dX4_countLevelAhead_46 : decode cX4_countLevelAhead 46 = .ok (.goto (-41), 3) := by decide +kernel
theorem dX4_countLevelAhead_49 : decode cX4_countLevelAhead 49 = .ok (.iload_n 3, 1) := by decide +kernel
theorem dX4_countLevelAhead_50 : decode cX4_countLevelAhead 50 = .ok (.ireturn, 1) := by decide +kernel
theorem dX4_delayFrom_0 : decode cX4_delayFrom 0 = .ok (.iconst 0, 1) := by decide +kernel
theorem dX4_delayFrom_1 : decode cX4_delayFrom 1 = .ok (.istore 4, 2) := by decide +kernel
theorem dX4_delayFrom_3 : decode cX4_delayFrom 3 = .ok (.iload 4, 2) := by decide +kernel
theorem dX4_delayFrom_5 : decode cX4_delayFrom 5 = .ok (.aload_n 0, 1) := by decide +kernel
theorem dX4_delayFrom_6 : decode cX4_delayFrom 6 = .ok (.getfield 16, 3) := by decide +kernel
theorem dX4_delayFrom_9 : decode cX4_delayFrom 9 = .ok (.if_icmp .ge 59, 3) := by decide +kernel
theorem dX4_delayFrom_12 : decode cX4_delayFrom 12 = .ok (.aload_n 0, 1) := by decide +kernel
theorem dX4_delayFrom_13 : decode cX4_delayFrom 13 = .ok (.getfield 13, 3) := by decide +kernel
theorem dX4_delayFrom_16 : decode cX4_delayFrom 16 = .ok (.iload 4, 2) := by decide +kernel
theorem dX4_delayFrom_18 : decode cX4_delayFrom 18 = .ok (.aaload, 1) := by decide +kernel
theorem dX4_delayFrom_19 : decode cX4_delayFrom 19 = .ok (.astore 5, 2) := by decide +kernel
theorem dX4_delayFrom_21 : decode cX4_delayFrom 21 = .ok (.aload 5, 2) := by decide +kernel
theorem dX4_delayFrom_23 : decode cX4_delayFrom 23 = .ok (.iconst 0, 1) := by decide +kernel
theorem dX4_delayFrom_24 : decode cX4_delayFrom 24 = .ok (.iaload, 1) := by decide +kernel
theorem dX4_delayFrom_25 : decode cX4_delayFrom 25 = .ok (.iload_n 1, 1) := by decide +kernel
theorem dX4_delayFrom_26 : decode cX4_delayFrom 26 = .ok (.if_icmp .lt 36, 3) := by decide +kernel
theorem dX4_delayFrom_29 : decode cX4_delayFrom 29 = .ok (.aload 5, 2) := by decide +kernel
theorem dX4_delayFrom_31 : decode cX4_delayFrom 31 = .ok (.iconst 2, 1) := by decide +kernel
theorem dX4_delayFrom_32 : decode cX4_delayFrom 32 = .ok (.iaload, 1) := by decide +kernel
theorem dX4_delayFrom_33 : decode cX4_delayFrom 33 = .ok (.iload_n 3, 1) := by decide +kernel
theorem dX4_delayFrom_34 : decode cX4_delayFrom 34 = .ok (.if_icmp .ne 28, 3) := by decide +kernel
theorem dX4_delayFrom_37 : decode cX4_delayFrom 37 = .ok (.aload 5, 2) := by decide +kernel
theorem dX4_delayFrom_39 : decode cX4_delayFrom 39 = .ok (.iconst 1, 1) := by decide +kernel
theorem dX4_delayFrom_40 : decode cX4_delayFrom 40 = .ok (.iaload, 1) := by decide +kernel
theorem dX4_delayFrom_41 : decode cX4_delayFrom 41 = .ok (.bipush 6, 2) := by decide +kernel
theorem dX4_delayFrom_43 : decode cX4_delayFrom 43 = .ok (.if_icmp .lt 7, 3) := by decide +kernel
theorem dX4_delayFrom_46 : decode cX4_delayFrom 46 = .ok (.iconst 1, 1) := by decide +kernel
theorem dX4_delayFrom_47 : decode cX4_delayFrom 47 = .ok (.goto 4, 3) := by decide +kernel
theorem dX4_delayFrom_50 : decode cX4_delayFrom 50 = .ok (.iconst 0, 1) := by decide +kernel
theorem dX4_delayFrom_51 : decode cX4_delayFrom 51 = .ok (.iload_n 2, 1) := by decide +kernel
theorem dX4_delayFrom_52 : decode cX4_delayFrom 52 = .ok (.if_icmp .ne 10, 3) := by decide +kernel
theorem dX4_delayFrom_55 : decode cX4_delayFrom 55 = .ok (.aload 5, 2) := by decide +kernel
theorem dX4_delayFrom_57 : decode cX4_delayFrom 57 = .ok (.iconst 0, 1) := by decide +kernel
theorem dX4_delayFrom_58 : decode cX4_delayFrom 58 = .ok (.iaload, 1) := by decide +kernel
theorem dX4_delayFrom_59 : decode cX4_delayFrom 59 = .ok (.iload_n 1, 1) := by decide +kernel
theorem dX4_delayFrom_60 : decode cX4_delayFrom 60 = .ok (.isub, 1) := by decide +kernel
theorem dX4_delayFrom_61 : decode cX4_delayFrom 61 = .ok (.ireturn, 1) := by decide +kernel
theorem dX4_delayFrom_62 : decode cX4_delayFrom 62 = .ok (.iinc 4 1, 3) := by decide +kernel
theorem dX4_delayFrom_65 : decode cX4_delayFrom 65 = .ok (.goto (-62), 3) := by decide +kernel
theorem dX4_delayFrom_68 : decode cX4_delayFrom 68 = .ok (.iconst (-1), 1) := by decide +kernel
theorem dX4_delayFrom_69 : decode cX4_delayFrom 69 = .ok (.ireturn, 1) := by decide +kernel
theorem dX5_init_0 : decode cX5_init 0 = .ok (.aload_n 0, 1) := by decide +kernel
theorem dX5_init_1 : decode cX5_init 1 = .ok (.invokespecial 3, 3) := by decide +kernel
theorem dX5_init_4 : decode cX5_init 4 = .ok (.aload_n 0, 1) := by decide +kernel
theorem dX5_init_5 : decode cX5_init 5 = .ok (.new 9, 3) := by decide +kernel
theorem dX5_init_8 : decode cX5_init 8 = .ok (.dup, 1) := by decide +kernel
theorem dX5_init_9 : decode cX5_init 9 = .ok (.invokespecial 11, 3) := by decide +kernel
theorem dX5_init_12 : decode cX5_init 12 = .ok (.putfield 12, 3) := by decide +kernel
theorem dX5_init_15 : decode cX5_init 15 = .ok (.aload_n 0, 1) := by decide +kernel
theorem dX5_init_16 : decode cX5_init 16 = .ok (.iconst 5, 1) := by decide +kernel
theorem dX5_init_17 : decode cX5_init 17 = .ok (.anewarray 18, 3) := by decide +kernel
theorem dX5_init_20 : decode cX5_init 20 = .ok (.putfield 20, 3) := by decide +kernel
theorem dX5_init_23 : decode cX5_init 23 = .ok (.aload_n 0, 1) := by decide +kernel
theorem dX5_init_24 : decode cX5_init 24 = .ok (.new 24, 3) := by decide +kernel
theorem dX5_init_27 : decode cX5_init 27 = .ok (.dup, 1) := by decide +kernel
theorem dX5_init_28 : decode cX5_init 28 = .ok (.invokespecial 26, 3) := by decide +kernel
theorem dX5_init_31 : decode cX5_init 31 = .ok (.putfield 27, 3) := by decide +kernel
theorem dX5_init_34 : decode cX5_init 34 = .ok (.aload_n 0, 1) := by decide +kernel
theorem dX5_init_35 : decode cX5_init 35 = .ok (.iconst (-1), 1) := by decide +kernel
theorem dX5_init_36 : decode cX5_init 36 = .ok (.putfield 31, 3) := by decide +kernel
theorem dX5_init_39 : decode cX5_init 39 = .ok (.aload_n 0, 1) := by decide +kernel
theorem dX5_init_40 : decode cX5_init 40 = .ok (.iconst (-1), 1) := by decide +kernel
theorem dX5_init_41 : decode cX5_init 41 = .ok (.putfield 35, 3) := by decide +kernel
theorem dX5_init_44 : decode cX5_init 44 = .ok (.aload_n 0, 1) := by decide +kernel
theorem dX5_init_45 : decode cX5_init 45 = .ok (.iconst 5, 1) := by decide +kernel
theorem dX5_init_46 : decode cX5_init 46 = .ok (.bipush 51, 2) := by decide +kernel
theorem dX5_init_48 : decode cX5_init 48 = .ok (.multianewarray 38 2, 4) := by decide +kernel
theorem dX5_init_52 : decode cX5_init 52 = .ok (.putfield 40, 3) := by decide +kernel
theorem dX5_init_55 : decode cX5_init 55 = .ok (.aload_n 0, 1) := by decide +kernel
theorem dX5_init_56 : decode cX5_init 56 = .ok (.sipush 200, 3) := by decide +kernel
theorem dX5_init_59 : decode cX5_init 59 = .ok (.newarray .int, 2) := by decide +kernel
theorem dX5_init_61 : decode cX5_init 61 = .ok (.putfield 43, 3) := by decide +kernel
theorem dX5_init_64 : decode cX5_init 64 = .ok (.aload_n 0, 1) := by decide +kernel
theorem dX5_init_65 : decode cX5_init 65 = .ok (.sipush 200, 3) := by decide +kernel
theorem dX5_init_68 : decode cX5_init 68 = .ok (.newarray .int, 2) := by decide +kernel
theorem dX5_init_70 : decode cX5_init 70 = .ok (.putfield 47, 3) := by decide +kernel
theorem dX5_init_73 : decode cX5_init 73 = .ok (.aload_n 0, 1) := by decide +kernel
theorem dX5_init_74 : decode cX5_init 74 = .ok (.iconst 3, 1) := by decide +kernel
theorem dX5_init_75 : decode cX5_init 75 = .ok (.newarray .int, 2) := by decide +kernel
theorem dX5_init_77 : decode cX5_init 77 = .ok (.putfield 50, 3) := by decide +kernel
theorem dX5_init_80 : decode cX5_init 80 = .ok (.aload_n 0, 1) := by decide +kernel
theorem dX5_init_81 : decode cX5_init 81 = .ok (.iconst 3, 1) := by decide +kernel
theorem dX5_init_82 : decode cX5_init 82 = .ok (.newarray .boolean, 2) := by decide +kernel
theorem dX5_init_84 : decode cX5_init 84 = .ok (.putfield 53, 3) := by decide +kernel
theorem dX5_init_87 : decode cX5_init 87 = .ok (.aload_n 0, 1) := by decide +kernel
theorem dX5_init_88 : decode cX5_init 88 = .ok (.iconst 3, 1) := by decide +kernel
theorem dX5_init_89 : decode cX5_init 89 = .ok (.newarray .boolean, 2) := by decide +kernel
theorem dX5_init_91 : decode cX5_init 91 = .ok (.putfield 57, 3) := by decide +kernel
theorem dX5_init_94 : decode cX5_init 94 = .ok (.iconst 0, 1) := by decide +kernel
theorem dX5_init_95 : decode cX5_init 95 = .ok (.istore_n 1, 1) := by decide +kernel
theorem dX5_init_96 : decode cX5_init 96 = .ok (.iload_n 1, 1) := by decide +kernel
theorem dX5_init_97 : decode cX5_init 97 = .ok (.iconst 5, 1) := by decide +kernel
theorem dX5_init_98 : decode cX5_init 98 = .ok (.if_icmp .ge 22, 3) := by decide +kernel
theorem dX5_init_101 : decode cX5_init 101 = .ok (.aload_n 0, 1) := by decide +kernel
theorem dX5_init_102 : decode cX5_init 102 = .ok (.getfield 20, 3) := by decide +kernel
theorem dX5_init_105 : decode cX5_init 105 = .ok (.iload_n 1, 1) := by decide +kernel
theorem dX5_init_106 : decode cX5_init 106 = .ok (.new 18, 3) := by decide +kernel
theorem dX5_init_109 : decode cX5_init 109 = .ok (.dup, 1) := by decide +kernel
theorem dX5_init_110 : decode cX5_init 110 = .ok (.invokespecial 60, 3) := by decide +kernel
theorem dX5_init_113 : decode cX5_init 113 = .ok (.aastore, 1) := by decide +kernel
theorem dX5_init_114 : decode cX5_init 114 = .ok (.iinc 1 1, 3) := by decide +kernel
theorem dX5_init_117 : decode cX5_init 117 = .ok (.goto (-21), 3) := by decide +kernel
theorem dX5_init_120 : decode cX5_init 120 = .ok (.return_, 1) := by decide +kernel
theorem dX5_reset_0 : decode cX5_reset 0 = .ok (.aload_n 0, 1) := by decide +kernel
theorem dX5_reset_1 : decode cX5_reset 1 = .ok (.iconst 0, 1) := by decide +kernel
theorem dX5_reset_2 : decode cX5_reset 2 = .ok (.putfield 61, 3) := by decide +kernel
theorem dX5_reset_5 : decode cX5_reset 5 = .ok (.aload_n 0, 1) := by decide +kernel
theorem dX5_reset_6 : decode cX5_reset 6 = .ok (.iconst (-1), 1) := by decide +kernel
theorem dX5_reset_7 : decode cX5_reset 7 = .ok (.putfield 31, 3) := by decide +kernel
theorem dX5_reset_10 : decode cX5_reset 10 = .ok (.aload_n 0, 1) := by decide +kernel
theorem dX5_reset_11 : decode cX5_reset 11 = .ok (.iconst 0, 1) := by decide +kernel
theorem dX5_reset_12 : decode cX5_reset 12 = .ok (.putfield 64, 3) := by decide +kernel
theorem dX5_reset_15 : decode cX5_reset 15 = .ok (.aload_n 0, 1) := by decide +kernel
theorem dX5_reset_16 : decode cX5_reset 16 = .ok (.iconst (-1), 1) := by decide +kernel
theorem dX5_reset_17 : decode cX5_reset 17 = .ok (.putfield 35, 3) := by decide +kernel
theorem dX5_reset_20 : decode cX5_reset 20 = .ok (.aload_n 0, 1) := by decide +kernel
theorem dX5_reset_21 : decode cX5_reset 21 = .ok (.iconst 0, 1) := by decide +kernel
theorem dX5_reset_22 : decode cX5_reset 22 = .ok (.putfield 67, 3) := by decide +kernel
theorem dX5_reset_25 : decode cX5_reset 25 = .ok (.aload_n 0, 1) := by decide +kernel
theorem dX5_reset_26 : decode cX5_reset 26 = .ok (.iconst 0, 1) := by decide +kernel
theorem dX5_reset_27 : decode cX5_reset 27 = .ok (.putfield 70, 3) := by decide +kernel
theorem dX5_reset_30 : decode cX5_reset 30 = .ok (.aload_n 0, 1) := by decide +kernel
theorem dX5_reset_31 : decode cX5_reset 31 = .ok (.getfield 27, 3) := by decide +kernel
theorem dX5_reset_34 : decode cX5_reset 34 = .ok (.iconst 0, 1) := by decide +kernel
theorem dX5_reset_35 : decode cX5_reset 35 = .ok (.putfield 73, 3) := by decide +kernel
theorem dX5_reset_38 : decode cX5_reset 38 = .ok (.iconst 0, 1) := by decide +kernel
theorem dX5_reset_39 : decode cX5_reset 39 = .ok (.istore_n 1, 1) := by decide +kernel
theorem dX5_reset_40 : decode cX5_reset 40 = .ok (.iload_n 1, 1) := by decide +kernel
theorem dX5_reset_41 : decode cX5_reset 41 = .ok (.iconst 5, 1) := by decide +kernel
theorem dX5_reset_42 : decode cX5_reset 42 = .ok (.if_icmp .ge 18, 3) := by decide +kernel
theorem dX5_reset_45 : decode cX5_reset 45 = .ok (.aload_n 0, 1) := by decide +kernel
theorem dX5_reset_46 : decode cX5_reset 46 = .ok (.getfield 20, 3) := by decide +kernel
theorem dX5_reset_49 : decode cX5_reset 49 = .ok (.iload_n 1, 1) := by decide +kernel
theorem dX5_reset_50 : decode cX5_reset 50 = .ok (.aaload, 1) := by decide +kernel
theorem dX5_reset_51 : decode cX5_reset 51 = .ok (.invokevirtual 76, 3) := by decide +kernel
theorem dX5_reset_54 : decode cX5_reset 54 = .ok (.iinc 1 1, 3) := by decide +kernel
theorem dX5_reset_57 : decode cX5_reset 57 = .ok (.goto (-17), 3) := by decide +kernel
theorem dX5_reset_60 : decode cX5_reset 60 = .ok (.iconst 0, 1) := by decide +kernel
theorem dX5_reset_61 : decode cX5_reset 61 = .ok (.istore_n 1, 1) := by decide +kernel
theorem dX5_reset_62 : decode cX5_reset 62 = .ok (.iload_n 1, 1) := by decide +kernel
theorem dX5_reset_63 : decode cX5_reset 63 = .ok (.iconst 3, 1) := by decide +kernel
theorem dX5_reset_64 : decode cX5_reset 64 = .ok (.if_icmp .ge 23, 3) := by decide +kernel
theorem dX5_reset_67 : decode cX5_reset 67 = .ok (.aload_n 0, 1) := by decide +kernel
theorem dX5_reset_68 : decode cX5_reset 68 = .ok (.getfield 50, 3) := by decide +kernel
theorem dX5_reset_71 : decode cX5_reset 71 = .ok (.iload_n 1, 1) := by decide +kernel
theorem dX5_reset_72 : decode cX5_reset 72 = .ok (.iconst (-1), 1) := by decide +kernel
theorem dX5_reset_73 : decode cX5_reset 73 = .ok (.iastore, 1) := by decide +kernel
theorem dX5_reset_74 : decode cX5_reset 74 = .ok (.aload_n 0, 1) := by decide +kernel
theorem dX5_reset_75 : decode cX5_reset 75 = .ok (.getfield 53, 3) := by decide +kernel
theorem dX5_reset_78 : decode cX5_reset 78 = .ok (.iload_n 1, 1) := by decide +kernel
theorem dX5_reset_79 : decode cX5_reset 79 = .ok (.iconst 0, 1) := by decide +kernel
theorem dX5_reset_80 : decode cX5_reset 80 = .ok (.bastore, 1) := by decide +kernel
theorem dX5_reset_81 : decode cX5_reset 81 = .ok (.iinc 1 1, 3) := by decide +kernel
theorem dX5_reset_84 : decode cX5_reset 84 = .ok (.goto (-22), 3) := by decide +kernel
theorem dX5_reset_87 : decode cX5_reset 87 = .ok (.return_, 1) := by decide +kernel
theorem dX5_resume_0 : decode cX5_resume 0 = .ok (.aload_n 0, 1) := by decide +kernel
theorem dX5_resume_1 : decode cX5_resume 1 = .ok (.aload_n 1, 1) := by decide +kernel
theorem dX5_resume_2 : decode cX5_resume 2 = .ok (.getfield 61, 3) := by decide +kernel
theorem dX5_resume_5 : decode cX5_resume 5 = .ok (.putfield 61, 3) := by decide +kernel
theorem dX5_resume_8 : decode cX5_resume 8 = .ok (.aload_n 0, 1) := by decide +kernel
theorem dX5_resume_9 : decode cX5_resume 9 = .ok (.aload_n 1, 1) := by decide +kernel
theorem dX5_resume_10 : decode cX5_resume 10 = .ok (.getfield 31, 3) := by decide +kernel
theorem dX5_resume_13 : decode cX5_resume 13 = .ok (.putfield 31, 3) := by decide +kernel
theorem dX5_resume_16 : decode cX5_resume 16 = .ok (.aload_n 0, 1) := by decide +kernel
theorem dX5_resume_17 : decode cX5_resume 17 = .ok (.aload_n 1, 1) := by decide +kernel
theorem dX5_resume_18 : decode cX5_resume 18 = .ok (.getfield 64, 3) := by decide +kernel
theorem dX5_resume_21 : decode cX5_resume 21 = .ok (.putfield 64, 3) := by decide +kernel
theorem dX5_resume_24 : decode cX5_resume 24 = .ok (.aload_n 0, 1) := by decide +kernel
theorem dX5_resume_25 : decode cX5_resume 25 = .ok (.aload_n 1, 1) := by decide +kernel
theorem dX5_resume_26 : decode cX5_resume 26 = .ok (.getfield 35, 3) := by decide +kernel
theorem dX5_resume_29 : decode cX5_resume 29 = .ok (.putfield 35, 3) := by decide +kernel
theorem dX5_resume_32 : decode cX5_resume 32 = .ok (.aload_n 0, 1) := by decide +kernel
theorem dX5_resume_33 : decode cX5_resume 33 = .ok (.aload_n 1, 1) := by decide +kernel
theorem dX5_resume_34 : decode cX5_resume 34 = .ok (.getfield 67, 3) := by decide +kernel
theorem dX5_resume_37 : decode cX5_resume 37 = .ok (.putfield 67, 3) := by decide +kernel
theorem dX5_resume_40 : decode cX5_resume 40 = .ok (.aload_n 0, 1) := by decide +kernel
theorem dX5_resume_41 : decode cX5_resume 41 = .ok (.iconst 0, 1) := by decide +kernel
theorem dX5_resume_42 : decode cX5_resume 42 = .ok (.putfield 70, 3) := by decide +kernel
theorem dX5_resume_45 : decode cX5_resume 45 = .ok (.aload_n 0, 1) := by decide +kernel
theorem dX5_resume_46 : decode cX5_resume 46 = .ok (.getfield 27, 3) := by decide +kernel
theorem dX5_resume_49 : decode cX5_resume 49 = .ok (.aload_n 1, 1) := by decide +kernel
theorem dX5_resume_50 : decode cX5_resume 50 = .ok (.getfield 27, 3) := by decide +kernel
theorem dX5_resume_53 : decode cX5_resume 53 = .ok (.invokevirtual 79, 3) := by decide +kernel
theorem dX5_resume_56 : decode cX5_resume 56 = .ok (.iconst 0, 1) := by decide +kernel
theorem dX5_resume_57 : decode cX5_resume 57 = .ok (.istore_n 2, 1) := by decide +kernel
theorem dX5_resume_58 : decode cX5_resume 58 = .ok (.iload_n 2, 1) := by decide +kernel
theorem dX5_resume_59 : decode cX5_resume 59 = .ok (.iconst 5, 1) := by decide +kernel
theorem dX5_resume_60 : decode cX5_resume 60 = .ok (.if_icmp .ge 24, 3) := by decide +kernel
theorem dX5_resume_63 : decode cX5_resume 63 = .ok (.aload_n 0, 1) := by decide +kernel
theorem dX5_resume_64 : decode cX5_resume 64 = .ok (.getfield 20, 3) := by decide +kernel
theorem dX5_resume_67 : decode cX5_resume 67 = .ok (.iload_n 2, 1) := by decide +kernel
theorem dX5_resume_68 : decode cX5_resume 68 = .ok (.aaload, 1) := by decide +kernel
theorem dX5_resume_69 : decode cX5_resume 69 = .ok (.aload_n 1, 1) := by decide +kernel
theorem dX5_resume_70 : decode cX5_resume 70 = .ok (.getfield 20, 3) := by decide +kernel
theorem dX5_resume_73 : decode cX5_resume 73 = .ok (.iload_n 2, 1) := by decide +kernel
theorem dX5_resume_74 : decode cX5_resume 74 = .ok (.aaload, 1) := by decide +kernel
theorem dX5_resume_75 : decode cX5_resume 75 = .ok (.invokevirtual 83, 3) := by decide +kernel
theorem dX5_resume_78 : decode cX5_resume 78 = .ok (.iinc 2 1, 3) := by decide +kernel
theorem dX5_resume_81 : decode cX5_resume 81 = .ok (.goto (-23), 3) := by decide +kernel
theorem dX5_resume_84 : decode cX5_resume 84 = .ok (.iconst 0, 1) := by decide +kernel
theorem dX5_resume_85 : decode cX5_resume 85 = .ok (.istore_n 2, 1) := by decide +kernel
theorem dX5_resume_86 : decode cX5_resume 86 = .ok (.iload_n 2, 1) := by decide +kernel
theorem dX5_resume_87 : decode cX5_resume 87 = .ok (.iconst 3, 1) := by decide +kernel
theorem dX5_resume_88 : decode cX5_resume 88 = .ok (.if_icmp .ge 33, 3) := by decide +kernel
theorem dX5_resume_91 : decode cX5_resume 91 = .ok (.aload_n 0, 1) := by decide +kernel
theorem dX5_resume_92 : decode cX5_resume 92 = .ok (.getfield 50, 3) := by decide +kernel
theorem dX5_resume_95 : decode cX5_resume 95 = .ok (.iload_n 2, 1) := by decide +kernel
theorem dX5_resume_96 : decode cX5_resume 96 = .ok (.aload_n 1, 1) := by decide +kernel
theorem dX5_resume_97 : decode cX5_resume 97 = .ok (.getfield 50, 3) := by decide +kernel
theorem dX5_resume_100 : decode cX5_resume 100 = .ok (.iload_n 2, 1) := by decide +kernel
theorem dX5_resume_101 : decode cX5_resume 101 = .ok (.iaload, 1) := by decide +kernel
theorem dX5_resume_102 : decode cX5_resume 102 = .ok (.iastore, 1) := by decide +kernel
theorem dX5_resume_103 : decode cX5_resume 103 = .ok (.aload_n 0, 1) := by decide +kernel
theorem dX5_resume_104 : decode cX5_resume 104 = .ok (.getfield 53, 3) := by decide +kernel
theorem dX5_resume_107 : decode cX5_resume 107 = .ok (.iload_n 2, 1) := by decide +kernel
theorem dX5_resume_108 : decode cX5_resume 108 = .ok (.aload_n 1, 1) := by decide +kernel
theorem dX5_resume_109 : decode cX5_resume 109 = .ok (.getfield 53, 3) := by decide +kernel
theorem dX5_resume_112 : decode cX5_resume 112 = .ok (.iload_n 2, 1) := by decide +kernel
theorem dX5_resume_113 : decode cX5_resume 113 = .ok (.baload, 1) := by decide +kernel
theorem dX5_resume_114 : decode cX5_resume 114 = .ok (.bastore, 1) := by decide +kernel
theorem dX5_resume_115 : decode cX5_resume 115 = .ok (.iinc 2 1, 3) := by decide +kernel
theorem dX5_resume_118 : decode cX5_resume 118 = .ok (.goto (-32), 3) := by decide +kernel
theorem dX5_resume_121 : decode cX5_resume 121 = .ok (.return_, 1) := by decide +kernel
theorem dX5_show_0 : decode cX5_show 0 = .ok (.iload_n 1, 1) := by decide +kernel
theorem dX5_show_1 : decode cX5_show 1 = .ok (.aload_n 0, 1) := by decide +kernel
theorem dX5_show_2 : decode cX5_show 2 = .ok (.getfield 61, 3) := by decide +kernel
theorem dX5_show_5 : decode cX5_show 5 = .ok (.if_icmp .ge 7, 3) := by decide +kernel
theorem dX5_show_8 : decode cX5_show 8 = .ok (.aload_n 0, 1) := by decide +kernel
theorem dX5_show_9 : decode cX5_show 9 = .ok (.invokevirtual 86, 3) := by decide +kernel
theorem dX5_show_12 : decode cX5_show 12 = .ok (.aload_n 0, 1) := by decide +kernel
theorem dX5_show_13 : decode cX5_show 13 = .ok (.getfield 61, 3) := by decide +kernel
theorem dX5_show_16 : decode cX5_show 16 = .ok (.istore_n 2, 1) := by decide +kernel
theorem dX5_show_17 : decode cX5_show 17 = .ok (.iload_n 2, 1) := by decide +kernel
theorem dX5_show_18 : decode cX5_show 18 = .ok (.iload_n 1, 1) := by decide +kernel
theorem dX5_show_19 : decode cX5_show 19 = .ok (.if_icmp .ge 24, 3) := by decide +kernel
theorem dX5_show_22 : decode cX5_show 22 = .ok (.iload_n 2, 1) := by decide +kernel
theorem dX5_show_23 : decode cX5_show 23 = .ok (.aload_n 0, 1) := by decide +kernel
theorem dX5_show_24 : decode cX5_show 24 = .ok (.getfield 12, 3) := by decide +kernel
theorem dX5_show_27 : decode cX5_show 27 = .ok (.getfield 87, 3) := by decide +kernel
theorem dX5_show_30 : decode cX5_show 30 = .ok (.if_icmp .ge 13, 3) := by decide +kernel
theorem dX5_show_33 : decode cX5_show 33 = .ok (.aload_n 0, 1) := by decide +kernel
theorem dX5_show_34 : decode cX5_show 34 = .ok (.invokevirtual 90, 3) := by decide +kernel
theorem dX5_show_37 : decode cX5_show 37 = .ok (.iinc 2 1, 3) := by decide +kernel
theorem dX5_show_40 : decode cX5_show 40 = .ok (.goto (-23), 3) := by decide +kernel
theorem dX5_show_43 : decode cX5_show 43 = .ok (.return_, 1) := by decide +kernel
theorem dX5_countRecords_0 : decode cX5_countRecords 0 = .ok (.aload_n 0, 1) := by decide +kernel
theorem dX5_countRecords_1 : decode cX5_countRecords 1 = .ok (.invokevirtual 86, 3) := by decide +kernel
theorem dX5_countRecords_4 : decode cX5_countRecords 4 = .ok (.iconst 0, 1) := by decide +kernel
theorem dX5_countRecords_5 : decode cX5_countRecords 5 = .ok (.istore_n 1, 1) := by decide +kernel
theorem dX5_countRecords_6 : decode cX5_countRecords 6 = .ok (.iload_n 1, 1) := by decide +kernel
theorem dX5_countRecords_7 : decode cX5_countRecords 7 = .ok (.aload_n 0, 1) := by decide +kernel
theorem dX5_countRecords_8 : decode cX5_countRecords 8 = .ok (.getfield 12, 3) := by decide +kernel
theorem dX5_countRecords_11 : decode cX5_countRecords 11 = .ok (.getfield 87, 3) := by decide +kernel
theorem dX5_countRecords_14 : decode cX5_countRecords 14 = .ok (.if_icmp .ge 21, 3) := by decide +kernel
theorem dX5_countRecords_17 : decode cX5_countRecords 17 = .ok (.aload_n 0, 1) := by decide +kernel
theorem dX5_countRecords_18 : decode cX5_countRecords 18 = .ok (.getfield 35, 3) := by decide +kernel
theorem dX5_countRecords_21 : decode cX5_countRecords 21 = .ok (.iconst (-1), 1) := by decide +kernel
theorem dX5_countRecords_22 : decode cX5_countRecords 22 = .ok (.if_icmp .ne 13, 3) := by decide +kernel
theorem dX5_countRecords_25 : decode cX5_countRecords 25 = .ok (.aload_n 0, 1) := by decide +kernel
theorem dX5_countRecords_26 : decode cX5_countRecords 26 = .ok (.invokevirtual 90, 3) := by decide +kernel
theorem dX5_countRecords_29 : decode cX5_countRecords 29 = .ok (.iinc 1 1, 3) := by decide +kernel
theorem dX5_countRecords_32 : decode cX5_countRecords 32 = .ok (.goto (-26), 3) := by decide +kernel
theorem dX5_countRecords_35 : decode cX5_countRecords 35 = .ok (.aload_n 0, 1) := by decide +kernel
theorem dX5_countRecords_36 : decode cX5_countRecords 36 = .ok (.getfield 27, 3) := by decide +kernel
theorem dX5_countRecords_39 : decode cX5_countRecords 39 = .ok (.getfield 73, 3) := by decide +kernel
theorem dX5_countRecords_42 : decode cX5_countRecords 42 = .ok (.ireturn, 1) := by decide +kernel
theorem dX5_step_0 : decode cX5_step 0 = .ok (.aload_n 0, 1) := by decide +kernel
theorem dX5_step_1 : decode cX5_step 1 = .ok (.iconst (-1), 1) := by decide +kernel
theorem dX5_step_2 : decode cX5_step 2 = .ok (.putfield 31, 3) := by decide +kernel
theorem dX5_step_5 : decode cX5_step 5 = .ok (.aload_n 0, 1) := by decide +kernel
theorem dX5_step_6 : decode cX5_step 6 = .ok (.aload_n 0, 1) := by decide +kernel
theorem dX5_step_7 : decode cX5_step 7 = .ok (.getfield 35, 3) := by decide +kernel
theorem dX5_step_10 : decode cX5_step 10 = .ok (.iconst (-1), 1) := by decide +kernel
theorem dX5_step_11 : decode cX5_step 11 = .ok (.if_icmp .eq 7, 3) := by decide +kernel
theorem dX5_step_14 : decode cX5_step 14 = .ok (.iconst 1, 1) := by decide +kernel
theorem dX5_step_15 : decode cX5_step 15 = .ok (.goto 4, 3) := by decide +kernel
theorem dX5_step_18 : decode cX5_step 18 = .ok (.iconst 0, 1) := by decide +kernel
theorem dX5_step_19 : decode cX5_step 19 = .ok (.putfield 93, 3) := by decide +kernel
theorem dX5_step_22 : decode cX5_step 22 = .ok (.aload_n 0, 1) := by decide +kernel
theorem dX5_step_23 : decode cX5_step 23 = .ok (.getfield 93, 3) := by decide +kernel
theorem dX5_step_26 : decode cX5_step 26 = .ok (.ifCond .ne 27, 3) := by decide +kernel
theorem dX5_step_29 : decode cX5_step 29 = .ok (.aload_n 0, 1) := by decide +kernel
theorem dX5_step_30 : decode cX5_step 30 = .ok (.invokevirtual 97, 3) := by decide +kernel
theorem dX5_step_33 : decode cX5_step 33 = .ok (.aload_n 0, 1) := by decide +kernel
theorem dX5_step_34 : decode cX5_step 34 = .ok (.aload_n 0, 1) := by decide +kernel
theorem dX5_step_35 : decode cX5_step 35 = .ok (.invokevirtual 100, 3) := by decide +kernel
theorem dX5_step_38 : decode cX5_step 38 = .ok (.putfield 31, 3) := by decide +kernel
theorem dX5_step_41 : decode cX5_step 41 = .ok (.aload_n 0, 1) := by decide +kernel
theorem dX5_step_42 : decode cX5_step 42 = .ok (.aload_n 0, 1) := by decide +kernel
theorem dX5_step_43 : decode cX5_step 43 = .ok (.getfield 31, 3) := by decide +kernel
theorem dX5_step_46 : decode cX5_step 46 = .ok (.invokevirtual 104, 3) := by decide +kernel
theorem dX5_step_49 : decode cX5_step 49 = .ok (.aload_n 0, 1) := by decide +kernel
theorem dX5_step_50 : decode cX5_step 50 = .ok (.invokevirtual 108, 3) := by decide +kernel
theorem dX5_step_53 : decode cX5_step 53 = .ok (.aload_n 0, 1) := by decide +kernel
theorem dX5_step_54 : decode cX5_step 54 = .ok (.getfield 12, 3) := by decide +kernel
theorem dX5_step_57 : decode cX5_step 57 = .ok (.getfield 111, 3) := by decide +kernel
theorem dX5_step_60 : decode cX5_step 60 = .ok (.aload_n 0, 1) := by decide +kernel
theorem dX5_step_61 : decode cX5_step 61 = .ok (.getfield 61, 3) := by decide +kernel
theorem dX5_step_64 : decode cX5_step 64 = .ok (.iconst 1, 1) := by decide +kernel
theorem dX5_step_65 : decode cX5_step 65 = .ok (.iadd, 1) := by decide +kernel
theorem dX5_step_66 : decode cX5_step 66 = .ok (.invokestatic 114, 3) := by decide +kernel
theorem dX5_step_69 : decode cX5_step 69 = .ok (.ifCond .eq 15, 3) := by decide +kernel
theorem dX5_step_72 : decode cX5_step 72 = .ok (.aload_n 0, 1) := by decide +kernel
theorem dX5_step_73 : decode cX5_step 73 = .ok (.invokevirtual 118, 3) := by decide +kernel
theorem dX5_step_76 : decode cX5_step 76 = .ok (.aload_n 0, 1) := by decide +kernel
theorem dX5_step_77 : decode cX5_step 77 = .ok (.invokevirtual 121, 3) := by decide +kernel
theorem dX5_step_80 : decode cX5_step 80 = .ok (.aload_n 0, 1) := by decide +kernel
theorem dX5_step_81 : decode cX5_step 81 = .ok (.invokevirtual 124, 3) := by decide +kernel
theorem dX5_step_84 : decode cX5_step 84 = .ok (.aload_n 0, 1) := by decide +kernel
theorem dX5_step_85 : decode cX5_step 85 = .ok (.getfield 31, 3) := by decide +kernel
theorem dX5_step_88 : decode cX5_step 88 = .ok (.iconst (-1), 1) := by decide +kernel
theorem dX5_step_89 : decode cX5_step 89 = .ok (.if_icmp .ne 13, 3) := by decide +kernel
theorem dX5_step_92 : decode cX5_step 92 = .ok (.aload_n 0, 1) := by decide +kernel
theorem dX5_step_93 : decode cX5_step 93 = .ok (.dup, 1) := by decide +kernel
theorem dX5_step_94 : decode cX5_step 94 = .ok (.getfield 64, 3) := by decide +kernel
theorem dX5_step_97 : decode cX5_step 97 = .ok (.iconst 1, 1) := by decide +kernel
theorem dX5_step_98 : decode cX5_step 98 = .ok (.iadd, 1) := by decide +kernel
theorem dX5_step_99 : decode cX5_step 99 = .ok (.putfield 64, 3) := by decide +kernel
theorem dX5_step_102 : decode cX5_step 102 = .ok (.aload_n 0, 1) := by decide +kernel
theorem dX5_step_103 : decode cX5_step 103 = .ok (.dup, 1) := by decide +kernel
theorem dX5_step_104 : decode cX5_step 104 = .ok (.getfield 61, 3) := by decide +kernel
theorem dX5_step_107 : decode cX5_step 107 = .ok (.iconst 1, 1) := by decide +kernel
theorem dX5_step_108 : decode cX5_step 108 = .ok (.iadd, 1) := by decide +kernel
theorem dX5_step_109 : decode cX5_step 109 = .ok (.putfield 61, 3) := by decide +kernel
theorem dX5_step_112 : decode cX5_step 112 = .ok (.return_, 1) := by decide +kernel
theorem dX5_beginTick_0 : decode cX5_beginTick 0 = .ok (.aload_n 0, 1) := by decide +kernel
theorem dX5_beginTick_1 : decode cX5_beginTick 1 = .ok (.getfield 12, 3) := by decide +kernel
theorem dX5_beginTick_4 : decode cX5_beginTick 4 = .ok (.getfield 111, 3) := by decide +kernel
theorem dX5_beginTick_7 : decode cX5_beginTick 7 = .ok (.aload_n 0, 1) := by decide +kernel
theorem dX5_beginTick_8 : decode cX5_beginTick 8 = .ok (.getfield 61, 3) := by decide +kernel
theorem dX5_beginTick_11 : decode cX5_beginTick 11 = .ok (.invokestatic 114, 3) := by decide +kernel
theorem dX5_beginTick_14 : decode cX5_beginTick 14 = .ok (.istore_n 1, 1) := by decide +kernel
theorem dX5_beginTick_15 : decode cX5_beginTick 15 = .ok (.iconst 0, 1) := by decide +kernel
theorem dX5_beginTick_16 : decode cX5_beginTick 16 = .ok (.istore_n 2, 1) := by decide +kernel
theorem dX5_beginTick_17 : decode cX5_beginTick 17 = .ok (.iload_n 2, 1) := by decide +kernel
theorem dX5_beginTick_18 : decode cX5_beginTick 18 = .ok (.aload_n 0, 1) := by decide +kernel
theorem dX5_beginTick_19 : decode cX5_beginTick 19 = .ok (.getfield 12, 3) := by decide +kernel
theorem dX5_beginTick_22 : decode cX5_beginTick 22 = .ok (.getfield 127, 3) := by decide +kernel
theorem dX5_beginTick_25 : decode cX5_beginTick 25 = .ok (.if_icmp .ge 104, 3) := by decide +kernel
theorem dX5_beginTick_28 : decode cX5_beginTick 28 = .ok (.aload_n 0, 1) := by decide +kernel
theorem dX5_beginTick_29 : decode cX5_beginTick 29 = .ok (.getfield 20, 3) := by decide +kernel
theorem dX5_beginTick_32 : decode cX5_beginTick 32 = .ok (.iload_n 2, 1) := by decide +kernel
theorem dX5_beginTick_33 : decode cX5_beginTick 33 = .ok (.aaload, 1) := by decide +kernel
theorem dX5_beginTick_34 : decode cX5_beginTick 34 = .ok (.astore_n 3, 1) := by decide +kernel
theorem dX5_beginTick_35 : decode cX5_beginTick 35 = .ok (.iload_n 1, 1) := by decide +kernel
theorem dX5_beginTick_36 : decode cX5_beginTick 36 = .ok (.ifCond .eq 7, 3) := by decide +kernel
theorem dX5_beginTick_39 : decode cX5_beginTick 39 = .ok (.aload_n 3, 1) := by decide +kernel
theorem dX5_beginTick_40 : decode cX5_beginTick 40 = .ok (.invokevirtual 130, 3) := by decide +kernel
theorem dX5_beginTick_43 : decode cX5_beginTick 43 = .ok (.aload_n 3, 1) := by decide +kernel
theorem dX5_beginTick_44 : decode cX5_beginTick 44 = .ok (.getfield 133, 3) := by decide +kernel
theorem dX5_beginTick_47 : decode cX5_beginTick 47 = .ok (.iconst (-1), 1) := by decide +kernel
theorem dX5_beginTick_48 : decode cX5_beginTick 48 = .ok (.if_icmp .ne 75, 3) := by decide +kernel
theorem dX5_beginTick_51 : decode cX5_beginTick 51 = .ok (.aload_n 0, 1) := by decide +kernel
theorem dX5_beginTick_52 : decode cX5_beginTick 52 = .ok (.getfield 61, 3) := by decide +kernel
theorem dX5_beginTick_55 : decode cX5_beginTick 55 = .ok (.aload_n 3, 1) := by decide +kernel
theorem dX5_beginTick_56 : decode cX5_beginTick 56 = .ok (.getfield 136, 3) := by decide +kernel
theorem dX5_beginTick_59 : decode cX5_beginTick 59 = .ok (.if_icmp .lt 64, 3) := by decide +kernel
theorem dX5_beginTick_62 : decode cX5_beginTick 62 = .ok (.aload_n 0, 1) := by decide +kernel
theorem dX5_beginTick_63 : decode cX5_beginTick 63 = .ok (.getfield 12, 3) := by decide +kernel
theorem dX5_beginTick_66 : decode cX5_beginTick 66 = .ok (.getfield 139, 3) := by decide +kernel
theorem dX5_beginTick_69 : decode cX5_beginTick 69 = .ok (.iload_n 2, 1) := by decide +kernel
theorem dX5_beginTick_70 : decode cX5_beginTick 70 = .ok (.aaload, 1) := by decide +kernel
theorem dX5_beginTick_71 : decode cX5_beginTick 71 = .ok (.iconst 1, 1) := by decide +kernel
theorem dX5_beginTick_72 : decode cX5_beginTick 72 = .ok (.iaload, 1) := by decide +kernel
theorem dX5_beginTick_73 : decode cX5_beginTick 73 = .ok (.aload_n 0, 1) := by decide +kernel
theorem dX5_beginTick_74 : decode cX5_beginTick 74 = .ok (.getfield 61, 3) := by decide +kernel
theorem dX5_beginTick_77 : decode cX5_beginTick 77 = .ok (.invokestatic 114, 3) := by decide +kernel
theorem dX5_beginTick_80 : decode cX5_beginTick 80 = .ok (.ifCond .eq 43, 3) := by decide +kernel
theorem dX5_beginTick_83 : decode cX5_beginTick 83 = .ok (.aload_n 3, 1) := by decide +kernel
theorem dX5_beginTick_84 : decode cX5_beginTick 84 = .ok (.getfield 142, 3) := by decide +kernel
theorem dX5_beginTick_87 : decode cX5_beginTick 87 = .ok (.bipush 50, 2) := by decide +kernel
theorem dX5_beginTick_89 : decode cX5_beginTick 89 = .ok (.if_icmp .gt 18, 3) := by decide +kernel
theorem dX5_beginTick_92 : decode cX5_beginTick 92 = .ok (.aload_n 0, 1) := by decide +kernel
theorem dX5_beginTick_93 : decode cX5_beginTick 93 = .ok (.getfield 40, 3) := by decide +kernel
theorem dX5_beginTick_96 : decode cX5_beginTick 96 = .ok (.iload_n 2, 1) := by decide +kernel
theorem dX5_beginTick_97 : decode cX5_beginTick 97 = .ok (.aaload, 1) := by decide +kernel
theorem dX5_beginTick_98 : decode cX5_beginTick 98 = .ok (.aload_n 3, 1) := by decide +kernel
theorem dX5_beginTick_99 : decode cX5_beginTick 99 = .ok (.getfield 142, 3) := by decide +kernel
theorem dX5_beginTick_102 : decode cX5_beginTick 102 = .ok (.aload_n 0, 1) := by decide +kernel
theorem dX5_beginTick_103 : decode cX5_beginTick 103 = .ok (.getfield 61, 3) := by decide +kernel
theorem dX5_beginTick_106 : decode cX5_beginTick 106 = .ok (.iastore, 1) := by decide +kernel
theorem dX5_beginTick_107 : decode cX5_beginTick 107 = .ok (.aload_n 3, 1) := by decide +kernel
theorem dX5_beginTick_108 : decode cX5_beginTick 108 = .ok (.dup, 1) := by decide +kernel
theorem dX5_beginTick_109 : decode cX5_beginTick 109 = .ok (.getfield 142, 3) := by decide +kernel
theorem dX5_beginTick_112 : decode cX5_beginTick 112 = .ok (.iconst 1, 1) := by decide +kernel
theorem dX5_beginTick_113 : decode cX5_beginTick 113 = .ok (.iadd, 1) := by decide +kernel
theorem dX5_beginTick_114 : decode cX5_beginTick 114 = .ok (.putfield 142, 3) := by decide +kernel
theorem dX5_beginTick_117 : decode cX5_beginTick 117 = .ok (.aload_n 0, 1) := by decide +kernel
theorem dX5_beginTick_118 : decode cX5_beginTick 118 = .ok (.iload_n 2, 1) := by decide +kernel
theorem dX5_beginTick_119 : decode cX5_beginTick 119 = .ok (.iconst 0, 1) := by decide +kernel
theorem dX5_beginTick_120 : decode cX5_beginTick 120 = .ok (.invokevirtual 145, 3) := by decide +kernel
theorem dX5_beginTick_123 : decode cX5_beginTick 123 = .ok (.iinc 2 1, 3) := by decide +kernel
theorem dX5_beginTick_126 : decode cX5_beginTick 126 = .ok (.goto (-109), 3) := by decide +kernel
theorem dX5_beginTick_129 : decode cX5_beginTick 129 = .ok (.return_, 1) := by decide +kernel
theorem dX5_enterNode_0 : decode cX5_enterNode 0 = .ok (.aload_n 0, 1) := by decide +kernel
theorem dX5_enterNode_1 : decode cX5_enterNode 1 = .ok (.getfield 20, 3) := by decide +kernel
theorem dX5_enterNode_4 : decode cX5_enterNode 4 = .ok (.iload_n 1, 1) := by decide +kernel
theorem dX5_enterNode_5 : decode cX5_enterNode 5 = .ok (.aaload, 1) := by decide +kernel
theorem dX5_enterNode_6 : decode cX5_enterNode 6 = .ok (.astore_n 3, 1) := by decide +kernel
theorem dX5_enterNode_7 : decode cX5_enterNode 7 = .ok (.aload_n 3, 1) := by decide +kernel
theorem dX5_enterNode_8 : decode cX5_enterNode 8 = .ok (.iload_n 2, 1) := by decide +kernel
theorem dX5_enterNode_9 : decode cX5_enterNode 9 = .ok (.putfield 133, 3) := by decide +kernel
theorem dX5_enterNode_12 : decode cX5_enterNode 12 = .ok (.aload_n 3, 1) := by decide +kernel
theorem dX5_enterNode_13 : decode cX5_enterNode 13 = .ok (.aload_n 0, 1) := by decide +kernel
theorem dX5_enterNode_14 : decode cX5_enterNode 14 = .ok (.getfield 12, 3) := by decide +kernel
theorem dX5_enterNode_17 : decode cX5_enterNode 17 = .ok (.iload_n 1, 1) := by decide +kernel
theorem dX5_enterNode_18 : decode cX5_enterNode 18 = .ok (.aload_n 3, 1) := by decide +kernel
theorem dX5_enterNode_19 : decode cX5_enterNode 19 = .ok (.invokevirtual 149, 3) := by decide +kernel
theorem dX5_enterNode_22 : decode cX5_enterNode 22 = .ok (.iload_n 2, 1) := by decide +kernel
theorem dX5_enterNode_23 : decode cX5_enterNode 23 = .ok (.invokevirtual 152, 3) := by decide +kernel
theorem dX5_enterNode_26 : decode cX5_enterNode 26 = .ok (.putfield 156, 3) := by decide +kernel
theorem dX5_enterNode_29 : decode cX5_enterNode 29 = .ok (.aload_n 3, 1) := by decide +kernel
theorem dX5_enterNode_30 : decode cX5_enterNode 30 = .ok (.aload_n 0, 1) := by decide +kernel
theorem dX5_enterNode_31 : decode cX5_enterNode 31 = .ok (.getfield 12, 3) := by decide +kernel
theorem dX5_enterNode_34 : decode cX5_enterNode 34 = .ok (.getfield 159, 3) := by decide +kernel
theorem dX5_enterNode_37 : decode cX5_enterNode 37 = .ok (.iload_n 1, 1) := by decide +kernel
theorem dX5_enterNode_38 : decode cX5_enterNode 38 = .ok (.aaload, 1) := by decide +kernel
theorem dX5_enterNode_39 : decode cX5_enterNode 39 = .ok (.iload_n 2, 1) := by decide +kernel
theorem dX5_enterNode_40 : decode cX5_enterNode 40 = .ok (.iaload, 1) := by decide +kernel
theorem dX5_enterNode_41 : decode cX5_enterNode 41 = .ok (.aload_n 3, 1) := by decide +kernel
theorem dX5_enterNode_42 : decode cX5_enterNode 42 = .ok (.getfield 156, 3) := by decide +kernel
theorem dX5_enterNode_45 : decode cX5_enterNode 45 = .ok (.iconst 3, 1) := by decide +kernel
theorem dX5_enterNode_46 : decode cX5_enterNode 46 = .ok (.if_icmp .ne 7, 3) := by decide +kernel
theorem dX5_enterNode_49 : decode cX5_enterNode 49 = .ok (.iconst 2, 1) := by decide +kernel
theorem dX5_enterNode_50 : decode cX5_enterNode 50 = .ok (.goto 4, 3) := by decide +kernel
theorem dX5_enterNode_53 : decode cX5_enterNode 53 = .ok (.iconst 1, 1) := by decide +kernel
theorem dX5_enterNode_54 : decode cX5_enterNode 54 = .ok (.imul, 1) := by decide +kernel
theorem dX5_enterNode_55 : decode cX5_enterNode 55 = .ok (.putfield 162, 3) := by decide +kernel
theorem dX5_enterNode_58 : decode cX5_enterNode 58 = .ok (.return_, 1) := by decide +kernel
theorem dX5_nextOwner_0 : decode cX5_nextOwner 0 = .ok (.iconst 0, 1) := by decide +kernel
theorem dX5_nextOwner_1 : decode cX5_nextOwner 1 = .ok (.istore_n 1, 1) := by decide +kernel
theorem dX5_nextOwner_2 : decode cX5_nextOwner 2 = .ok (.iload_n 1, 1) := by decide +kernel
theorem dX5_nextOwner_3 : decode cX5_nextOwner 3 = .ok (.aload_n 0, 1) := by decide +kernel
theorem dX5_nextOwner_4 : decode cX5_nextOwner 4 = .ok (.getfield 12, 3) := by decide +kernel
theorem dX5_nextOwner_7 : decode cX5_nextOwner 7 = .ok (.getfield 127, 3) := by decide +kernel
theorem dX5_nextOwner_10 : decode cX5_nextOwner 10 = .ok (.if_icmp .ge 23, 3) := by decide +kernel
theorem dX5_nextOwner_13 : decode cX5_nextOwner 13 = .ok (.aload_n 0, 1) := by decide +kernel
theorem dX5_nextOwner_14 : decode cX5_nextOwner 14 = .ok (.getfield 20, 3) := by decide +kernel
theorem dX5_nextOwner_17 : decode cX5_nextOwner 17 = .ok (.iload_n 1, 1) := by decide +kernel
theorem dX5_nextOwner_18 : decode cX5_nextOwner 18 = .ok (.aaload, 1) := by decide +kernel
theorem dX5_nextOwner_19 : decode cX5_nextOwner 19 = .ok (.invokevirtual 165, 3) := by decide +kernel
theorem dX5_nextOwner_22 : decode cX5_nextOwner 22 = .ok (.ifCond .eq 5, 3) := by decide +kernel
theorem dX5_nextOwner_25 : decode cX5_nextOwner 25 = .ok (.iload_n 1, 1) := by decide +kernel
theorem dX5_nextOwner_26 : decode cX5_nextOwner 26 = .ok (.ireturn, 1) := by decide +kernel
theorem dX5_nextOwner_27 : decode cX5_nextOwner 27 = .ok (.iinc 1 1, 3) := by decide +kernel
theorem dX5_nextOwner_30 : decode cX5_nextOwner 30 = .ok (.goto (-28), 3) := by decide +kernel
theorem dX5_nextOwner_33 : decode cX5_nextOwner 33 = .ok (.iconst (-1), 1) := by decide +kernel
theorem dX5_nextOwner_34 : decode cX5_nextOwner 34 = .ok (.ireturn, 1) := by decide +kernel
theorem dX5_work_0 : decode cX5_work 0 = .ok (.aload_n 0, 1) := by decide +kernel
theorem dX5_work_1 : decode cX5_work 1 = .ok (.getfield 12, 3) := by decide +kernel
theorem dX5_work_4 : decode cX5_work 4 = .ok (.iload_n 1, 1) := by decide +kernel
theorem dX5_work_5 : decode cX5_work 5 = .ok (.invokevirtual 169, 3) := by decide +kernel
theorem dX5_work_8 : decode cX5_work 8 = .ok (.ifCond .eq 15, 3) := by decide +kernel
theorem dX5_work_11 : decode cX5_work 11 = .ok (.aload_n 0, 1) := by decide +kernel
theorem dX5_work_12 : decode cX5_work 12 = .ok (.getfield 20, 3) := by decide +kernel
theorem dX5_work_15 : decode cX5_work 15 = .ok (.iload_n 1, 1) := by decide +kernel
theorem dX5_work_16 : decode cX5_work 16 = .ok (.aaload, 1) := by decide +kernel
theorem dX5_work_17 : decode cX5_work 17 = .ok (.getfield 156, 3) := by decide +kernel
theorem dX5_work_20 : decode cX5_work 20 = .ok (.ifCond .ne 4, 3) := by decide +kernel
theorem dX5_work_23 : decode cX5_work 23 = .ok (.return_, 1) := by decide +kernel
theorem dX5_work_24 : decode cX5_work 24 = .ok (.aload_n 0, 1) := by decide +kernel
theorem dX5_work_25 : decode cX5_work 25 = .ok (.getfield 20, 3) := by decide +kernel
theorem dX5_work_28 : decode cX5_work 28 = .ok (.iload_n 1, 1) := by decide +kernel
theorem dX5_work_29 : decode cX5_work 29 = .ok (.aaload, 1) := by decide +kernel
theorem dX5_work_30 : decode cX5_work 30 = .ok (.astore_n 2, 1) := by decide +kernel
theorem dX5_work_31 : decode cX5_work 31 = .ok (.aload_n 2, 1) := by decide +kernel
theorem dX5_work_32 : decode cX5_work 32 = .ok (.dup, 1) := by decide +kernel
theorem dX5_work_33 : decode cX5_work 33 = .ok (.getfield 162, 3) := by decide +kernel
theorem dX5_work_36 : decode cX5_work 36 = .ok (.iconst 1, 1) := by decide +kernel
theorem dX5_work_37 : decode cX5_work 37 = .ok (.isub, 1) := by decide +kernel
theorem dX5_work_38 : decode cX5_work 38 = .ok (.putfield 162, 3) := by decide +kernel
theorem dX5_work_41 : decode cX5_work 41 = .ok (.aload_n 2, 1) := by decide +kernel
theorem dX5_work_42 : decode cX5_work 42 = .ok (.getfield 162, 3) := by decide +kernel
theorem dX5_work_45 : decode cX5_work 45 = .ok (.ifCond .le 4, 3) := by decide +kernel
theorem dX5_work_48 : decode cX5_work 48 = .ok (.return_, 1) := by decide +kernel
theorem dX5_work_49 : decode cX5_work 49 = .ok (.aload_n 0, 1) := by decide +kernel
theorem dX5_work_50 : decode cX5_work 50 = .ok (.getfield 12, 3) := by decide +kernel
theorem dX5_work_53 : decode cX5_work 53 = .ok (.iload_n 1, 1) := by decide +kernel
theorem dX5_work_54 : decode cX5_work 54 = .ok (.aload_n 2, 1) := by decide +kernel
theorem dX5_work_55 : decode cX5_work 55 = .ok (.getfield 133, 3) := by decide +kernel
theorem dX5_work_58 : decode cX5_work 58 = .ok (.aload_n 2, 1) := by decide +kernel
theorem dX5_work_59 : decode cX5_work 59 = .ok (.invokevirtual 149, 3) := by decide +kernel
theorem dX5_work_62 : decode cX5_work 62 = .ok (.invokestatic 173, 3) := by decide +kernel
theorem dX5_work_65 : decode cX5_work 65 = .ok (.istore_n 3, 1) := by decide +kernel
theorem dX5_work_66 : decode cX5_work 66 = .ok (.iload_n 3, 1) := by decide +kernel
theorem dX5_work_67 : decode cX5_work 67 = .ok (.iconst (-1), 1) := by decide +kernel
theorem dX5_work_68 : decode cX5_work 68 = .ok (.if_icmp .eq 18, 3) := by decide +kernel
theorem dX5_work_71 : decode cX5_work 71 = .ok (.aload_n 2, 1) := by decide +kernel
theorem dX5_work_72 : decode cX5_work 72 = .ok (.getfield 156, 3) := by decide +kernel
theorem dX5_work_75 : decode cX5_work 75 = .ok (.iconst 2, 1) := by decide +kernel
theorem dX5_work_76 : decode cX5_work 76 = .ok (.if_icmp .eq 10, 3) := by decide +kernel
theorem dX5_work_79 : decode cX5_work 79 = .ok (.aload_n 0, 1) := by decide +kernel
theorem dX5_work_80 : decode cX5_work 80 = .ok (.iload_n 1, 1) := by decide +kernel
theorem dX5_work_81 : decode cX5_work 81 = .ok (.iload_n 3, 1) := by decide +kernel
theorem dX5_work_82 : decode cX5_work 82 = .ok (.invokevirtual 145, 3) := by decide +kernel
theorem dX5_work_85 : decode cX5_work 85 = .ok (.return_, 1) := by decide +kernel
theorem dX5_work_86 : decode cX5_work 86 = .ok (.aload_n 0, 1) := by decide +kernel
theorem dX5_work_87 : decode cX5_work 87 = .ok (.iload_n 1, 1) := by decide +kernel
theorem dX5_work_88 : decode cX5_work 88 = .ok (.iload_n 3, 1) := by decide +kernel
theorem dX5_work_89 : decode cX5_work 89 = .ok (.iconst (-1), 1) := by decide +kernel
theorem dX5_work_90 : decode cX5_work 90 = .ok (.if_icmp .eq 7, 3) := by decide +kernel
theorem dX5_work_93 : decode cX5_work 93 = .ok (.iconst 1, 1) := by decide +kernel
theorem dX5_work_94 : decode cX5_work 94 = .ok (.goto 4, 3) := by decide +kernel
theorem dX5_work_97 : decode cX5_work 97 = .ok (.iconst 0, 1) := by decide +kernel
theorem dX5_work_98 : decode cX5_work 98 = .ok (.invokevirtual 179, 3) := by decide +kernel
theorem dX5_work_101 : decode cX5_work 101 = .ok (.istore 4, 2) := by decide +kernel
theorem dX5_work_103 : decode cX5_work 103 = .ok (.iload 4, 2) := by decide +kernel
theorem dX5_work_105 : decode cX5_work 105 = .ok (.ifCond .eq 11, 3) := by decide +kernel
theorem dX5_work_108 : decode cX5_work 108 = .ok (.aload_n 0, 1) := by decide +kernel
theorem dX5_work_109 : decode cX5_work 109 = .ok (.iload_n 1, 1) := by decide +kernel
theorem dX5_work_110 : decode cX5_work 110 = .ok (.iload 4, 2) := by decide +kernel
theorem dX5_work_112 : decode cX5_work 112 = .ok (.invokevirtual 183, 3) := by decide +kernel
theorem dX5_work_115 : decode cX5_work 115 = .ok (.return_, 1) := by decide +kernel
theorem dX5_work_116 : decode cX5_work 116 = .ok (.aload_n 0, 1) := by decide +kernel
theorem dX5_work_117 : decode cX5_work 117 = .ok (.iload_n 1, 1) := by decide +kernel
theorem dX5_work_118 : decode cX5_work 118 = .ok (.aload_n 2, 1) := by decide +kernel
theorem dX5_work_119 : decode cX5_work 119 = .ok (.aload_n 0, 1) := by decide +kernel
theorem dX5_work_120 : decode cX5_work 120 = .ok (.getfield 61, 3) := by decide +kernel
theorem dX5_work_123 : decode cX5_work 123 = .ok (.invokevirtual 186, 3) := by decide +kernel
theorem dX5_work_126 : decode cX5_work 126 = .ok (.invokevirtual 190, 3) := by decide +kernel
theorem dX5_work_129 : decode cX5_work 129 = .ok (.aload_n 2, 1) := by decide +kernel
theorem dX5_work_130 : decode cX5_work 130 = .ok (.aload_n 0, 1) := by decide +kernel
theorem dX5_work_131 : decode cX5_work 131 = .ok (.getfield 61, 3) := by decide +kernel
theorem dX5_work_134 : decode cX5_work 134 = .ok (.aload_n 0, 1) := by decide +kernel
theorem dX5_work_135 : decode cX5_work 135 = .ok (.getfield 12, 3) := by decide +kernel
theorem dX5_work_138 : decode cX5_work 138 = .ok (.getfield 139, 3) := by decide +kernel
theorem dX5_work_141 : decode cX5_work 141 = .ok (.iload_n 1, 1) := by decide +kernel
theorem dX5_work_142 : decode cX5_work 142 = .ok (.aaload, 1) := by decide +kernel
theorem dX5_work_143 : decode cX5_work 143 = .ok (.iconst 2, 1) := by decide +kernel
theorem dX5_work_144 : decode cX5_work 144 = .ok (.iaload, 1) := by decide +kernel
theorem dX5_work_145 : decode cX5_work 145 = .ok (.aload_n 0, 1) := by decide +kernel
theorem dX5_work_146 : decode cX5_work 146 = .ok (.getfield 12, 3) := by decide +kernel
theorem dX5_work_149 : decode cX5_work 149 = .ok (.getfield 139, 3) := by decide +kernel
theorem dX5_work_152 : decode cX5_work 152 = .ok (.iload_n 1, 1) := by decide +kernel
theorem dX5_work_153 : decode cX5_work 153 = .ok (.aaload, 1) := by decide +kernel
theorem dX5_work_154 : decode cX5_work 154 = .ok (.iconst 3, 1) := by decide +kernel
theorem dX5_work_155 : decode cX5_work 155 = .ok (.iaload, 1) := by decide +kernel
theorem dX5_work_156 : decode cX5_work 156 = .ok (.invokevirtual 193, 3) := by decide +kernel
theorem dX5_work_159 : decode cX5_work 159 = .ok (.return_, 1) := by decide +kernel
theorem dX5_kindOfKick_0 : decode cX5_kindOfKick 0 = .ok (.aload_n 0, 1) := by decide +kernel
theorem dX5_kindOfKick_1 : decode cX5_kindOfKick 1 = .ok (.getfield 20, 3) := by decide +kernel
theorem dX5_kindOfKick_4 : decode cX5_kindOfKick 4 = .ok (.iload_n 1, 1) := by decide +kernel
theorem dX5_kindOfKick_5 : decode cX5_kindOfKick 5 = .ok (.aaload, 1) := by decide +kernel
theorem dX5_kindOfKick_6 : decode cX5_kindOfKick 6 = .ok (.astore_n 3, 1) := by decide +kernel
theorem dX5_kindOfKick_7 : decode cX5_kindOfKick 7 = .ok (.iload_n 2, 1) := by decide +kernel
theorem dX5_kindOfKick_8 : decode cX5_kindOfKick 8 = .ok (.ifCond .eq 5, 3) := by decide +kernel
theorem dX5_kindOfKick_11 : decode cX5_kindOfKick 11 = .ok (.iconst 3, 1) := by decide +kernel
theorem dX5_kindOfKick_12 : decode cX5_kindOfKick 12 = .ok (.ireturn, 1) := by decide +kernel
theorem dX5_kindOfKick_13 : decode cX5_kindOfKick 13 = .ok (.aload_n 0, 1) := by decide +kernel
theorem dX5_kindOfKick_14 : decode cX5_kindOfKick 14 = .ok (.getfield 12, 3) := by decide +kernel
theorem dX5_kindOfKick_17 : decode cX5_kindOfKick 17 = .ok (.iload_n 1, 1) := by decide +kernel
theorem dX5_kindOfKick_18 : decode cX5_kindOfKick 18 = .ok (.aload_n 3, 1) := by decide +kernel
theorem dX5_kindOfKick_19 : decode cX5_kindOfKick 19 = .ok (.invokevirtual 149, 3) := by decide +kernel
theorem dX5_kindOfKick_22 : decode cX5_kindOfKick 22 = .ok (.iconst (-1), 1) := by decide +kernel
theorem dX5_kindOfKick_23 : decode cX5_kindOfKick 23 = .ok (.invokevirtual 152, 3) := by decide +kernel
theorem dX5_kindOfKick_26 : decode cX5_kindOfKick 26 = .ok (.iconst 4, 1) := by decide +kernel
theorem dX5_kindOfKick_27 : decode cX5_kindOfKick 27 = .ok (.if_icmp .ne 5, 3) := by decide +kernel
theorem dX5_kindOfKick_30 : decode cX5_kindOfKick 30 = .ok (.iconst 4, 1) := by decide +kernel
theorem dX5_kindOfKick_31 : decode cX5_kindOfKick 31 = .ok (.ireturn, 1) := by decide +kernel
theorem dX5_kindOfKick_32 : decode cX5_kindOfKick 32 = .ok (.aload_n 3, 1) := by decide +kernel
theorem dX5_kindOfKick_33 : decode cX5_kindOfKick 33 = .ok (.aload_n 0, 1) := by decide +kernel
theorem dX5_kindOfKick_34 : decode cX5_kindOfKick 34 = .ok (.getfield 61, 3) := by decide +kernel
theorem dX5_kindOfKick_37 : decode cX5_kindOfKick 37 = .ok (.invokevirtual 186, 3) := by decide +kernel
theorem dX5_kindOfKick_40 : decode cX5_kindOfKick 40 = .ok (.aload_n 0, 1) := by decide +kernel
theorem dX5_kindOfKick_41 : decode cX5_kindOfKick 41 = .ok (.getfield 12, 3) := by decide +kernel
theorem dX5_kindOfKick_44 : decode cX5_kindOfKick 44 = .ok (.getfield 139, 3) := by decide +kernel
theorem dX5_kindOfKick_47 : decode cX5_kindOfKick 47 = .ok (.iload_n 1, 1) := by decide +kernel
theorem dX5_kindOfKick_48 : decode cX5_kindOfKick 48 = .ok (.aaload, 1) := by decide +kernel
theorem dX5_kindOfKick_49 : decode cX5_kindOfKick 49 = .ok (.iconst 2, 1) := by decide +kernel
theorem dX5_kindOfKick_50 : decode cX5_kindOfKick 50 = .ok (.iaload, 1) := by decide +kernel
theorem dX5_kindOfKick_51 : decode cX5_kindOfKick 51 = .ok (.if_icmp .ge 7, 3) := by decide +kernel
theorem dX5_kindOfKick_54 : decode cX5_kindOfKick 54 = .ok (.iconst 1, 1) := by decide +kernel
theorem dX5_kindOfKick_55 : decode cX5_kindOfKick 55 = .ok (.goto 4, 3) := by decide +kernel
theorem dX5_kindOfKick_58 : decode cX5_kindOfKick 58 = .ok (.iconst 0, 1) := by decide +kernel
theorem dX5_kindOfKick_59 : decode cX5_kindOfKick 59 = .ok (.istore 4, 2) := by decide +kernel
theorem dX5_kindOfKick_61 : decode cX5_kindOfKick 61 = .ok (.iload 4, 2) := by decide +kernel
theorem dX5_kindOfKick_63 : decode cX5_kindOfKick 63 = .ok (.ifCond .eq 15, 3) := by decide +kernel
theorem dX5_kindOfKick_66 : decode cX5_kindOfKick 66 = .ok (.aload_n 3, 1) := by decide +kernel
theorem dX5_kindOfKick_67 : decode cX5_kindOfKick 67 = .ok (.getfield 197, 3) := by decide +kernel
theorem dX5_kindOfKick_70 : decode cX5_kindOfKick 70 = .ok (.iconst (-1), 1) := by decide +kernel
theorem dX5_kindOfKick_71 : decode cX5_kindOfKick 71 = .ok (.if_icmp .eq 7, 3) := by decide +kernel
theorem dX5_kindOfKick_74 : decode cX5_kindOfKick 74 = .ok (.iconst 1, 1) := by decide +kernel
theorem dX5_kindOfKick_75 : decode cX5_kindOfKick 75 = .ok (.goto 4, 3) := by decide +kernel
theorem dX5_kindOfKick_78 : decode cX5_kindOfKick 78 = .ok (.iconst 0, 1) := by decide +kernel
theorem dX5_kindOfKick_79 : decode cX5_kindOfKick 79 = .ok (.ireturn, 1) := by decide +kernel
theorem dX5_noteKick_0 : decode cX5_noteKick 0 = .ok (.aload_n 0, 1) := by decide +kernel
theorem dX5_noteKick_1 : decode cX5_noteKick 1 = .ok (.getfield 70, 3) := by decide +kernel
theorem dX5_noteKick_4 : decode cX5_noteKick 4 = .ok (.sipush 200, 3) := by decide +kernel
theorem dX5_noteKick_7 : decode cX5_noteKick 7 = .ok (.if_icmp .ge 33, 3) := by decide +kernel
theorem dX5_noteKick_10 : decode cX5_noteKick 10 = .ok (.aload_n 0, 1) := by decide +kernel
theorem dX5_noteKick_11 : decode cX5_noteKick 11 = .ok (.getfield 43, 3) := by decide +kernel
theorem dX5_noteKick_14 : decode cX5_noteKick 14 = .ok (.aload_n 0, 1) := by decide +kernel
theorem dX5_noteKick_15 : decode cX5_noteKick 15 = .ok (.getfield 70, 3) := by decide +kernel
theorem dX5_noteKick_18 : decode cX5_noteKick 18 = .ok (.iload_n 1, 1) := by decide +kernel
theorem dX5_noteKick_19 : decode cX5_noteKick 19 = .ok (.iastore, 1) := by decide +kernel
theorem dX5_noteKick_20 : decode cX5_noteKick 20 = .ok (.aload_n 0, 1) := by decide +kernel
theorem dX5_noteKick_21 : decode cX5_noteKick 21 = .ok (.getfield 47, 3) := by decide +kernel
theorem dX5_noteKick_24 : decode cX5_noteKick 24 = .ok (.aload_n 0, 1) := by decide +kernel
theorem dX5_noteKick_25 : decode cX5_noteKick 25 = .ok (.getfield 70, 3) := by decide +kernel
theorem dX5_noteKick_28 : decode cX5_noteKick 28 = .ok (.iload_n 2, 1) := by decide +kernel
theorem dX5_noteKick_29 : decode cX5_noteKick 29 = .ok (.iastore, 1) := by decide +kernel
theorem dX5_noteKick_30 : decode cX5_noteKick 30 = .ok (.aload_n 0, 1) := by decide +kernel
theorem dX5_noteKick_31 : decode cX5_noteKick 31 = .ok (.dup, 1) := by decide +kernel
theorem dX5_noteKick_32 : decode cX5_noteKick 32 = .ok (.getfield 70, 3) := by decide +kernel
theorem dX5_noteKick_35 : decode cX5_noteKick 35 = .ok (.iconst 1, 1) := by decide +kernel
theorem dX5_noteKick_36 : decode cX5_noteKick 36 = .ok (.iadd, 1) := by decide +kernel
theorem dX5_noteKick_37 : decode cX5_noteKick 37 = .ok (.putfield 70, 3) := by decide +kernel
theorem dX5_noteKick_40 : decode cX5_noteKick 40 = .ok (.return_, 1) := by decide +kernel
theorem dX5_askLate_0 : decode cX5_askLate 0 = .ok (.iconst 0, 1) := by decide +kernel
theorem dX5_askLate_1 : decode cX5_askLate 1 = .ok (.istore_n 1, 1) := by decide +kernel
theorem dX5_askLate_2 : decode cX5_askLate 2 = .ok (.iload_n 1, 1) := by decide +kernel
theorem dX5_askLate_3 : decode cX5_askLate 3 = .ok (.aload_n 0, 1) := by decide +kernel
theorem dX5_askLate_4 : decode cX5_askLate 4 = .ok (.getfield 12, 3) := by decide +kernel
theorem dX5_askLate_7 : decode cX5_askLate 7 = .ok (.getfield 127, 3) := by decide +kernel
theorem dX5_askLate_10 : decode cX5_askLate 10 = .ok (.if_icmp .ge 62, 3) := by decide +kernel
theorem dX5_askLate_13 : decode cX5_askLate 13 = .ok (.aload_n 0, 1) := by decide +kernel
theorem dX5_askLate_14 : decode cX5_askLate 14 = .ok (.getfield 93, 3) := by decide +kernel
theorem dX5_askLate_17 : decode cX5_askLate 17 = .ok (.ifCond .ne 55, 3) := by decide +kernel
theorem dX5_askLate_20 : decode cX5_askLate 20 = .ok (.aload_n 0, 1) := by decide +kernel
theorem dX5_askLate_21 : decode cX5_askLate 21 = .ok (.getfield 20, 3) := by decide +kernel
theorem dX5_askLate_24 : decode cX5_askLate 24 = .ok (.iload_n 1, 1) := by decide +kernel
theorem dX5_askLate_25 : decode cX5_askLate 25 = .ok (.aaload, 1) := by decide +kernel
theorem dX5_askLate_26 : decode cX5_askLate 26 = .ok (.astore_n 2, 1) := by decide +kernel
theorem dX5_askLate_27 : decode cX5_askLate 27 = .ok (.aload_n 0, 1) := by decide +kernel
theorem dX5_askLate_28 : decode cX5_askLate 28 = .ok (.getfield 61, 3) := by decide +kernel
theorem dX5_askLate_31 : decode cX5_askLate 31 = .ok (.aload_n 2, 1) := by decide +kernel
theorem dX5_askLate_32 : decode cX5_askLate 32 = .ok (.getfield 136, 3) := by decide +kernel
theorem dX5_askLate_35 : decode cX5_askLate 35 = .ok (.if_icmp .lt 31, 3) := by decide +kernel
theorem dX5_askLate_38 : decode cX5_askLate 38 = .ok (.aload_n 2, 1) := by decide +kernel
theorem dX5_askLate_39 : decode cX5_askLate 39 = .ok (.aload_n 0, 1) := by decide +kernel
theorem dX5_askLate_40 : decode cX5_askLate 40 = .ok (.getfield 61, 3) := by decide +kernel
theorem dX5_askLate_43 : decode cX5_askLate 43 = .ok (.invokevirtual 186, 3) := by decide +kernel
theorem dX5_askLate_46 : decode cX5_askLate 46 = .ok (.aload_n 0, 1) := by decide +kernel
theorem dX5_askLate_47 : decode cX5_askLate 47 = .ok (.getfield 12, 3) := by decide +kernel
theorem dX5_askLate_50 : decode cX5_askLate 50 = .ok (.getfield 139, 3) := by decide +kernel
theorem dX5_askLate_53 : decode cX5_askLate 53 = .ok (.iload_n 1, 1) := by decide +kernel
theorem dX5_askLate_54 : decode cX5_askLate 54 = .ok (.aaload, 1) := by decide +kernel
theorem dX5_askLate_55 : decode cX5_askLate 55 = .ok (.iconst 3, 1) := by decide +kernel
theorem dX5_askLate_56 : decode cX5_askLate 56 = .ok (.iaload, 1) := by decide +kernel
theorem dX5_askLate_57 : decode cX5_askLate 57 = .ok (.if_icmp .lt 9, 3) := by decide +kernel
theorem dX5_askLate_60 : decode cX5_askLate 60 = .ok (.aload_n 0, 1) := by decide +kernel
theorem dX5_askLate_61 : decode cX5_askLate 61 = .ok (.iload_n 1, 1) := by decide +kernel
theorem dX5_askLate_62 : decode cX5_askLate 62 = .ok (.iconst 2, 1) := by decide +kernel
theorem dX5_askLate_63 : decode cX5_askLate 63 = .ok (.invokevirtual 183, 3) := by decide +kernel
theorem dX5_askLate_66 : decode cX5_askLate 66 = .ok (.iinc 1 1, 3) := by decide +kernel
theorem dX5_askLate_69 : decode cX5_askLate 69 = .ok (.goto (-67), 3) := by decide +kernel
theorem dX5_askLate_72 : decode cX5_askLate 72 = .ok (.return_, 1) := by decide +kernel
theorem dX5_letWatchersLook_0 : decode cX5_letWatchersLook 0 = .ok (.aload_n 0, 1) := by decide +kernel
theorem dX5_letWatchersLook_1 : decode cX5_letWatchersLook 1 = .ok (.getfield 12, 3) := by decide +kernel
theorem dX5_letWatchersLook_4 : decode cX5_letWatchersLook 4 = .ok (.getfield 200, 3) := by decide +kernel
theorem dX5_letWatchersLook_7 : decode cX5_letWatchersLook 7 = .ok (.iconst 1, 1) := by decide +kernel
theorem dX5_letWatchersLook_8 : decode cX5_letWatchersLook 8 = .ok (.isub, 1) := by decide +kernel
theorem dX5_letWatchersLook_9 : decode cX5_letWatchersLook 9 = .ok (.istore_n 1, 1) := by decide +kernel
theorem dX5_letWatchersLook_10 : decode cX5_letWatchersLook 10 = .ok (.iload_n 1, 1) := by decide +kernel
theorem dX5_letWatchersLook_11 : decode cX5_letWatchersLook 11 = .ok (.ifCond .lt 143, 3) := by decide +kernel
theorem dX5_letWatchersLook_14 : decode cX5_letWatchersLook 14 = .ok (.aload_n 0, 1) := by decide +kernel
theorem dX5_letWatchersLook_15 : decode cX5_letWatchersLook 15 = .ok (.getfield 93, 3) := by decide +kernel
theorem dX5_letWatchersLook_18 : decode cX5_letWatchersLook 18 = .ok (.ifCond .ne 136, 3) := by decide +kernel
theorem dX5_letWatchersLook_21 : decode cX5_letWatchersLook 21 = .ok (.aload_n 0, 1) := by decide +kernel
theorem dX5_letWatchersLook_22 : decode cX5_letWatchersLook 22 = .ok (.getfield 57, 3) := by decide +kernel
theorem dX5_letWatchersLook_25 : decode cX5_letWatchersLook 25 = .ok (.iload_n 1, 1) := by decide +kernel
theorem dX5_letWatchersLook_26 : decode cX5_letWatchersLook 26 = .ok (.aload_n 0, 1) := by decide +kernel
theorem dX5_letWatchersLook_27 : decode cX5_letWatchersLook 27 = .ok (.iload_n 1, 1) := by decide +kernel
theorem dX5_letWatchersLook_28 : decode cX5_letWatchersLook 28 = .ok (.invokevirtual 203, 3) := by decide +kernel
theorem dX5_letWatchersLook_31 : decode cX5_letWatchersLook 31 = .ok (.ifCond .ne 7, 3) := by decide +kernel
theorem dX5_letWatchersLook_34 : decode cX5_letWatchersLook 34 = .ok (.iconst 1, 1) := by decide +kernel
theorem dX5_letWatchersLook_35 : decode cX5_letWatchersLook 35 = .ok (.goto 4, 3) := by decide +kernel
theorem dX5_letWatchersLook_38 : decode cX5_letWatchersLook 38 = .ok (.iconst 0, 1) := by decide +kernel
theorem dX5_letWatchersLook_39 : decode cX5_letWatchersLook 39 = .ok (.bastore, 1) := by decide +kernel
theorem dX5_letWatchersLook_40 : decode cX5_letWatchersLook 40 = .ok (.aload_n 0, 1) := by decide +kernel
theorem dX5_letWatchersLook_41 : decode cX5_letWatchersLook 41 = .ok (.getfield 57, 3) := by decide +kernel
theorem dX5_letWatchersLook_44 : decode cX5_letWatchersLook 44 = .ok (.iload_n 1, 1) := by decide +kernel
