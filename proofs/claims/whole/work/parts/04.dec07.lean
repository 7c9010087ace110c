theorem dX9_passAll_15 : decode cX9_passAll 15 = .ok (.aload_n 1, 1) := by decide +kernel
theorem dX9_passAll_16 : decode cX9_passAll 16 = .ok (.invokevirtual 384, 3) := by decide +kernel
theorem dX9_passAll_19 : decode cX9_passAll 19 = .ok (.aload_n 0, 1) := by decide +kernel
theorem dX9_passAll_20 : decode cX9_passAll 20 = .ok (.aload_n 0, 1) := by decide +kernel
theorem dX9_passAll_21 : decode cX9_passAll 21 = .ok (.getfield 13, 3) := by decide +kernel
theorem dX9_passAll_24 : decode cX9_passAll 24 = .ok (.aload_n 1, 1) := by decide +kernel
theorem dX9_passAll_25 : decode cX9_passAll 25 = .ok (.invokevirtual 384, 3) := by decide +kernel
theorem dX9_passAll_28 : decode cX9_passAll 28 = .ok (.aload_n 0, 1) := by decide +kernel
theorem dX9_passAll_29 : decode cX9_passAll 29 = .ok (.aload_n 0, 1) := by decide +kernel
theorem dX9_passAll_30 : decode cX9_passAll 30 = .ok (.getfield 16, 3) := by decide +kernel
theorem dX9_passAll_33 : decode cX9_passAll 33 = .ok (.aload_n 1, 1) := by decide +kernel
theorem dX9_passAll_34 : decode cX9_passAll 34 = .ok (.invokevirtual 384, 3) := by decide +kernel
theorem dX9_passAll_37 : decode cX9_passAll 37 = .ok (.aload_n 0, 1) := by decide +kernel
theorem dX9_passAll_38 : decode cX9_passAll 38 = .ok (.aload_n 0, 1) := by decide +kernel
theorem dX9_passAll_39 : decode cX9_passAll 39 = .ok (.getfield 19, 3) := by decide +kernel
theorem dX9_passAll_42 : decode cX9_passAll 42 = .ok (.aload_n 1, 1) := by decide +kernel
theorem dX9_passAll_43 : decode cX9_passAll 43 = .ok (.invokevirtual 384, 3) := by decide +kernel
theorem dX9_passAll_46 : decode cX9_passAll 46 = .ok (.aload_n 0, 1) := by decide +kernel
theorem dX9_passAll_47 : decode cX9_passAll 47 = .ok (.aload_n 0, 1) := by decide +kernel
theorem dX9_passAll_48 : decode cX9_passAll 48 = .ok (.getfield 22, 3) := by decide +kernel
theorem dX9_passAll_51 : decode cX9_passAll 51 = .ok (.aload_n 1, 1) := by decide +kernel
theorem dX9_passAll_52 : decode cX9_passAll 52 = .ok (.invokevirtual 384, 3) := by decide +kernel
theorem dX9_passAll_55 : decode cX9_passAll 55 = .ok (.aload_n 0, 1) := by decide +kernel
theorem dX9_passAll_56 : decode cX9_passAll 56 = .ok (.aload_n 0, 1) := by decide +kernel
theorem dX9_passAll_57 : decode cX9_passAll 57 = .ok (.getfield 25, 3) := by decide +kernel
theorem dX9_passAll_60 : decode cX9_passAll 60 = .ok (.aload_n 1, 1) := by decide +kernel
theorem dX9_passAll_61 : decode cX9_passAll 61 = .ok (.invokevirtual 384, 3) := by decide +kernel
theorem dX9_passAll_64 : decode cX9_passAll 64 = .ok (.aload_n 0, 1) := by decide +kernel
theorem dX9_passAll_65 : decode cX9_passAll 65 = .ok (.aload_n 0, 1) := by decide +kernel
theorem dX9_passAll_66 : decode cX9_passAll 66 = .ok (.getfield 28, 3) := by decide +kernel
theorem dX9_passAll_69 : decode cX9_passAll 69 = .ok (.aload_n 1, 1) := by decide +kernel
theorem dX9_passAll_70 : decode cX9_passAll 70 = .ok (.invokevirtual 384, 3) := by decide +kernel
theorem dX9_passAll_73 : decode cX9_passAll 73 = .ok (.aload_n 0, 1) := by decide +kernel
theorem dX9_passAll_74 : decode cX9_passAll 74 = .ok (.aload_n 0, 1) := by decide +kernel
theorem dX9_passAll_75 : decode cX9_passAll 75 = .ok (.getfield 31, 3) := by decide +kernel
theorem dX9_passAll_78 : decode cX9_passAll 78 = .ok (.aload_n 1, 1) := by decide +kernel
theorem dX9_passAll_79 : decode cX9_passAll 79 = .ok (.invokevirtual 384, 3) := by decide +kernel
theorem dX9_passAll_82 : decode cX9_passAll 82 = .ok (.aload_n 0, 1) := by decide +kernel
theorem dX9_passAll_83 : decode cX9_passAll 83 = .ok (.aload_n 0, 1) := by decide +kernel
theorem dX9_passAll_84 : decode cX9_passAll 84 = .ok (.getfield 34, 3) := by decide +kernel
theorem dX9_passAll_87 : decode cX9_passAll 87 = .ok (.aload_n 1, 1) := by decide +kernel
theorem dX9_passAll_88 : decode cX9_passAll 88 = .ok (.invokevirtual 384, 3) := by decide +kernel
theorem dX9_passAll_91 : decode cX9_passAll 91 = .ok (.aload_n 0, 1) := by decide +kernel
theorem dX9_passAll_92 : decode cX9_passAll 92 = .ok (.aload_n 0, 1) := by decide +kernel
theorem dX9_passAll_93 : decode cX9_passAll 93 = .ok (.getfield 37, 3) := by decide +kernel
theorem dX9_passAll_96 : decode cX9_passAll 96 = .ok (.aload_n 1, 1) := by decide +kernel
theorem dX9_passAll_97 : decode cX9_passAll 97 = .ok (.invokevirtual 384, 3) := by decide +kernel
theorem dX9_passAll_100 : decode cX9_passAll 100 = .ok (.aload_n 0, 1) := by decide +kernel
theorem dX9_passAll_101 : decode cX9_passAll 101 = .ok (.aload_n 0, 1) := by decide +kernel
theorem dX9_passAll_102 : decode cX9_passAll 102 = .ok (.getfield 40, 3) := by decide +kernel
theorem dX9_passAll_105 : decode cX9_passAll 105 = .ok (.aload_n 1, 1) := by decide +kernel
theorem dX9_passAll_106 : decode cX9_passAll 106 = .ok (.invokevirtual 384, 3) := by decide +kernel
theorem dX9_passAll_109 : decode cX9_passAll 109 = .ok (.aload_n 0, 1) := by decide +kernel
theorem dX9_passAll_110 : decode cX9_passAll 110 = .ok (.aload_n 0, 1) := by decide +kernel
theorem dX9_passAll_111 : decode cX9_passAll 111 = .ok (.getfield 43, 3) := by decide +kernel
theorem dX9_passAll_114 : decode cX9_passAll 114 = .ok (.aload_n 1, 1) := by decide +kernel
theorem dX9_passAll_115 : decode cX9_passAll 115 = .ok (.invokevirtual 384, 3) := by decide +kernel
theorem dX9_passAll_118 : decode cX9_passAll 118 = .ok (.aload_n 0, 1) := by decide +kernel
theorem dX9_passAll_119 : decode cX9_passAll 119 = .ok (.aload_n 0, 1) := by decide +kernel
theorem dX9_passAll_120 : decode cX9_passAll 120 = .ok (.getfield 46, 3) := by decide +kernel
theorem dX9_passAll_123 : decode cX9_passAll 123 = .ok (.aload_n 1, 1) := by decide +kernel
theorem dX9_passAll_124 : decode cX9_passAll 124 = .ok (.invokevirtual 384, 3) := by decide +kernel
theorem dX9_passAll_127 : decode cX9_passAll 127 = .ok (.aload_n 0, 1) := by decide +kernel
theorem dX9_passAll_128 : decode cX9_passAll 128 = .ok (.aload_n 0, 1) := by decide +kernel
theorem dX9_passAll_129 : decode cX9_passAll 129 = .ok (.getfield 49, 3) := by decide +kernel
theorem dX9_passAll_132 : decode cX9_passAll 132 = .ok (.aload_n 1, 1) := by decide +kernel
theorem dX9_passAll_133 : decode cX9_passAll 133 = .ok (.invokevirtual 384, 3) := by decide +kernel
theorem dX9_passAll_136 : decode cX9_passAll 136 = .ok (.aload_n 0, 1) := by decide +kernel
theorem dX9_passAll_137 : decode cX9_passAll 137 = .ok (.aload_n 0, 1) := by decide +kernel
theorem dX9_passAll_138 : decode cX9_passAll 138 = .ok (.getfield 52, 3) := by decide +kernel
theorem dX9_passAll_141 : decode cX9_passAll 141 = .ok (.aload_n 1, 1) := by decide +kernel
theorem dX9_passAll_142 : decode cX9_passAll 142 = .ok (.invokevirtual 384, 3) := by decide +kernel
theorem dX9_passAll_145 : decode cX9_passAll 145 = .ok (.aload_n 0, 1) := by decide +kernel
theorem dX9_passAll_146 : decode cX9_passAll 146 = .ok (.aload_n 0, 1) := by decide +kernel
theorem dX9_passAll_147 : decode cX9_passAll 147 = .ok (.getfield 55, 3) := by decide +kernel
theorem dX9_passAll_150 : decode cX9_passAll 150 = .ok (.aload_n 1, 1) := by decide +kernel
theorem dX9_passAll_151 : decode cX9_passAll 151 = .ok (.invokevirtual 384, 3) := by decide +kernel
theorem dX9_passAll_154 : decode cX9_passAll 154 = .ok (.aload_n 0, 1) := by decide +kernel
theorem dX9_passAll_155 : decode cX9_passAll 155 = .ok (.aload_n 0, 1) := by decide +kernel
theorem dX9_passAll_156 : decode cX9_passAll 156 = .ok (.getfield 58, 3) := by decide +kernel
theorem dX9_passAll_159 : decode cX9_passAll 159 = .ok (.aload_n 1, 1) := by decide +kernel
theorem dX9_passAll_160 : decode cX9_passAll 160 = .ok (.invokevirtual 384, 3) := by decide +kernel
theorem dX9_passAll_163 : decode cX9_passAll 163 = .ok (.aload_n 0, 1) := by decide +kernel
theorem dX9_passAll_164 : decode cX9_passAll 164 = .ok (.aload_n 0, 1) := by decide +kernel
theorem dX9_passAll_165 : decode cX9_passAll 165 = .ok (.getfield 61, 3) := by decide +kernel
theorem dX9_passAll_168 : decode cX9_passAll 168 = .ok (.aload_n 1, 1) := by decide +kernel
theorem dX9_passAll_169 : decode cX9_passAll 169 = .ok (.invokevirtual 384, 3) := by decide +kernel
theorem dX9_passAll_172 : decode cX9_passAll 172 = .ok (.aload_n 0, 1) := by decide +kernel
theorem dX9_passAll_173 : decode cX9_passAll 173 = .ok (.aload_n 0, 1) := by decide +kernel
theorem dX9_passAll_174 : decode cX9_passAll 174 = .ok (.aload_n 0, 1) := by decide +kernel
theorem dX9_passAll_175 : decode cX9_passAll 175 = .ok (.getfield 155, 3) := by decide +kernel
theorem dX9_passAll_178 : decode cX9_passAll 178 = .ok (.aload_n 1, 1) := by decide +kernel
theorem dX9_passAll_179 : decode cX9_passAll 179 = .ok (.invokevirtual 388, 3) := by decide +kernel
theorem dX9_passAll_182 : decode cX9_passAll 182 = .ok (.putfield 155, 3) := by decide +kernel
theorem dX9_passAll_185 : decode cX9_passAll 185 = .ok (.aload_n 0, 1) := by decide +kernel
theorem dX9_passAll_186 : decode cX9_passAll 186 = .ok (.aload_n 0, 1) := by decide +kernel
theorem dX9_passAll_187 : decode cX9_passAll 187 = .ok (.aload_n 0, 1) := by decide +kernel
theorem dX9_passAll_188 : decode cX9_passAll 188 = .ok (.getfield 94, 3) := by decide +kernel
theorem dX9_passAll_191 : decode cX9_passAll 191 = .ok (.aload_n 1, 1) := by decide +kernel
theorem dX9_passAll_192 : decode cX9_passAll 192 = .ok (.invokevirtual 388, 3) := by decide +kernel
theorem dX9_passAll_195 : decode cX9_passAll 195 = .ok (.putfield 94, 3) := by decide +kernel
theorem dX9_passAll_198 : decode cX9_passAll 198 = .ok (.aload_n 0, 1) := by decide +kernel
theorem dX9_passAll_199 : decode cX9_passAll 199 = .ok (.aload_n 0, 1) := by decide +kernel
theorem dX9_passAll_200 : decode cX9_passAll 200 = .ok (.aload_n 0, 1) := by decide +kernel
theorem dX9_passAll_201 : decode cX9_passAll 201 = .ok (.getfield 97, 3) := by decide +kernel
theorem dX9_passAll_204 : decode cX9_passAll 204 = .ok (.aload_n 1, 1) := by decide +kernel
theorem dX9_passAll_205 : decode cX9_passAll 205 = .ok (.invokevirtual 388, 3) := by decide +kernel
theorem dX9_passAll_208 : decode cX9_passAll 208 = .ok (.putfield 97, 3) := by decide +kernel
theorem dX9_passAll_211 : decode cX9_passAll 211 = .ok (.aload_n 0, 1) := by decide +kernel
theorem dX9_passAll_212 : decode cX9_passAll 212 = .ok (.aload_n 0, 1) := by decide +kernel
theorem dX9_passAll_213 : decode cX9_passAll 213 = .ok (.aload_n 0, 1) := by decide +kernel
theorem dX9_passAll_214 : decode cX9_passAll 214 = .ok (.getfield 100, 3) := by decide +kernel
theorem dX9_passAll_217 : decode cX9_passAll 217 = .ok (.aload_n 1, 1) := by decide +kernel
theorem dX9_passAll_218 : decode cX9_passAll 218 = .ok (.invokevirtual 388, 3) := by decide +kernel
theorem dX9_passAll_221 : decode cX9_passAll 221 = .ok (.putfield 100, 3) := by decide +kernel
theorem dX9_passAll_224 : decode cX9_passAll 224 = .ok (.aload_n 0, 1) := by decide +kernel
theorem dX9_passAll_225 : decode cX9_passAll 225 = .ok (.aload_n 0, 1) := by decide +kernel
theorem dX9_passAll_226 : decode cX9_passAll 226 = .ok (.aload_n 0, 1) := by decide +kernel
theorem dX9_passAll_227 : decode cX9_passAll 227 = .ok (.getfield 137, 3) := by decide +kernel
theorem dX9_passAll_230 : decode cX9_passAll 230 = .ok (.aload_n 1, 1) := by decide +kernel
theorem dX9_passAll_231 : decode cX9_passAll 231 = .ok (.invokevirtual 388, 3) := by decide +kernel
theorem dX9_passAll_234 : decode cX9_passAll 234 = .ok (.putfield 137, 3) := by decide +kernel
theorem dX9_passAll_237 : decode cX9_passAll 237 = .ok (.return_, 1) := by decide +kernel
theorem dX9_makesRoom_0 : decode cX9_makesRoom 0 = .ok (.aload_n 0, 1) := by decide +kernel
theorem dX9_makesRoom_1 : decode cX9_makesRoom 1 = .ok (.getfield 322, 3) := by decide +kernel
theorem dX9_makesRoom_4 : decode cX9_makesRoom 4 = .ok (.bipush 8, 2) := by decide +kernel
theorem dX9_makesRoom_6 : decode cX9_makesRoom 6 = .ok (.if_icmp .ge 4, 3) := by decide +kernel
theorem dX9_makesRoom_9 : decode cX9_makesRoom 9 = .ok (.return_, 1) := by decide +kernel
theorem dX9_makesRoom_10 : decode cX9_makesRoom 10 = .ok (.iconst 0, 1) := by decide +kernel
theorem dX9_makesRoom_11 : decode cX9_makesRoom 11 = .ok (.istore_n 1, 1) := by decide +kernel
theorem dX9_makesRoom_12 : decode cX9_makesRoom 12 = .ok (.iload_n 1, 1) := by decide +kernel
theorem dX9_makesRoom_13 : decode cX9_makesRoom 13 = .ok (.sipush 20272, 3) := by decide +kernel
theorem dX9_makesRoom_16 : decode cX9_makesRoom 16 = .ok (.if_icmp .ge 25, 3) := by decide +kernel
theorem dX9_makesRoom_19 : decode cX9_makesRoom 19 = .ok (.aload_n 0, 1) := by decide +kernel
theorem dX9_makesRoom_20 : decode cX9_makesRoom 20 = .ok (.getfield 78, 3) := by decide +kernel
theorem dX9_makesRoom_23 : decode cX9_makesRoom 23 = .ok (.iload_n 1, 1) := by decide +kernel
theorem dX9_makesRoom_24 : decode cX9_makesRoom 24 = .ok (.aload_n 0, 1) := by decide +kernel
theorem dX9_makesRoom_25 : decode cX9_makesRoom 25 = .ok (.getfield 78, 3) := by decide +kernel
theorem dX9_makesRoom_28 : decode cX9_makesRoom 28 = .ok (.iload_n 1, 1) := by decide +kernel
theorem dX9_makesRoom_29 : decode cX9_makesRoom 29 = .ok (.sipush 2896, 3) := by decide +kernel
theorem dX9_makesRoom_32 : decode cX9_makesRoom 32 = .ok (.iadd, 1) := by decide +kernel
theorem dX9_makesRoom_33 : decode cX9_makesRoom 33 = .ok (.iaload, 1) := by decide +kernel
theorem dX9_makesRoom_34 : decode cX9_makesRoom 34 = .ok (.iastore, 1) := by decide +kernel
theorem dX9_makesRoom_35 : decode cX9_makesRoom 35 = .ok (.iinc 1 1, 3) := by decide +kernel
theorem dX9_makesRoom_38 : decode cX9_makesRoom 38 = .ok (.goto (-26), 3) := by decide +kernel
theorem dX9_makesRoom_41 : decode cX9_makesRoom 41 = .ok (.aload_n 0, 1) := by decide +kernel
theorem dX9_makesRoom_42 : decode cX9_makesRoom 42 = .ok (.dup, 1) := by decide +kernel
theorem dX9_makesRoom_43 : decode cX9_makesRoom 43 = .ok (.getfield 322, 3) := by decide +kernel
theorem dX9_makesRoom_46 : decode cX9_makesRoom 46 = .ok (.iconst 1, 1) := by decide +kernel
theorem dX9_makesRoom_47 : decode cX9_makesRoom 47 = .ok (.isub, 1) := by decide +kernel
theorem dX9_makesRoom_48 : decode cX9_makesRoom 48 = .ok (.putfield 322, 3) := by decide +kernel
theorem dX9_makesRoom_51 : decode cX9_makesRoom 51 = .ok (.return_, 1) := by decide +kernel
theorem dX9_remembers_0 : decode cX9_remembers 0 = .ok (.aload_n 0, 1) := by decide +kernel
theorem dX9_remembers_1 : decode cX9_remembers 1 = .ok (.getfield 235, 3) := by decide +kernel
theorem dX9_remembers_4 : decode cX9_remembers 4 = .ok (.ifCond .eq 4, 3) := by decide +kernel
theorem dX9_remembers_7 : decode cX9_remembers 7 = .ok (.return_, 1) := by decide +kernel
theorem dX9_remembers_8 : decode cX9_remembers 8 = .ok (.aload_n 0, 1) := by decide +kernel
theorem dX9_remembers_9 : decode cX9_remembers 9 = .ok (.invokevirtual 375, 3) := by decide +kernel
theorem dX9_remembers_12 : decode cX9_remembers 12 = .ok (.aload_n 0, 1) := by decide +kernel
theorem dX9_remembers_13 : decode cX9_remembers 13 = .ok (.aload_n 0, 1) := by decide +kernel
theorem dX9_remembers_14 : decode cX9_remembers 14 = .ok (.getfield 78, 3) := by decide +kernel
theorem dX9_remembers_17 : decode cX9_remembers 17 = .ok (.sipush 2896, 3) := by decide +kernel
theorem dX9_remembers_20 : decode cX9_remembers 20 = .ok (.aload_n 0, 1) := by decide +kernel
theorem dX9_remembers_21 : decode cX9_remembers 21 = .ok (.getfield 322, 3) := by decide +kernel
theorem dX9_remembers_24 : decode cX9_remembers 24 = .ok (.imul, 1) := by decide +kernel
theorem dX9_remembers_25 : decode cX9_remembers 25 = .ok (.iconst 1, 1) := by decide +kernel
theorem dX9_remembers_26 : decode cX9_remembers 26 = .ok (.invokevirtual 368, 3) := by decide +kernel
theorem dX9_remembers_29 : decode cX9_remembers 29 = .ok (.aload_n 0, 1) := by decide +kernel
theorem dX9_remembers_30 : decode cX9_remembers 30 = .ok (.dup, 1) := by decide +kernel
theorem dX9_remembers_31 : decode cX9_remembers 31 = .ok (.getfield 322, 3) := by decide +kernel
theorem dX9_remembers_34 : decode cX9_remembers 34 = .ok (.iconst 1, 1) := by decide +kernel
theorem dX9_remembers_35 : decode cX9_remembers 35 = .ok (.iadd, 1) := by decide +kernel
theorem dX9_remembers_36 : decode cX9_remembers 36 = .ok (.putfield 322, 3) := by decide +kernel
theorem dX9_remembers_39 : decode cX9_remembers 39 = .ok (.return_, 1) := by decide +kernel
theorem dX9_undo_0 : decode cX9_undo 0 = .ok (.aload_n 0, 1) := by decide +kernel
theorem dX9_undo_1 : decode cX9_undo 1 = .ok (.getfield 322, 3) := by decide +kernel
theorem dX9_undo_4 : decode cX9_undo 4 = .ok (.ifCond .ne 9, 3) := by decide +kernel
theorem dX9_undo_7 : decode cX9_undo 7 = .ok (.aload_n 0, 1) := by decide +kernel
theorem dX9_undo_8 : decode cX9_undo 8 = .ok (.iconst 1, 1) := by decide +kernel
theorem dX9_undo_9 : decode cX9_undo 9 = .ok (.invokevirtual 220, 3) := by decide +kernel
theorem dX9_undo_12 : decode cX9_undo 12 = .ok (.ireturn, 1) := by decide +kernel
theorem dX9_undo_13 : decode cX9_undo 13 = .ok (.aload_n 0, 1) := by decide +kernel
theorem dX9_undo_14 : decode cX9_undo 14 = .ok (.iconst 0, 1) := by decide +kernel
theorem dX9_undo_15 : decode cX9_undo 15 = .ok (.putfield 87, 3) := by decide +kernel
theorem dX9_undo_18 : decode cX9_undo 18 = .ok (.aload_n 0, 1) := by decide +kernel
theorem dX9_undo_19 : decode cX9_undo 19 = .ok (.dup, 1) := by decide +kernel
theorem dX9_undo_20 : decode cX9_undo 20 = .ok (.getfield 322, 3) := by decide +kernel
theorem dX9_undo_23 : decode cX9_undo 23 = .ok (.iconst 1, 1) := by decide +kernel
theorem dX9_undo_24 : decode cX9_undo 24 = .ok (.isub, 1) := by decide +kernel
theorem dX9_undo_25 : decode cX9_undo 25 = .ok (.putfield 322, 3) := by decide +kernel
theorem dX9_undo_28 : decode cX9_undo 28 = .ok (.aload_n 0, 1) := by decide +kernel
theorem dX9_undo_29 : decode cX9_undo 29 = .ok (.aload_n 0, 1) := by decide +kernel
theorem dX9_undo_30 : decode cX9_undo 30 = .ok (.getfield 78, 3) := by decide +kernel
theorem dX9_undo_33 : decode cX9_undo 33 = .ok (.sipush 2896, 3) := by decide +kernel
theorem dX9_undo_36 : decode cX9_undo 36 = .ok (.aload_n 0, 1) := by decide +kernel
theorem dX9_undo_37 : decode cX9_undo 37 = .ok (.getfield 322, 3) := by decide +kernel
theorem dX9_undo_40 : decode cX9_undo 40 = .ok (.imul, 1) := by decide +kernel
theorem dX9_undo_41 : decode cX9_undo 41 = .ok (.iconst 0, 1) := by decide +kernel
theorem dX9_undo_42 : decode cX9_undo 42 = .ok (.invokevirtual 368, 3) := by decide +kernel
theorem dX9_undo_45 : decode cX9_undo 45 = .ok (.aload_n 0, 1) := by decide +kernel
theorem dX9_undo_46 : decode cX9_undo 46 = .ok (.getfield 322, 3) := by decide +kernel
theorem dX9_undo_49 : decode cX9_undo 49 = .ok (.ireturn, 1) := by decide +kernel
theorem dX9_saveSnapshot_0 : decode cX9_saveSnapshot 0 = .ok (.aload_n 0, 1) := by decide +kernel
theorem dX9_saveSnapshot_1 : decode cX9_saveSnapshot 1 = .ok (.iconst 0, 1) := by decide +kernel
theorem dX9_saveSnapshot_2 : decode cX9_saveSnapshot 2 = .ok (.putfield 87, 3) := by decide +kernel
theorem dX9_saveSnapshot_5 : decode cX9_saveSnapshot 5 = .ok (.aload_n 0, 1) := by decide +kernel
theorem dX9_saveSnapshot_6 : decode cX9_saveSnapshot 6 = .ok (.iconst 1, 1) := by decide +kernel
theorem dX9_saveSnapshot_7 : decode cX9_saveSnapshot 7 = .ok (.putfield 392, 3) := by decide +kernel
theorem dX9_saveSnapshot_10 : decode cX9_saveSnapshot 10 = .ok (.aload_n 0, 1) := by decide +kernel
theorem dX9_saveSnapshot_11 : decode cX9_saveSnapshot 11 = .ok (.aload_n 0, 1) := by decide +kernel
theorem dX9_saveSnapshot_12 : decode cX9_saveSnapshot 12 = .ok (.getfield 81, 3) := by decide +kernel
theorem dX9_saveSnapshot_15 : decode cX9_saveSnapshot 15 = .ok (.iconst 0, 1) := by decide +kernel
theorem dX9_saveSnapshot_16 : decode cX9_saveSnapshot 16 = .ok (.iconst 1, 1) := by decide +kernel
theorem dX9_saveSnapshot_17 : decode cX9_saveSnapshot 17 = .ok (.invokevirtual 368, 3) := by decide +kernel
theorem dX9_saveSnapshot_20 : decode cX9_saveSnapshot 20 = .ok (.aload_n 0, 1) := by decide +kernel
theorem dX9_saveSnapshot_21 : decode cX9_saveSnapshot 21 = .ok (.getfield 100, 3) := by decide +kernel
theorem dX9_saveSnapshot_24 : decode cX9_saveSnapshot 24 = .ok (.ireturn, 1) := by decide +kernel
theorem dX9_restoreSnapshot_0 : decode cX9_restoreSnapshot 0 = .ok (.aload_n 0, 1) := by decide +kernel
theorem dX9_restoreSnapshot_1 : decode cX9_restoreSnapshot 1 = .ok (.getfield 392, 3) := by decide +kernel
theorem dX9_restoreSnapshot_4 : decode cX9_restoreSnapshot 4 = .ok (.ifCond .ne 9, 3) := by decide +kernel
theorem dX9_restoreSnapshot_7 : decode cX9_restoreSnapshot 7 = .ok (.aload_n 0, 1) := by decide +kernel
theorem dX9_restoreSnapshot_8 : decode cX9_restoreSnapshot 8 = .ok (.iconst 1, 1) := by decide +kernel
theorem dX9_restoreSnapshot_9 : decode cX9_restoreSnapshot 9 = .ok (.invokevirtual 220, 3) := by decide +kernel
theorem dX9_restoreSnapshot_12 : decode cX9_restoreSnapshot 12 = .ok (.ireturn, 1) := by decide +kernel
theorem dX9_restoreSnapshot_13 : decode cX9_restoreSnapshot 13 = .ok (.aload_n 0, 1) := by decide +kernel
theorem dX9_restoreSnapshot_14 : decode cX9_restoreSnapshot 14 = .ok (.iconst 0, 1) := by decide +kernel
theorem dX9_restoreSnapshot_15 : decode cX9_restoreSnapshot 15 = .ok (.putfield 87, 3) := by decide +kernel
theorem dX9_restoreSnapshot_18 : decode cX9_restoreSnapshot 18 = .ok (.aload_n 0, 1) := by decide +kernel
theorem dX9_restoreSnapshot_19 : decode cX9_restoreSnapshot 19 = .ok (.aload_n 0, 1) := by decide +kernel
theorem dX9_restoreSnapshot_20 : decode cX9_restoreSnapshot 20 = .ok (.getfield 81, 3) := by decide +kernel
theorem dX9_restoreSnapshot_23 : decode cX9_restoreSnapshot 23 = .ok (.iconst 0, 1) := by decide +kernel
theorem dX9_restoreSnapshot_24 : decode cX9_restoreSnapshot 24 = .ok (.iconst 0, 1) := by decide +kernel
theorem dX9_restoreSnapshot_25 : decode cX9_restoreSnapshot 25 = .ok (.invokevirtual 368, 3) := by decide +kernel
theorem dX9_restoreSnapshot_28 : decode cX9_restoreSnapshot 28 = .ok (.aload_n 0, 1) := by decide +kernel
theorem dX9_restoreSnapshot_29 : decode cX9_restoreSnapshot 29 = .ok (.iconst 0, 1) := by decide +kernel
theorem dX9_restoreSnapshot_30 : decode cX9_restoreSnapshot 30 = .ok (.putfield 322, 3) := by decide +kernel
theorem dX9_restoreSnapshot_33 : decode cX9_restoreSnapshot 33 = .ok (.aload_n 0, 1) := by decide +kernel
theorem dX9_restoreSnapshot_34 : decode cX9_restoreSnapshot 34 = .ok (.getfield 100, 3) := by decide +kernel
theorem dX9_restoreSnapshot_37 : decode cX9_restoreSnapshot 37 = .ok (.ireturn, 1) := by decide +kernel
theorem dJx00060_init_a7421_0 : decode cJx00060_init_a7421 0 = .ok (.aload_n 0, 1) := by decide +kernel
theorem dJx00060_init_a7421_1 : decode cJx00060_init_a7421 1 = .ok (.aload_n 1, 1) := by decide +kernel
theorem dJx00060_init_a7421_2 : decode cJx00060_init_a7421 2 = .ok (.invokespecial 7, 3) := by decide +kernel
theorem dJx00060_init_a7421_5 : decode cJx00060_init_a7421 5 = .ok (.return_, 1) := by decide +kernel
theorem dJ6_bitCount_0f7a4_0 : decode cJ6_bitCount_0f7a4 0 = .ok (.iload_n 0, 1) := by decide +kernel
theorem dJ6_bitCount_0f7a4_1 : decode cJ6_bitCount_0f7a4 1 = .ok (.iload_n 0, 1) := by decide +kernel
theorem dJ6_bitCount_0f7a4_2 : decode cJ6_bitCount_0f7a4 2 = .ok (.iconst 1, 1) := by decide +kernel
theorem dJ6_bitCount_0f7a4_3 : decode cJ6_bitCount_0f7a4 3 = .ok (.iushr, 1) := by decide +kernel
theorem dJ6_bitCount_0f7a4_4 : decode cJ6_bitCount_0f7a4 4 = .ok (.ldc_w 265, 3) := by decide +kernel
theorem dJ6_bitCount_0f7a4_7 : decode cJ6_bitCount_0f7a4 7 = .ok (.iand, 1) := by decide +kernel
theorem dJ6_bitCount_0f7a4_8 : decode cJ6_bitCount_0f7a4 8 = .ok (.isub, 1) := by decide +kernel
theorem dJ6_bitCount_0f7a4_9 : decode cJ6_bitCount_0f7a4 9 = .ok (.istore_n 0, 1) := by decide +kernel
theorem dJ6_bitCount_0f7a4_10 : decode cJ6_bitCount_0f7a4 10 = .ok (.iload_n 0, 1) := by decide +kernel
theorem dJ6_bitCount_0f7a4_11 : decode cJ6_bitCount_0f7a4 11 = .ok (.ldc_w 266, 3) := by decide +kernel
theorem dJ6_bitCount_0f7a4_14 : decode cJ6_bitCount_0f7a4 14 = .ok (.iand, 1) := by decide +kernel
theorem dJ6_bitCount_0f7a4_15 : decode cJ6_bitCount_0f7a4 15 = .ok (.iload_n 0, 1) := by decide +kernel
theorem dJ6_bitCount_0f7a4_16 : decode cJ6_bitCount_0f7a4 16 = .ok (.iconst 2, 1) := by decide +kernel
theorem dJ6_bitCount_0f7a4_17 : decode cJ6_bitCount_0f7a4 17 = .ok (.iushr, 1) := by decide +kernel
theorem dJ6_bitCount_0f7a4_18 : decode cJ6_bitCount_0f7a4 18 = .ok (.ldc_w 266, 3) := by decide +kernel
theorem dJ6_bitCount_0f7a4_21 : decode cJ6_bitCount_0f7a4 21 = .ok (.iand, 1) := by decide +kernel
theorem dJ6_bitCount_0f7a4_22 : decode cJ6_bitCount_0f7a4 22 = .ok (.iadd, 1) := by decide +kernel
theorem dJ6_bitCount_0f7a4_23 : decode cJ6_bitCount_0f7a4 23 = .ok (.istore_n 0, 1) := by decide +kernel
theorem dJ6_bitCount_0f7a4_24 : decode cJ6_bitCount_0f7a4 24 = .ok (.iload_n 0, 1) := by decide +kernel
theorem dJ6_bitCount_0f7a4_25 : decode cJ6_bitCount_0f7a4 25 = .ok (.iload_n 0, 1) := by decide +kernel
theorem dJ6_bitCount_0f7a4_26 : decode cJ6_bitCount_0f7a4 26 = .ok (.iconst 4, 1) := by decide +kernel
theorem dJ6_bitCount_0f7a4_27 : decode cJ6_bitCount_0f7a4 27 = .ok (.iushr, 1) := by decide +kernel
theorem dJ6_bitCount_0f7a4_28 : decode cJ6_bitCount_0f7a4 28 = .ok (.iadd, 1) := by decide +kernel
theorem dJ6_bitCount_0f7a4_29 : decode cJ6_bitCount_0f7a4 29 = .ok (.ldc_w 267, 3) := by decide +kernel
theorem dJ6_bitCount_0f7a4_32 : decode cJ6_bitCount_0f7a4 32 = .ok (.iand, 1) := by decide +kernel
theorem dJ6_bitCount_0f7a4_33 : decode cJ6_bitCount_0f7a4 33 = .ok (.istore_n 0, 1) := by decide +kernel
theorem dJ6_bitCount_0f7a4_34 : decode cJ6_bitCount_0f7a4 34 = .ok (.iload_n 0, 1) := by decide +kernel
theorem dJ6_bitCount_0f7a4_35 : decode cJ6_bitCount_0f7a4 35 = .ok (.iload_n 0, 1) := by decide +kernel
theorem dJ6_bitCount_0f7a4_36 : decode cJ6_bitCount_0f7a4 36 = .ok (.bipush 8, 2) := by decide +kernel
theorem dJ6_bitCount_0f7a4_38 : decode cJ6_bitCount_0f7a4 38 = .ok (.iushr, 1) := by decide +kernel
theorem dJ6_bitCount_0f7a4_39 : decode cJ6_bitCount_0f7a4 39 = .ok (.iadd, 1) := by decide +kernel
theorem dJ6_bitCount_0f7a4_40 : decode cJ6_bitCount_0f7a4 40 = .ok (.istore_n 0, 1) := by decide +kernel
theorem dJ6_bitCount_0f7a4_41 : decode cJ6_bitCount_0f7a4 41 = .ok (.iload_n 0, 1) := by decide +kernel
theorem dJ6_bitCount_0f7a4_42 : decode cJ6_bitCount_0f7a4 42 = .ok (.iload_n 0, 1) := by decide +kernel
theorem dJ6_bitCount_0f7a4_43 : decode cJ6_bitCount_0f7a4 43 = .ok (.bipush 16, 2) := by decide +kernel
theorem dJ6_bitCount_0f7a4_45 : decode cJ6_bitCount_0f7a4 45 = .ok (.iushr, 1) := by decide +kernel
theorem dJ6_bitCount_0f7a4_46 : decode cJ6_bitCount_0f7a4 46 = .ok (.iadd, 1) := by decide +kernel
theorem dJ6_bitCount_0f7a4_47 : decode cJ6_bitCount_0f7a4 47 = .ok (.istore_n 0, 1) := by decide +kernel
theorem dJ6_bitCount_0f7a4_48 : decode cJ6_bitCount_0f7a4 48 = .ok (.iload_n 0, 1) := by decide +kernel
theorem dJ6_bitCount_0f7a4_49 : decode cJ6_bitCount_0f7a4 49 = .ok (.bipush 63, 2) := by decide +kernel
theorem dJ6_bitCount_0f7a4_51 : decode cJ6_bitCount_0f7a4 51 = .ok (.iand, 1) := by decide +kernel
theorem dJ6_bitCount_0f7a4_52 : decode cJ6_bitCount_0f7a4 52 = .ok (.ireturn, 1) := by decide +kernel
theorem dJ9_floorMod_7cf53_0 : decode cJ9_floorMod_7cf53 0 = .ok (.iload_n 0, 1) := by decide +kernel
theorem dJ9_floorMod_7cf53_1 : decode cJ9_floorMod_7cf53 1 = .ok (.iload_n 1, 1) := by decide +kernel
theorem dJ9_floorMod_7cf53_2 : decode cJ9_floorMod_7cf53 2 = .ok (.irem, 1) := by decide +kernel
theorem dJ9_floorMod_7cf53_3 : decode cJ9_floorMod_7cf53 3 = .ok (.istore_n 2, 1) := by decide +kernel
theorem dJ9_floorMod_7cf53_4 : decode cJ9_floorMod_7cf53 4 = .ok (.iload_n 0, 1) := by decide +kernel
theorem dJ9_floorMod_7cf53_5 : decode cJ9_floorMod_7cf53 5 = .ok (.iload_n 1, 1) := by decide +kernel
theorem dJ9_floorMod_7cf53_6 : decode cJ9_floorMod_7cf53 6 = .ok (.ixor, 1) := by decide +kernel
theorem dJ9_floorMod_7cf53_7 : decode cJ9_floorMod_7cf53 7 = .ok (.ifCond .ge 11, 3) := by decide +kernel
theorem dJ9_floorMod_7cf53_10 : decode cJ9_floorMod_7cf53 10 = .ok (.iload_n 2, 1) := by decide +kernel
theorem dJ9_floorMod_7cf53_11 : decode cJ9_floorMod_7cf53 11 = .ok (.ifCond .eq 7, 3) := by decide +kernel
theorem dJ9_floorMod_7cf53_14 : decode cJ9_floorMod_7cf53 14 = .ok (.iload_n 2, 1) := by decide +kernel
theorem dJ9_floorMod_7cf53_15 : decode cJ9_floorMod_7cf53 15 = .ok (.iload_n 1, 1) := by decide +kernel
theorem dJ9_floorMod_7cf53_16 : decode cJ9_floorMod_7cf53 16 = .ok (.iadd, 1) := by decide +kernel
theorem dJ9_floorMod_7cf53_17 : decode cJ9_floorMod_7cf53 17 = .ok (.ireturn, 1) := by decide +kernel
theorem dJ9_floorMod_7cf53_18 : decode cJ9_floorMod_7cf53 18 = .ok (.iload_n 2, 1) := by decide +kernel
theorem dJ9_floorMod_7cf53_19 : decode cJ9_floorMod_7cf53 19 = .ok (.ireturn, 1) := by decide +kernel
theorem dJ9_max_7cf53_0 : decode cJ9_max_7cf53 0 = .ok (.iload_n 0, 1) := by decide +kernel
theorem dJ9_max_7cf53_1 : decode cJ9_max_7cf53 1 = .ok (.iload_n 1, 1) := by decide +kernel
theorem dJ9_max_7cf53_2 : decode cJ9_max_7cf53 2 = .ok (.if_icmp .lt 7, 3) := by decide +kernel
theorem dJ9_max_7cf53_5 : decode cJ9_max_7cf53 5 = .ok (.iload_n 0, 1) := by decide +kernel
theorem dJ9_max_7cf53_6 : decode cJ9_max_7cf53 6 = .ok (.goto 4, 3) := by decide +kernel
theorem dJ9_max_7cf53_9 : decode cJ9_max_7cf53 9 = .ok (.iload_n 1, 1) := by decide +kernel
theorem dJ9_max_7cf53_10 : decode cJ9_max_7cf53 10 = .ok (.ireturn, 1) := by decide +kernel
theorem dJ9_min_7cf53_0 : decode cJ9_min_7cf53 0 = .ok (.iload_n 0, 1) := by decide +kernel
theorem dJ9_min_7cf53_1 : decode cJ9_min_7cf53 1 = .ok (.iload_n 1, 1) := by decide +kernel
theorem dJ9_min_7cf53_2 : decode cJ9_min_7cf53 2 = .ok (.if_icmp .gt 7, 3) := by decide +kernel
theorem dJ9_min_7cf53_5 : decode cJ9_min_7cf53 5 = .ok (.iload_n 0, 1) := by decide +kernel
theorem dJ9_min_7cf53_6 : decode cJ9_min_7cf53 6 = .ok (.goto 4, 3) := by decide +kernel
theorem dJ9_min_7cf53_9 : decode cJ9_min_7cf53 9 = .ok (.iload_n 1, 1) := by decide +kernel
theorem dJ9_min_7cf53_10 : decode cJ9_min_7cf53 10 = .ok (.ireturn, 1) := by decide +kernel
theorem dL_rule_0 : decode cL_rule 0 = .ok (.aload_n 3, 1) := by decide +kernel
theorem dL_rule_1 : decode cL_rule 1 = .ok (.iconst 0, 1) := by decide +kernel
theorem dL_rule_2 : decode cL_rule 2 = .ok (.aload_n 0, 1) := by decide +kernel
theorem dL_rule_3 : decode cL_rule 3 = .ok (.iload_n 1, 1) := by decide +kernel
theorem dL_rule_4 : decode cL_rule 4 = .ok (.iload_n 2, 1) := by decide +kernel
theorem dL_rule_5 : decode cL_rule 5 = .ok (.invokevirtual 7, 3) := by decide +kernel
theorem dL_rule_8 : decode cL_rule 8 = .ok (.i2l, 1) := by decide +kernel
theorem dL_rule_9 : decode cL_rule 9 = .ok (.lastore, 1) := by decide +kernel
theorem dL_rule_10 : decode cL_rule 10 = .ok (.goto 7, 3) := by decide +kernel
theorem dL_rule_13 : decode cL_rule 13 = .ok (.astore 4, 2) := by decide +kernel
theorem dL_rule_15 : decode cL_rule 15 = .ok (.iconst 1, 1) := by decide +kernel
theorem dL_rule_16 : decode cL_rule 16 = .ok (.ireturn, 1) := by decide +kernel
theorem dL_rule_17 : decode cL_rule 17 = .ok (.iconst 0, 1) := by decide +kernel
theorem dL_rule_18 : decode cL_rule 18 = .ok (.ireturn, 1) := by decide +kernel
theorem dL_tide_0 : decode cL_tide 0 = .ok (.aload_n 3, 1) := by decide +kernel
theorem dL_tide_1 : decode cL_tide 1 = .ok (.iconst 0, 1) := by decide +kernel
theorem dL_tide_2 : decode cL_tide 2 = .ok (.aload_n 0, 1) := by decide +kernel
theorem dL_tide_3 : decode cL_tide 3 = .ok (.iload_n 1, 1) := by decide +kernel
theorem dL_tide_4 : decode cL_tide 4 = .ok (.iload_n 2, 1) := by decide +kernel
theorem dL_tide_5 : decode cL_tide 5 = .ok (.invokevirtual 15, 3) := by decide +kernel
theorem dL_tide_8 : decode cL_tide 8 = .ok (.i2l, 1) := by decide +kernel
theorem dL_tide_9 : decode cL_tide 9 = .ok (.lastore, 1) := by decide +kernel
theorem dL_tide_10 : decode cL_tide 10 = .ok (.goto 7, 3) := by decide +kernel
theorem dL_tide_13 : decode cL_tide 13 = .ok (.astore 4, 2) := by decide +kernel
theorem dL_tide_15 : decode cL_tide 15 = .ok (.iconst 1, 1) := by decide +kernel
theorem dL_tide_16 : decode cL_tide 16 = .ok (.ireturn, 1) := by decide +kernel
theorem dL_tide_17 : decode cL_tide 17 = .ok (.iconst 0, 1) := by decide +kernel
theorem dL_tide_18 : decode cL_tide 18 = .ok (.ireturn, 1) := by decide +kernel
theorem dL_depth_0 : decode cL_depth 0 = .ok (.aload_n 2, 1) := by decide +kernel
theorem dL_depth_1 : decode cL_depth 1 = .ok (.iconst 0, 1) := by decide +kernel
theorem dL_depth_2 : decode cL_depth 2 = .ok (.aload_n 0, 1) := by decide +kernel
theorem dL_depth_3 : decode cL_depth 3 = .ok (.iload_n 1, 1) := by decide +kernel
theorem dL_depth_4 : decode cL_depth 4 = .ok (.invokevirtual 18, 3) := by decide +kernel
theorem dL_depth_7 : decode cL_depth 7 = .ok (.i2l, 1) := by decide +kernel
theorem dL_depth_8 : decode cL_depth 8 = .ok (.lastore, 1) := by decide +kernel
theorem dL_depth_9 : decode cL_depth 9 = .ok (.goto 6, 3) := by decide +kernel
theorem dL_depth_12 : decode cL_depth 12 = .ok (.astore_n 3, 1) := by decide +kernel
theorem dL_depth_13 : decode cL_depth 13 = .ok (.iconst 1, 1) := by decide +kernel
theorem dL_depth_14 : decode cL_depth 14 = .ok (.ireturn, 1) := by decide +kernel
theorem dL_depth_15 : decode cL_depth 15 = .ok (.iconst 0, 1) := by decide +kernel
theorem dL_depth_16 : decode cL_depth 16 = .ok (.ireturn, 1) := by decide +kernel
theorem dL_addPilot_0 : decode cL_addPilot 0 = .ok (.aload_n 2, 1) := by decide +kernel
theorem dL_addPilot_1 : decode cL_addPilot 1 = .ok (.iconst 0, 1) := by decide +kernel
theorem dL_addPilot_2 : decode cL_addPilot 2 = .ok (.aload_n 0, 1) := by decide +kernel
theorem dL_addPilot_3 : decode cL_addPilot 3 = .ok (.iload_n 1, 1) := by decide +kernel
theorem dL_addPilot_4 : decode cL_addPilot 4 = .ok (.invokevirtual 24, 3) := by decide +kernel
theorem dL_addPilot_7 : decode cL_addPilot 7 = .ok (.i2l, 1) := by decide +kernel
theorem dL_addPilot_8 : decode cL_addPilot 8 = .ok (.lastore, 1) := by decide +kernel
theorem dL_addPilot_9 : decode cL_addPilot 9 = .ok (.goto 9, 3) := by decide +kernel
theorem dL_addPilot_12 : decode cL_addPilot 12 = .ok (.astore_n 3, 1) := by decide +kernel
theorem dL_addPilot_13 : decode cL_addPilot 13 = .ok (.iconst 1, 1) := by decide +kernel
theorem dL_addPilot_14 : decode cL_addPilot 14 = .ok (.ireturn, 1) := by decide +kernel
theorem dL_addPilot_15 : decode cL_addPilot 15 = .ok (.astore_n 3, 1) := by decide +kernel
theorem dL_addPilot_16 : decode cL_addPilot 16 = .ok (.iconst 2, 1) := by decide +kernel
theorem dL_addPilot_17 : decode cL_addPilot 17 = .ok (.ireturn, 1) := by decide +kernel
theorem dL_addPilot_18 : decode cL_addPilot 18 = .ok (.iconst 0, 1) := by decide +kernel
theorem dL_addPilot_19 : decode cL_addPilot 19 = .ok (.ireturn, 1) := by decide +kernel
theorem dL_addBoat_0 : decode cL_addBoat 0 = .ok (.aload_n 2, 1) := by decide +kernel
theorem dL_addBoat_1 : decode cL_addBoat 1 = .ok (.iconst 0, 1) := by decide +kernel
theorem dL_addBoat_2 : decode cL_addBoat 2 = .ok (.aload_n 0, 1) := by decide +kernel
theorem dL_addBoat_3 : decode cL_addBoat 3 = .ok (.iload_n 1, 1) := by decide +kernel
theorem dL_addBoat_4 : decode cL_addBoat 4 = .ok (.invokevirtual 29, 3) := by decide +kernel
theorem dL_addBoat_7 : decode cL_addBoat 7 = .ok (.i2l, 1) := by decide +kernel
theorem dL_addBoat_8 : decode cL_addBoat 8 = .ok (.lastore, 1) := by decide +kernel
theorem dL_addBoat_9 : decode cL_addBoat 9 = .ok (.goto 9, 3) := by decide +kernel
theorem dL_addBoat_12 : decode cL_addBoat 12 = .ok (.astore_n 3, 1) := by decide +kernel
theorem dL_addBoat_13 : decode cL_addBoat 13 = .ok (.iconst 1, 1) := by decide +kernel
theorem dL_addBoat_14 : decode cL_addBoat 14 = .ok (.ireturn, 1) := by decide +kernel
theorem dL_addBoat_15 : decode cL_addBoat 15 = .ok (.astore_n 3, 1) := by decide +kernel
theorem dL_addBoat_16 : decode cL_addBoat 16 = .ok (.iconst 2, 1) := by decide +kernel
theorem dL_addBoat_17 : decode cL_addBoat 17 = .ok (.ireturn, 1) := by decide +kernel
theorem dL_addBoat_18 : decode cL_addBoat 18 = .ok (.iconst 0, 1) := by decide +kernel
theorem dL_addBoat_19 : decode cL_addBoat 19 = .ok (.ireturn, 1) := by decide +kernel
theorem dL_order_0 : decode cL_order 0 = .ok (.aload 6, 2) := by decide +kernel
theorem dL_order_2 : decode cL_order 2 = .ok (.iconst 0, 1) := by decide +kernel
theorem dL_order_3 : decode cL_order 3 = .ok (.aload_n 0, 1) := by decide +kernel
theorem dL_order_4 : decode cL_order 4 = .ok (.iload_n 1, 1) := by decide +kernel
theorem dL_order_5 : decode cL_order 5 = .ok (.iload_n 2, 1) := by decide +kernel
theorem dL_order_6 : decode cL_order 6 = .ok (.iload_n 3, 1) := by decide +kernel
theorem dL_order_7 : decode cL_order 7 = .ok (.iload 4, 2) := by decide +kernel
theorem dL_order_9 : decode cL_order 9 = .ok (.iload 5, 2) := by decide +kernel
theorem dL_order_11 : decode cL_order 11 = .ok (.invokevirtual 32, 3) := by decide +kernel
theorem dL_order_14 : decode cL_order 14 = .ok (.i2l, 1) := by decide +kernel
theorem dL_order_15 : decode cL_order 15 = .ok (.lastore, 1) := by decide +kernel
theorem dL_order_16 : decode cL_order 16 = .ok (.goto 11, 3) := by decide +kernel
theorem dL_order_19 : decode cL_order 19 = .ok (.astore 7, 2) := by decide +kernel
theorem dL_order_21 : decode cL_order 21 = .ok (.iconst 1, 1) := by decide +kernel
theorem dL_order_22 : decode cL_order 22 = .ok (.ireturn, 1) := by decide +kernel
theorem dL_order_23 : decode cL_order 23 = .ok (.astore 7, 2) := by decide +kernel
theorem dL_order_25 : decode cL_order 25 = .ok (.iconst 2, 1) := by decide +kernel
theorem dL_order_26 : decode cL_order 26 = .ok (.ireturn, 1) := by decide +kernel
theorem dL_order_27 : decode cL_order 27 = .ok (.iconst 0, 1) := by decide +kernel
theorem dL_order_28 : decode cL_order 28 = .ok (.ireturn, 1) := by decide +kernel
theorem dL_orderOf_0 : decode cL_orderOf 0 = .ok (.aload_n 3, 1) := by decide +kernel
theorem dL_orderOf_1 : decode cL_orderOf 1 = .ok (.iconst 0, 1) := by decide +kernel
theorem dL_orderOf_2 : decode cL_orderOf 2 = .ok (.aload_n 0, 1) := by decide +kernel
theorem dL_orderOf_3 : decode cL_orderOf 3 = .ok (.iload_n 1, 1) := by decide +kernel
theorem dL_orderOf_4 : decode cL_orderOf 4 = .ok (.iload_n 2, 1) := by decide +kernel
theorem dL_orderOf_5 : decode cL_orderOf 5 = .ok (.invokevirtual 36, 3) := by decide +kernel
theorem dL_orderOf_8 : decode cL_orderOf 8 = .ok (.i2l, 1) := by decide +kernel
theorem dL_orderOf_9 : decode cL_orderOf 9 = .ok (.lastore, 1) := by decide +kernel
theorem dL_orderOf_10 : decode cL_orderOf 10 = .ok (.goto 11, 3) := by decide +kernel
theorem dL_orderOf_13 : decode cL_orderOf 13 = .ok (.astore 4, 2) := by decide +kernel
theorem dL_orderOf_15 : decode cL_orderOf 15 = .ok (.iconst 1, 1) := by decide +kernel
theorem dL_orderOf_16 : decode cL_orderOf 16 = .ok (.ireturn, 1) := by decide +kernel
theorem dL_orderOf_17 : decode cL_orderOf 17 = .ok (.astore 4, 2) := by decide +kernel
theorem dL_orderOf_19 : decode cL_orderOf 19 = .ok (.iconst 2, 1) := by decide +kernel
theorem dL_orderOf_20 : decode cL_orderOf 20 = .ok (.ireturn, 1) := by decide +kernel
theorem dL_orderOf_21 : decode cL_orderOf 21 = .ok (.iconst 0, 1) := by decide +kernel
theorem dL_orderOf_22 : decode cL_orderOf 22 = .ok (.ireturn, 1) := by decide +kernel
theorem dL_window_0 : decode cL_window 0 = .ok (.aload_n 3, 1) := by decide +kernel
theorem dL_window_1 : decode cL_window 1 = .ok (.iconst 0, 1) := by decide +kernel
theorem dL_window_2 : decode cL_window 2 = .ok (.aload_n 0, 1) := by decide +kernel
theorem dL_window_3 : decode cL_window 3 = .ok (.iload_n 1, 1) := by decide +kernel
theorem dL_window_4 : decode cL_window 4 = .ok (.iload_n 2, 1) := by decide +kernel
theorem dL_window_5 : decode cL_window 5 = .ok (.invokevirtual 39, 3) := by decide +kernel
theorem dL_window_8 : decode cL_window 8 = .ok (.i2l, 1) := by decide +kernel
theorem dL_window_9 : decode cL_window 9 = .ok (.lastore, 1) := by decide +kernel
theorem dL_window_10 : decode cL_window 10 = .ok (.goto 11, 3) := by decide +kernel
theorem dL_window_13 : decode cL_window 13 = .ok (.astore 4, 2) := by decide +kernel
theorem dL_window_15 : decode cL_window 15 = .ok (.iconst 1, 1) := by decide +kernel
theorem dL_window_16 : decode cL_window 16 = .ok (.ireturn, 1) := by decide +kernel
theorem dL_window_17 : decode cL_window 17 = .ok (.astore 4, 2) := by decide +kernel
theorem dL_window_19 : decode cL_window 19 = .ok (.iconst 2, 1) := by decide +kernel
theorem dL_window_20 : decode cL_window 20 = .ok (.ireturn, 1) := by decide +kernel
theorem dL_window_21 : decode cL_window 21 = .ok (.iconst 0, 1) := by decide +kernel
theorem dL_window_22 : decode cL_window 22 = .ok (.ireturn, 1) := by decide +kernel
theorem dL_hinders_0 : decode cL_hinders 0 = .ok (.aload 4, 2) := by decide +kernel
theorem dL_hinders_2 : decode cL_hinders 2 = .ok (.iconst 0, 1) := by decide +kernel
theorem dL_hinders_3 : decode cL_hinders 3 = .ok (.aload_n 0, 1) := by decide +kernel
theorem dL_hinders_4 : decode cL_hinders 4 = .ok (.iload_n 1, 1) := by decide +kernel
theorem dL_hinders_5 : decode cL_hinders 5 = .ok (.iload_n 2, 1) := by decide +kernel
theorem dL_hinders_6 : decode cL_hinders 6 = .ok (.iload_n 3, 1) := by decide +kernel
theorem dL_hinders_7 : decode cL_hinders 7 = .ok (.invokevirtual 44, 3) := by decide +kernel
theorem dL_hinders_10 : decode cL_hinders 10 = .ok (.i2l, 1) := by decide +kernel
theorem dL_hinders_11 : decode cL_hinders 11 = .ok (.lastore, 1) := by decide +kernel
theorem dL_hinders_12 : decode cL_hinders 12 = .ok (.goto 7, 3) := by decide +kernel
theorem dL_hinders_15 : decode cL_hinders 15 = .ok (.astore 5, 2) := by decide +kernel
theorem dL_hinders_17 : decode cL_hinders 17 = .ok (.iconst 1, 1) := by decide +kernel
theorem dL_hinders_18 : decode cL_hinders 18 = .ok (.ireturn, 1) := by decide +kernel
theorem dL_hinders_19 : decode cL_hinders 19 = .ok (.iconst 0, 1) := by decide +kernel
theorem dL_hinders_20 : decode cL_hinders 20 = .ok (.ireturn, 1) := by decide +kernel
theorem dL_plan_0 : decode cL_plan 0 = .ok (.aload 4, 2) := by decide +kernel
theorem dL_plan_2 : decode cL_plan 2 = .ok (.iconst 0, 1) := by decide +kernel
theorem dL_plan_3 : decode cL_plan 3 = .ok (.aload_n 0, 1) := by decide +kernel
theorem dL_plan_4 : decode cL_plan 4 = .ok (.iload_n 1, 1) := by decide +kernel
theorem dL_plan_5 : decode cL_plan 5 = .ok (.iload_n 2, 1) := by decide +kernel
theorem dL_plan_6 : decode cL_plan 6 = .ok (.iload_n 3, 1) := by decide +kernel
theorem dL_plan_7 : decode cL_plan 7 = .ok (.invokevirtual 48, 3) := by decide +kernel
theorem dL_plan_10 : decode cL_plan 10 = .ok (.i2l, 1) := by decide +kernel
theorem dL_plan_11 : decode cL_plan 11 = .ok (.lastore, 1) := by decide +kernel
theorem dL_plan_12 : decode cL_plan 12 = .ok (.goto 11, 3) := by decide +kernel
theorem dL_plan_15 : decode cL_plan 15 = .ok (.astore 5, 2) := by decide +kernel
theorem dL_plan_17 : decode cL_plan 17 = .ok (.iconst 1, 1) := by decide +kernel
theorem dL_plan_18 : decode cL_plan 18 = .ok (.ireturn, 1) := by decide +kernel
theorem dL_plan_19 : decode cL_plan 19 = .ok (.astore 5, 2) := by decide +kernel
theorem dL_plan_21 : decode cL_plan 21 = .ok (.iconst 2, 1) := by decide +kernel
theorem dL_plan_22 : decode cL_plan 22 = .ok (.ireturn, 1) := by decide +kernel
theorem dL_plan_23 : decode cL_plan 23 = .ok (.iconst 0, 1) := by decide +kernel
theorem dL_plan_24 : decode cL_plan 24 = .ok (.ireturn, 1) := by decide +kernel
theorem dL_run_0 : decode cL_run 0 = .ok (.aload 4, 2) := by decide +kernel
theorem dL_run_2 : decode cL_run 2 = .ok (.iconst 0, 1) := by decide +kernel
theorem dL_run_3 : decode cL_run 3 = .ok (.aload_n 0, 1) := by decide +kernel
theorem dL_run_4 : decode cL_run 4 = .ok (.iload_n 1, 1) := by decide +kernel
theorem dL_run_5 : decode cL_run 5 = .ok (.iload_n 2, 1) := by decide +kernel
theorem dL_run_6 : decode cL_run 6 = .ok (.iload_n 3, 1) := by decide +kernel
theorem dL_run_7 : decode cL_run 7 = .ok (.invokevirtual 53, 3) := by decide +kernel
theorem dL_run_10 : decode cL_run 10 = .ok (.i2l, 1) := by decide +kernel
theorem dL_run_11 : decode cL_run 11 = .ok (.lastore, 1) := by decide +kernel
theorem dL_run_12 : decode cL_run 12 = .ok (.goto 15, 3) := by decide +kernel
theorem dL_run_15 : decode cL_run 15 = .ok (.astore 5, 2) := by decide +kernel
theorem dL_run_17 : decode cL_run 17 = .ok (.iconst 1, 1) := by decide +kernel
theorem dL_run_18 : decode cL_run 18 = .ok (.ireturn, 1) := by decide +kernel
theorem dL_run_19 : decode cL_run 19 = .ok (.astore 5, 2) := by decide +kernel
theorem dL_run_21 : decode cL_run 21 = .ok (.iconst 2, 1) := by decide +kernel
theorem dL_run_22 : decode cL_run 22 = .ok (.ireturn, 1) := by decide +kernel
theorem dL_run_23 : decode cL_run 23 = .ok (.astore 5, 2) := by decide +kernel
theorem dL_run_25 : decode cL_run 25 = .ok (.iconst 3, 1) := by decide +kernel
theorem dL_run_26 : decode cL_run 26 = .ok (.ireturn, 1) := by decide +kernel
theorem dL_run_27 : decode cL_run 27 = .ok (.iconst 0, 1) := by decide +kernel
theorem dL_run_28 : decode cL_run 28 = .ok (.ireturn, 1) := by decide +kernel
theorem dL_serving_0 : decode cL_serving 0 = .ok (.aload_n 3, 1) := by decide +kernel
theorem dL_serving_1 : decode cL_serving 1 = .ok (.iconst 0, 1) := by decide +kernel
theorem dL_serving_2 : decode cL_serving 2 = .ok (.aload_n 0, 1) := by decide +kernel
theorem dL_serving_3 : decode cL_serving 3 = .ok (.iload_n 1, 1) := by decide +kernel
theorem dL_serving_4 : decode cL_serving 4 = .ok (.iload_n 2, 1) := by decide +kernel
theorem dL_serving_5 : decode cL_serving 5 = .ok (.invokevirtual 56, 3) := by decide +kernel
theorem dL_serving_8 : decode cL_serving 8 = .ok (.i2l, 1) := by decide +kernel
theorem dL_serving_9 : decode cL_serving 9 = .ok (.lastore, 1) := by decide +kernel
theorem dL_serving_10 : decode cL_serving 10 = .ok (.goto 15, 3) := by decide +kernel
theorem dL_serving_13 : decode cL_serving 13 = .ok (.astore 4, 2) := by decide +kernel
theorem dL_serving_15 : decode cL_serving 15 = .ok (.iconst 1, 1) := by decide +kernel
theorem dL_serving_16 : decode cL_serving 16 = .ok (.ireturn, 1) := by decide +kernel
theorem dL_serving_17 : decode cL_serving 17 = .ok (.astore 4, 2) := by decide +kernel
theorem dL_serving_19 : decode cL_serving 19 = .ok (.iconst 2, 1) := by decide +kernel
theorem dL_serving_20 : decode cL_serving 20 = .ok (.ireturn, 1) := by decide +kernel
theorem dL_serving_21 : decode cL_serving 21 = .ok (.astore 4, 2) := by decide +kernel
theorem dL_serving_23 : decode cL_serving 23 = .ok (.iconst 3, 1) := by decide +kernel
theorem dL_serving_24 : decode cL_serving 24 = .ok (.ireturn, 1) := by decide +kernel
theorem dL_serving_25 : decode cL_serving 25 = .ok (.iconst 0, 1) := by decide +kernel
theorem dL_serving_26 : decode cL_serving 26 = .ok (.ireturn, 1) := by decide +kernel
theorem dL_serve_0 : decode cL_serve 0 = .ok (.aload_n 2, 1) := by decide +kernel
theorem dL_serve_1 : decode cL_serve 1 = .ok (.iconst 0, 1) := by decide +kernel
theorem dL_serve_2 : decode cL_serve 2 = .ok (.aload_n 0, 1) := by decide +kernel
theorem dL_serve_3 : decode cL_serve 3 = .ok (.iload_n 1, 1) := by decide +kernel
theorem dL_serve_4 : decode cL_serve 4 = .ok (.invokevirtual 59, 3) := by decide +kernel
theorem dL_serve_7 : decode cL_serve 7 = .ok (.i2l, 1) := by decide +kernel
theorem dL_serve_8 : decode cL_serve 8 = .ok (.lastore, 1) := by decide +kernel
theorem dL_serve_9 : decode cL_serve 9 = .ok (.goto 9, 3) := by decide +kernel
theorem dL_serve_12 : decode cL_serve 12 = .ok (.astore_n 3, 1) := by decide +kernel
theorem dL_serve_13 : decode cL_serve 13 = .ok (.iconst 1, 1) := by decide +kernel
theorem dL_serve_14 : decode cL_serve 14 = .ok (.ireturn, 1) := by decide +kernel
theorem dL_serve_15 : decode cL_serve 15 = .ok (.astore_n 3, 1) := by decide +kernel
theorem dL_serve_16 : decode cL_serve 16 = .ok (.iconst 2, 1) := by decide +kernel
theorem dL_serve_17 : decode cL_serve 17 = .ok (.ireturn, 1) := by decide +kernel
theorem dL_serve_18 : decode cL_serve 18 = .ok (.iconst 0, 1) := by decide +kernel
theorem dL_serve_19 : decode cL_serve 19 = .ok (.ireturn, 1) := by decide +kernel
theorem dL_release_0 : decode cL_release 0 = .ok (.aload_n 2, 1) := by decide +kernel
theorem dL_release_1 : decode cL_release 1 = .ok (.iconst 0, 1) := by decide +kernel
theorem dL_release_2 : decode cL_release 2 = .ok (.aload_n 0, 1) := by decide +kernel
theorem dL_release_3 : decode cL_release 3 = .ok (.iload_n 1, 1) := by decide +kernel
theorem dL_release_4 : decode cL_release 4 = .ok (.invokevirtual 62, 3) := by decide +kernel
theorem dL_release_7 : decode cL_release 7 = .ok (.i2l, 1) := by decide +kernel
theorem dL_release_8 : decode cL_release 8 = .ok (.lastore, 1) := by decide +kernel
theorem dL_release_9 : decode cL_release 9 = .ok (.goto 9, 3) := by decide +kernel
theorem dL_release_12 : decode cL_release 12 = .ok (.astore_n 3, 1) := by decide +kernel
theorem dL_release_13 : decode cL_release 13 = .ok (.iconst 1, 1) := by decide +kernel
theorem dL_release_14 : decode cL_release 14 = .ok (.ireturn, 1) := by decide +kernel
theorem dL_release_15 : decode cL_release 15 = .ok (.astore_n 3, 1) := by decide +kernel
theorem dL_release_16 : decode cL_release 16 = .ok (.iconst 2, 1) := by decide +kernel
theorem dL_release_17 : decode cL_release 17 = .ok (.ireturn, 1) := by decide +kernel
theorem dL_release_18 : decode cL_release 18 = .ok (.iconst 0, 1) := by decide +kernel
theorem dL_release_19 : decode cL_release 19 = .ok (.ireturn, 1) := by decide +kernel
theorem dL_putOff_0 : decode cL_putOff 0 = .ok (.aload_n 3, 1) := by decide +kernel
theorem dL_putOff_1 : decode cL_putOff 1 = .ok (.iconst 0, 1) := by decide +kernel
theorem dL_putOff_2 : decode cL_putOff 2 = .ok (.aload_n 0, 1) := by decide +kernel
theorem dL_putOff_3 : decode cL_putOff 3 = .ok (.iload_n 1, 1) := by decide +kernel
theorem dL_putOff_4 : decode cL_putOff 4 = .ok (.iload_n 2, 1) := by decide +kernel
theorem dL_putOff_5 : decode cL_putOff 5 = .ok (.invokevirtual 65, 3) := by decide +kernel
theorem dL_putOff_8 : decode cL_putOff 8 = .ok (.i2l, 1) := by decide +kernel
theorem dL_putOff_9 : decode cL_putOff 9 = .ok (.lastore, 1) := by decide +kernel
theorem dL_putOff_10 : decode cL_putOff 10 = .ok (.goto 15, 3) := by decide +kernel
theorem dL_putOff_13 : decode cL_putOff 13 = .ok (.astore 4, 2) := by decide +kernel
theorem dL_putOff_15 : decode cL_putOff 15 = .ok (.iconst 1, 1) := by decide +kernel
theorem dL_putOff_16 : decode cL_putOff 16 = .ok (.ireturn, 1) := by decide +kernel
theorem dL_putOff_17 : decode cL_putOff 17 = .ok (.astore 4, 2) := by decide +kernel
theorem dL_putOff_19 : decode cL_putOff 19 = .ok (.iconst 2, 1) := by decide +kernel
theorem dL_putOff_20 : decode cL_putOff 20 = .ok (.ireturn, 1) := by decide +kernel
theorem dL_putOff_21 : decode cL_putOff 21 = .ok (.astore 4, 2) := by decide +kernel
theorem dL_putOff_23 : decode cL_putOff 23 = .ok (.iconst 3, 1) := by decide +kernel
theorem dL_putOff_24 : decode cL_putOff 24 = .ok (.ireturn, 1) := by decide +kernel
theorem dL_putOff_25 : decode cL_putOff 25 = .ok (.iconst 0, 1) := by decide +kernel
theorem dL_putOff_26 : decode cL_putOff 26 = .ok (.ireturn, 1) := by decide +kernel
theorem dL_urgent_0 : decode cL_urgent 0 = .ok (.aload_n 2, 1) := by decide +kernel
theorem dL_urgent_1 : decode cL_urgent 1 = .ok (.iconst 0, 1) := by decide +kernel
theorem dL_urgent_2 : decode cL_urgent 2 = .ok (.aload_n 0, 1) := by decide +kernel
theorem dL_urgent_3 : decode cL_urgent 3 = .ok (.iload_n 1, 1) := by decide +kernel
theorem dL_urgent_4 : decode cL_urgent 4 = .ok (.invokevirtual 68, 3) := by decide +kernel
theorem dL_urgent_7 : decode cL_urgent 7 = .ok (.i2l, 1) := by decide +kernel
theorem dL_urgent_8 : decode cL_urgent 8 = .ok (.lastore, 1) := by decide +kernel
theorem dL_urgent_9 : decode cL_urgent 9 = .ok (.goto 6, 3) := by decide +kernel
theorem dL_urgent_12 : decode cL_urgent 12 = .ok (.astore_n 3, 1) := by decide +kernel
theorem dL_urgent_13 : decode cL_urgent 13 = .ok (.iconst 1, 1) := by decide +kernel
theorem dL_urgent_14 : decode cL_urgent 14 = .ok (.ireturn, 1) := by decide +kernel
theorem dL_urgent_15 : decode cL_urgent 15 = .ok (.iconst 0, 1) := by decide +kernel
theorem dL_urgent_16 : decode cL_urgent 16 = .ok (.ireturn, 1) := by decide +kernel
theorem dL_pilot_0 : decode cL_pilot 0 = .ok (.aload_n 3, 1) := by decide +kernel
theorem dL_pilot_1 : decode cL_pilot 1 = .ok (.iconst 0, 1) := by decide +kernel
theorem dL_pilot_2 : decode cL_pilot 2 = .ok (.aload_n 0, 1) := by decide +kernel
theorem dL_pilot_3 : decode cL_pilot 3 = .ok (.iload_n 1, 1) := by decide +kernel
theorem dL_pilot_4 : decode cL_pilot 4 = .ok (.iload_n 2, 1) := by decide +kernel
theorem dL_pilot_5 : decode cL_pilot 5 = .ok (.invokevirtual 71, 3) := by decide +kernel
theorem dL_pilot_8 : decode cL_pilot 8 = .ok (.i2l, 1) := by decide +kernel
theorem dL_pilot_9 : decode cL_pilot 9 = .ok (.lastore, 1) := by decide +kernel
theorem dL_pilot_10 : decode cL_pilot 10 = .ok (.goto 11, 3) := by decide +kernel
theorem dL_pilot_13 : decode cL_pilot 13 = .ok (.astore 4, 2) := by decide +kernel
theorem dL_pilot_15 : decode cL_pilot 15 = .ok (.iconst 1, 1) := by decide +kernel
theorem dL_pilot_16 : decode cL_pilot 16 = .ok (.ireturn, 1) := by decide +kernel
theorem dL_pilot_17 : decode cL_pilot 17 = .ok (.astore 4, 2) := by decide +kernel
theorem dL_pilot_19 : decode cL_pilot 19 = .ok (.iconst 2, 1) := by decide +kernel
theorem dL_pilot_20 : decode cL_pilot 20 = .ok (.ireturn, 1) := by decide +kernel
theorem dL_pilot_21 : decode cL_pilot 21 = .ok (.iconst 0, 1) := by decide +kernel
theorem dL_pilot_22 : decode cL_pilot 22 = .ok (.ireturn, 1) := by decide +kernel
theorem dL_planOf_0 : decode cL_planOf 0 = .ok (.aload 4, 2) := by decide +kernel
theorem dL_planOf_2 : decode cL_planOf 2 = .ok (.iconst 0, 1) := by decide +kernel
theorem dL_planOf_3 : decode cL_planOf 3 = .ok (.aload_n 0, 1) := by decide +kernel
theorem dL_planOf_4 : decode cL_planOf 4 = .ok (.iload_n 1, 1) := by decide +kernel
theorem dL_planOf_5 : decode cL_planOf 5 = .ok (.iload_n 2, 1) := by decide +kernel
theorem dL_planOf_6 : decode cL_planOf 6 = .ok (.iload_n 3, 1) := by decide +kernel
theorem dL_planOf_7 : decode cL_planOf 7 = .ok (.invokevirtual 74, 3) := by decide +kernel
theorem dL_planOf_10 : decode cL_planOf 10 = .ok (.i2l, 1) := by decide +kernel
theorem dL_planOf_11 : decode cL_planOf 11 = .ok (.lastore, 1) := by decide +kernel
theorem dL_planOf_12 : decode cL_planOf 12 = .ok (.goto 15, 3) := by decide +kernel
theorem dL_planOf_15 : decode cL_planOf 15 = .ok (.astore 5, 2) := by decide +kernel
theorem dL_planOf_17 : decode cL_planOf 17 = .ok (.iconst 1, 1) := by decide +kernel
theorem dL_planOf_18 : decode cL_planOf 18 = .ok (.ireturn, 1) := by decide +kernel
theorem dL_planOf_19 : decode cL_planOf 19 = .ok (.astore 5, 2) := by decide +kernel
theorem dL_planOf_21 : decode cL_planOf 21 = .ok (.iconst 2, 1) := by decide +kernel
theorem dL_planOf_22 : decode cL_planOf 22 = .ok (.ireturn, 1) := by decide +kernel
theorem dL_planOf_23 : decode cL_planOf 23 = .ok (.astore 5, 2) := by decide +kernel
theorem dL_planOf_25 : decode cL_planOf 25 = .ok (.iconst 3, 1) := by decide +kernel
theorem dL_planOf_26 : decode cL_planOf 26 = .ok (.ireturn, 1) := by decide +kernel
theorem dL_planOf_27 : decode cL_planOf 27 = .ok (.iconst 0, 1) := by decide +kernel
theorem dL_planOf_28 : decode cL_planOf 28 = .ok (.ireturn, 1) := by decide +kernel
theorem dL_place_0 : decode cL_place 0 = .ok (.aload_n 3, 1) := by decide +kernel
theorem dL_place_1 : decode cL_place 1 = .ok (.iconst 0, 1) := by decide +kernel
theorem dL_place_2 : decode cL_place 2 = .ok (.aload_n 0, 1) := by decide +kernel
theorem dL_place_3 : decode cL_place 3 = .ok (.iload_n 1, 1) := by decide +kernel
theorem dL_place_4 : decode cL_place 4 = .ok (.iload_n 2, 1) := by decide +kernel
theorem dL_place_5 : decode cL_place 5 = .ok (.invokevirtual 77, 3) := by decide +kernel
theorem dL_place_8 : decode cL_place 8 = .ok (.i2l, 1) := by decide +kernel
theorem dL_place_9 : decode cL_place 9 = .ok (.lastore, 1) := by decide +kernel
theorem dL_place_10 : decode cL_place 10 = .ok (.goto 7, 3) := by decide +kernel
theorem dL_place_13 : decode cL_place 13 = .ok (.astore 4, 2) := by decide +kernel
theorem dL_place_15 : decode cL_place 15 = .ok (.iconst 1, 1) := by decide +kernel
theorem dL_place_16 : decode cL_place 16 = .ok (.ireturn, 1) := by decide +kernel
theorem dL_place_17 : decode cL_place 17 = .ok (.iconst 0, 1) := by decide +kernel
theorem dL_place_18 : decode cL_place 18 = .ok (.ireturn, 1) := by decide +kernel
theorem dL_placeAgain_0 : decode cL_placeAgain 0 = .ok (.aload_n 3, 1) := by decide +kernel
theorem dL_placeAgain_1 : decode cL_placeAgain 1 = .ok (.iconst 0, 1) := by decide +kernel
theorem dL_placeAgain_2 : decode cL_placeAgain 2 = .ok (.aload_n 0, 1) := by decide +kernel
theorem dL_placeAgain_3 : decode cL_placeAgain 3 = .ok (.iload_n 1, 1) := by decide +kernel
theorem dL_placeAgain_4 : decode cL_placeAgain 4 = .ok (.iload_n 2, 1) := by decide +kernel
theorem dL_placeAgain_5 : decode cL_placeAgain 5 = .ok (.invokevirtual 80, 3) := by decide +kernel
theorem dL_placeAgain_8 : decode cL_placeAgain 8 = .ok (.i2l, 1) := by decide +kernel
theorem dL_placeAgain_9 : decode cL_placeAgain 9 = .ok (.lastore, 1) := by decide +kernel
theorem dL_placeAgain_10 : decode cL_placeAgain 10 = .ok (.goto 7, 3) := by decide +kernel
theorem dL_placeAgain_13 : decode cL_placeAgain 13 = .ok (.astore 4, 2) := by decide +kernel
theorem dL_placeAgain_15 : decode cL_placeAgain 15 = .ok (.iconst 1, 1) := by decide +kernel
theorem dL_placeAgain_16 : decode cL_placeAgain 16 = .ok (.ireturn, 1) := by decide +kernel
theorem dL_placeAgain_17 : decode cL_placeAgain 17 = .ok (.iconst 0, 1) := by decide +kernel
theorem dL_placeAgain_18 : decode cL_placeAgain 18 = .ok (.ireturn, 1) := by decide +kernel
theorem dL_boat_0 : decode cL_boat 0 = .ok (.aload_n 3, 1) := by decide +kernel
theorem dL_boat_1 : decode cL_boat 1 = .ok (.iconst 0, 1) := by decide +kernel
theorem dL_boat_2 : decode cL_boat 2 = .ok (.aload_n 0, 1) := by decide +kernel
theorem dL_boat_3 : decode cL_boat 3 = .ok (.iload_n 1, 1) := by decide +kernel
theorem dL_boat_4 : decode cL_boat 4 = .ok (.iload_n 2, 1) := by decide +kernel
theorem dL_boat_5 : decode cL_boat 5 = .ok (.invokevirtual 83, 3) := by decide +kernel
theorem dL_boat_8 : decode cL_boat 8 = .ok (.i2l, 1) := by decide +kernel
theorem dL_boat_9 : decode cL_boat 9 = .ok (.lastore, 1) := by decide +kernel
theorem dL_boat_10 : decode cL_boat 10 = .ok (.goto 11, 3) := by decide +kernel
theorem dL_boat_13 : decode cL_boat 13 = .ok (.astore 4, 2) := by decide +kernel
theorem dL_boat_15 : decode cL_boat 15 = .ok (.iconst 1, 1) := by decide +kernel
theorem dL_boat_16 : decode cL_boat 16 = .ok (.ireturn, 1) := by decide +kernel
theorem dL_boat_17 : decode cL_boat 17 = .ok (.astore 4, 2) := by decide +kernel
theorem dL_boat_19 : decode cL_boat 19 = .ok (.iconst 2, 1) := by decide +kernel
theorem dL_boat_20 : decode cL_boat 20 = .ok (.ireturn, 1) := by decide +kernel
theorem dL_boat_21 : decode cL_boat 21 = .ok (.iconst 0, 1) := by decide +kernel
theorem dL_boat_22 : decode cL_boat 22 = .ok (.ireturn, 1) := by decide +kernel
theorem dL_pass_0 : decode cL_pass 0 = .ok (.aload_n 2, 1) := by decide +kernel
theorem dL_pass_1 : decode cL_pass 1 = .ok (.iconst 0, 1) := by decide +kernel
theorem dL_pass_2 : decode cL_pass 2 = .ok (.aload_n 0, 1) := by decide +kernel
theorem dL_pass_3 : decode cL_pass 3 = .ok (.iload_n 1, 1) := by decide +kernel
theorem dL_pass_4 : decode cL_pass 4 = .ok (.invokevirtual 86, 3) := by decide +kernel
theorem dL_pass_7 : decode cL_pass 7 = .ok (.i2l, 1) := by decide +kernel
theorem dL_pass_8 : decode cL_pass 8 = .ok (.lastore, 1) := by decide +kernel
theorem dL_pass_9 : decode cL_pass 9 = .ok (.goto 9, 3) := by decide +kernel
theorem dL_pass_12 : decode cL_pass 12 = .ok (.astore_n 3, 1) := by decide +kernel
theorem dL_pass_13 : decode cL_pass 13 = .ok (.iconst 1, 1) := by decide +kernel
theorem dL_pass_14 : decode cL_pass 14 = .ok (.ireturn, 1) := by decide +kernel
theorem dL_pass_15 : decode cL_pass 15 = .ok (.astore_n 3, 1) := by decide +kernel
theorem dL_pass_16 : decode cL_pass 16 = .ok (.iconst 2, 1) := by decide +kernel
theorem dL_pass_17 : decode cL_pass 17 = .ok (.ireturn, 1) := by decide +kernel
theorem dL_pass_18 : decode cL_pass 18 = .ok (.iconst 0, 1) := by decide +kernel
theorem dL_pass_19 : decode cL_pass 19 = .ok (.ireturn, 1) := by decide +kernel
theorem dL_number_0 : decode cL_number 0 = .ok (.aload_n 2, 1) := by decide +kernel
theorem dL_number_1 : decode cL_number 1 = .ok (.iconst 0, 1) := by decide +kernel
theorem dL_number_2 : decode cL_number 2 = .ok (.aload_n 0, 1) := by decide +kernel
theorem dL_number_3 : decode cL_number 3 = .ok (.iload_n 1, 1) := by decide +kernel
theorem dL_number_4 : decode cL_number 4 = .ok (.invokevirtual 89, 3) := by decide +kernel
theorem dL_number_7 : decode cL_number 7 = .ok (.i2l, 1) := by decide +kernel
theorem dL_number_8 : decode cL_number 8 = .ok (.lastore, 1) := by decide +kernel
theorem dL_number_9 : decode cL_number 9 = .ok (.goto 6, 3) := by decide +kernel
theorem dL_number_12 : decode cL_number 12 = .ok (.astore_n 3, 1) := by decide +kernel
theorem dL_number_13 : decode cL_number 13 = .ok (.iconst 1, 1) := by decide +kernel
theorem dL_number_14 : decode cL_number 14 = .ok (.ireturn, 1) := by decide +kernel
theorem dL_number_15 : decode cL_number 15 = .ok (.iconst 0, 1) := by decide +kernel
theorem dL_number_16 : decode cL_number 16 = .ok (.ireturn, 1) := by decide +kernel
theorem dL_meanWait_0 : decode cL_meanWait 0 = .ok (.aload_n 1, 1) := by decide +kernel
theorem dL_meanWait_1 : decode cL_meanWait 1 = .ok (.iconst 0, 1) := by decide +kernel
theorem dL_meanWait_2 : decode cL_meanWait 2 = .ok (.aload_n 0, 1) := by decide +kernel
theorem dL_meanWait_3 : decode cL_meanWait 3 = .ok (.invokevirtual 92, 3) := by decide +kernel
theorem dL_meanWait_6 : decode cL_meanWait 6 = .ok (.dastore, 1) := by decide +kernel
theorem dL_meanWait_7 : decode cL_meanWait 7 = .ok (.goto 6, 3) := by decide +kernel
theorem dL_meanWait_10 : decode cL_meanWait 10 = .ok (.astore_n 2, 1) := by decide +kernel
theorem dL_meanWait_11 : decode cL_meanWait 11 = .ok (.iconst 1, 1) := by decide +kernel
theorem dL_meanWait_12 : decode cL_meanWait 12 = .ok (.ireturn, 1) := by decide +kernel
theorem dL_meanWait_13 : decode cL_meanWait 13 = .ok (.iconst 0, 1) := by decide +kernel
theorem dL_meanWait_14 : decode cL_meanWait 14 = .ok (.ireturn, 1) := by decide +kernel
theorem dL_share_0 : decode cL_share 0 = .ok (.aload_n 2, 1) := by decide +kernel
theorem dL_share_1 : decode cL_share 1 = .ok (.iconst 0, 1) := by decide +kernel
theorem dL_share_2 : decode cL_share 2 = .ok (.aload_n 0, 1) := by decide +kernel
theorem dL_share_3 : decode cL_share 3 = .ok (.iload_n 1, 1) := by decide +kernel
theorem dL_share_4 : decode cL_share 4 = .ok (.invokevirtual 98, 3) := by decide +kernel
theorem dL_share_7 : decode cL_share 7 = .ok (.f2d, 1) := by decide +kernel
theorem dL_share_8 : decode cL_share 8 = .ok (.dastore, 1) := by decide +kernel
theorem dL_share_9 : decode cL_share 9 = .ok (.goto 9, 3) := by decide +kernel
theorem dL_share_12 : decode cL_share 12 = .ok (.astore_n 3, 1) := by decide +kernel
theorem dL_share_13 : decode cL_share 13 = .ok (.iconst 1, 1) := by decide +kernel
theorem dL_share_14 : decode cL_share 14 = .ok (.ireturn, 1) := by decide +kernel
theorem dL_share_15 : decode cL_share 15 = .ok (.astore_n 3, 1) := by decide +kernel
theorem dL_share_16 : decode cL_share 16 = .ok (.iconst 2, 1) := by decide +kernel
theorem dL_share_17 : decode cL_share 17 = .ok (.ireturn, 1) := by decide +kernel
theorem dL_share_18 : decode cL_share 18 = .ok (.iconst 0, 1) := by decide +kernel
theorem dL_share_19 : decode cL_share 19 = .ok (.ireturn, 1) := by decide +kernel
theorem dL_feed_0 : decode cL_feed 0 = .ok (.aload_n 2, 1) := by decide +kernel
theorem dL_feed_1 : decode cL_feed 1 = .ok (.iconst 0, 1) := by decide +kernel
theorem dL_feed_2 : decode cL_feed 2 = .ok (.aload_n 0, 1) := by decide +kernel
theorem dL_feed_3 : decode cL_feed 3 = .ok (.iload_n 1, 1) := by decide +kernel
theorem dL_feed_4 : decode cL_feed 4 = .ok (.invokevirtual 102, 3) := by decide +kernel
theorem dL_feed_7 : decode cL_feed 7 = .ok (.i2l, 1) := by decide +kernel
theorem dL_feed_8 : decode cL_feed 8 = .ok (.lastore, 1) := by decide +kernel
theorem dL_feed_9 : decode cL_feed 9 = .ok (.goto 6, 3) := by decide +kernel
theorem dL_feed_12 : decode cL_feed 12 = .ok (.astore_n 3, 1) := by decide +kernel
theorem dL_feed_13 : decode cL_feed 13 = .ok (.iconst 1, 1) := by decide +kernel
theorem dL_feed_14 : decode cL_feed 14 = .ok (.ireturn, 1) := by decide +kernel
theorem dL_feed_15 : decode cL_feed 15 = .ok (.iconst 0, 1) := by decide +kernel
theorem dL_feed_16 : decode cL_feed 16 = .ok (.ireturn, 1) := by decide +kernel
theorem dL_read_0 : decode cL_read 0 = .ok (.aload_n 1, 1) := by decide +kernel
theorem dL_read_1 : decode cL_read 1 = .ok (.iconst 0, 1) := by decide +kernel
theorem dL_read_2 : decode cL_read 2 = .ok (.aload_n 0, 1) := by decide +kernel
theorem dL_read_3 : decode cL_read 3 = .ok (.invokevirtual 106, 3) := by decide +kernel
theorem dL_read_6 : decode cL_read 6 = .ok (.i2l, 1) := by decide +kernel
theorem dL_read_7 : decode cL_read 7 = .ok (.lastore, 1) := by decide +kernel
theorem dL_read_8 : decode cL_read 8 = .ok (.goto 9, 3) := by decide +kernel
theorem dL_read_11 : decode cL_read 11 = .ok (.astore_n 2, 1) := by decide +kernel
theorem dL_read_12 : decode cL_read 12 = .ok (.iconst 1, 1) := by decide +kernel
theorem dL_read_13 : decode cL_read 13 = .ok (.ireturn, 1) := by decide +kernel
theorem dL_read_14 : decode cL_read 14 = .ok (.astore_n 2, 1) := by decide +kernel
theorem dL_read_15 : decode cL_read 15 = .ok (.iconst 2, 1) := by decide +kernel
theorem dL_read_16 : decode cL_read 16 = .ok (.ireturn, 1) := by decide +kernel
theorem dL_read_17 : decode cL_read 17 = .ok (.iconst 0, 1) := by decide +kernel
theorem dL_read_18 : decode cL_read 18 = .ok (.ireturn, 1) := by decide +kernel
theorem dL_faultPosition_0 : decode cL_faultPosition 0 = .ok (.aload_n 1, 1) := by decide +kernel
theorem dL_faultPosition_1 : decode cL_faultPosition 1 = .ok (.iconst 0, 1) := by decide +kernel
theorem dL_faultPosition_2 : decode cL_faultPosition 2 = .ok (.aload_n 0, 1) := by decide +kernel
theorem dL_faultPosition_3 : decode cL_faultPosition 3 = .ok (.invokevirtual 110, 3) := by decide +kernel
theorem dL_faultPosition_6 : decode cL_faultPosition 6 = .ok (.i2l, 1) := by decide +kernel
theorem dL_faultPosition_7 : decode cL_faultPosition 7 = .ok (.lastore, 1) := by decide +kernel
theorem dL_faultPosition_8 : decode cL_faultPosition 8 = .ok (.goto 6, 3) := by decide +kernel
theorem dL_faultPosition_11 : decode cL_faultPosition 11 = .ok (.astore_n 2, 1) := by decide +kernel
theorem dL_faultPosition_12 : decode cL_faultPosition 12 = .ok (.iconst 1, 1) := by decide +kernel
theorem dL_faultPosition_13 : decode cL_faultPosition 13 = .ok (.ireturn, 1) := by decide +kernel
theorem dL_faultPosition_14 : decode cL_faultPosition 14 = .ok (.iconst 0, 1) := by decide +kernel
theorem dL_faultPosition_15 : decode cL_faultPosition 15 = .ok (.ireturn, 1) := by decide +kernel
theorem dL_refusal_0 : decode cL_refusal 0 = .ok (.aload_n 2, 1) := by decide +kernel
theorem dL_refusal_1 : decode cL_refusal 1 = .ok (.iconst 0, 1) := by decide +kernel
theorem dL_refusal_2 : decode cL_refusal 2 = .ok (.aload_n 0, 1) := by decide +kernel
theorem dL_refusal_3 : decode cL_refusal 3 = .ok (.iload_n 1, 1) := by decide +kernel
theorem dL_refusal_4 : decode cL_refusal 4 = .ok (.invokevirtual 113, 3) := by decide +kernel
theorem dL_refusal_7 : decode cL_refusal 7 = .ok (.i2l, 1) := by decide +kernel
theorem dL_refusal_8 : decode cL_refusal 8 = .ok (.lastore, 1) := by decide +kernel
theorem dL_refusal_9 : decode cL_refusal 9 = .ok (.goto 6, 3) := by decide +kernel
theorem dL_refusal_12 : decode cL_refusal 12 = .ok (.astore_n 3, 1) := by decide +kernel
theorem dL_refusal_13 : decode cL_refusal 13 = .ok (.iconst 1, 1) := by decide +kernel
theorem dL_refusal_14 : decode cL_refusal 14 = .ok (.ireturn, 1) := by decide +kernel
theorem dL_refusal_15 : decode cL_refusal 15 = .ok (.iconst 0, 1) := by decide +kernel
theorem dL_refusal_16 : decode cL_refusal 16 = .ok (.ireturn, 1) := by decide +kernel
theorem dL_undo_0 : decode cL_undo 0 = .ok (.aload_n 1, 1) := by decide +kernel
theorem dL_undo_1 : decode cL_undo 1 = .ok (.iconst 0, 1) := by decide +kernel
theorem dL_undo_2 : decode cL_undo 2 = .ok (.aload_n 0, 1) := by decide +kernel
theorem dL_undo_3 : decode cL_undo 3 = .ok (.invokevirtual 117, 3) := by decide +kernel
theorem dL_undo_6 : decode cL_undo 6 = .ok (.i2l, 1) := by decide +kernel
theorem dL_undo_7 : decode cL_undo 7 = .ok (.lastore, 1) := by decide +kernel
theorem dL_undo_8 : decode cL_undo 8 = .ok (.goto 6, 3) := by decide +kernel
theorem dL_undo_11 : decode cL_undo 11 = .ok (.astore_n 2, 1) := by decide +kernel
theorem dL_undo_12 : decode cL_undo 12 = .ok (.iconst 1, 1) := by decide +kernel
theorem dL_undo_13 : decode cL_undo 13 = .ok (.ireturn, 1) := by decide +kernel
theorem dL_undo_14 : decode cL_undo 14 = .ok (.iconst 0, 1) := by decide +kernel
theorem dL_undo_15 : decode cL_undo 15 = .ok (.ireturn, 1) := by decide +kernel
theorem dL_restoreSnapshot_0 : decode cL_restoreSnapshot 0 = .ok (.aload_n 1, 1) := by decide +kernel
theorem dL_restoreSnapshot_1 : decode cL_restoreSnapshot 1 = .ok (.iconst 0, 1) := by decide +kernel
theorem dL_restoreSnapshot_2 : decode cL_restoreSnapshot 2 = .ok (.aload_n 0, 1) := by decide +kernel
theorem dL_restoreSnapshot_3 : decode cL_restoreSnapshot 3 = .ok (.invokevirtual 120, 3) := by decide +kernel
theorem dL_restoreSnapshot_6 : decode cL_restoreSnapshot 6 = .ok (.i2l, 1) := by decide +kernel
theorem dL_restoreSnapshot_7 : decode cL_restoreSnapshot 7 = .ok (.lastore, 1) := by decide +kernel
theorem dL_restoreSnapshot_8 : decode cL_restoreSnapshot 8 = .ok (.goto 6, 3) := by decide +kernel
theorem dL_restoreSnapshot_11 : decode cL_restoreSnapshot 11 = .ok (.astore_n 2, 1) := by decide +kernel
theorem dL_restoreSnapshot_12 : decode cL_restoreSnapshot 12 = .ok (.iconst 1, 1) := by decide +kernel
theorem dL_restoreSnapshot_13 : decode cL_restoreSnapshot 13 = .ok (.ireturn, 1) := by decide +kernel
theorem dL_restoreSnapshot_14 : decode cL_restoreSnapshot 14 = .ok (.iconst 0, 1) := by decide +kernel
theorem dL_restoreSnapshot_15 : decode cL_restoreSnapshot 15 = .ok (.ireturn, 1) := by decide +kernel
theorem dL_law_0 : decode cL_law 0 = .ok (.new 8, 3) := by decide +kernel
theorem dL_law_3 : decode cL_law 3 = .ok (.dup, 1) := by decide +kernel
theorem dL_law_4 : decode cL_law 4 = .ok (.invokespecial 123, 3) := by decide +kernel
theorem dL_law_7 : decode cL_law 7 = .ok (.astore_n 1, 1) := by decide +kernel
theorem dL_law_8 : decode cL_law 8 = .ok (.new 124, 3) := by decide +kernel
theorem dL_law_11 : decode cL_law 11 = .ok (.dup, 1) := by decide +kernel
theorem dL_law_12 : decode cL_law 12 = .ok (.invokespecial 126, 3) := by decide +kernel
theorem dL_law_15 : decode cL_law 15 = .ok (.astore_n 2, 1) := by decide +kernel
theorem dL_law_16 : decode cL_law 16 = .ok (.iconst 1, 1) := by decide +kernel
theorem dL_law_17 : decode cL_law 17 = .ok (.newarray .long, 2) := by decide +kernel
theorem dL_law_19 : decode cL_law 19 = .ok (.astore_n 3, 1) := by decide +kernel
theorem dL_law_20 : decode cL_law 20 = .ok (.iconst 1, 1) := by decide +kernel
theorem dL_law_21 : decode cL_law 21 = .ok (.newarray .double, 2) := by decide +kernel
theorem dL_law_23 : decode cL_law 23 = .ok (.astore 4, 2) := by decide +kernel
theorem dL_law_25 : decode cL_law 25 = .ok (.iconst 0, 1) := by decide +kernel
theorem dL_law_26 : decode cL_law 26 = .ok (.istore 5, 2) := by decide +kernel
theorem dL_law_28 : decode cL_law 28 = .ok (.iload 5, 2) := by decide +kernel
theorem dL_law_30 : decode cL_law 30 = .ok (.aload_n 0, 1) := by decide +kernel
theorem dL_law_31 : decode cL_law 31 = .ok (.arraylength, 1) := by decide +kernel
theorem dL_law_32 : decode cL_law 32 = .ok (.bipush 6, 2) := by decide +kernel
theorem dL_law_34 : decode cL_law 34 = .ok (.isub, 1) := by decide +kernel
theorem dL_law_35 : decode cL_law 35 = .ok (.if_icmp .gt 2206, 3) := by decide +kernel
theorem dL_law_38 : decode cL_law 38 = .ok (.aload_n 0, 1) := by decide +kernel
theorem dL_law_39 : decode cL_law 39 = .ok (.iload 5, 2) := by decide +kernel
theorem dL_law_41 : decode cL_law 41 = .ok (.iaload, 1) := by decide +kernel
theorem dL_law_42 : decode cL_law 42 = .ok (.bipush 63, 2) := by decide +kernel
theorem dL_law_44 : decode cL_law 44 = .ok (.iand, 1) := by decide +kernel
theorem dL_law_45 : decode cL_law 45 = .ok (.tableswitch 2190 0 32 #[147, 215, 283, 339, 395, 451, 571, 639, 707, 787, 867, 947, 1015, 1071, 1084, 1140, 1208, 1264, 1332, 1412, 1480, 1548, 1616, 1672, 1728, 1793, 1871, 1929, 1973, 2017, 2089, 2133, 2146], 147) := by decide +kernel
theorem dL_law_192 : decode cL_law 192 = .ok (.aload_n 1, 1) := by decide +kernel
theorem dL_law_193 : decode cL_law 193 = .ok (.aload_n 0, 1) := by decide +kernel
theorem dL_law_194 : decode cL_law 194 = .ok (.iload 5, 2) := by decide +kernel
theorem dL_law_196 : decode cL_law 196 = .ok (.iconst 1, 1) := by decide +kernel
theorem dL_law_197 : decode cL_law 197 = .ok (.iadd, 1) := by decide +kernel
theorem dL_law_198 : decode cL_law 198 = .ok (.iaload, 1) := by decide +kernel
theorem dL_law_199 : decode cL_law 199 = .ok (.aload_n 0, 1) := by decide +kernel
theorem dL_law_200 : decode cL_law 200 = .ok (.iload 5, 2) := by decide +kernel
theorem dL_law_202 : decode cL_law 202 = .ok (.iconst 2, 1) := by decide +kernel
theorem dL_law_203 : decode cL_law 203 = .ok (.iadd, 1) := by decide +kernel
theorem dL_law_204 : decode cL_law 204 = .ok (.iaload, 1) := by decide +kernel
theorem dL_law_205 : decode cL_law 205 = .ok (.aload_n 3, 1) := by decide +kernel
theorem dL_law_206 : decode cL_law 206 = .ok (.invokestatic 127, 3) := by decide +kernel
theorem dL_law_209 : decode cL_law 209 = .ok (.istore 6, 2) := by decide +kernel
theorem dL_law_211 : decode cL_law 211 = .ok (.aload_n 2, 1) := by decide +kernel
theorem dL_law_212 : decode cL_law 212 = .ok (.aload_n 0, 1) := by decide +kernel
theorem dL_law_213 : decode cL_law 213 = .ok (.iload 5, 2) := by decide +kernel
theorem dL_law_215 : decode cL_law 215 = .ok (.iconst 1, 1) := by decide +kernel
theorem dL_law_216 : decode cL_law 216 = .ok (.iadd, 1) := by decide +kernel
theorem dL_law_217 : decode cL_law 217 = .ok (.iaload, 1) := by decide +kernel
theorem dL_law_218 : decode cL_law 218 = .ok (.aload_n 0, 1) := by decide +kernel
theorem dL_law_219 : decode cL_law 219 = .ok (.iload 5, 2) := by decide +kernel
theorem dL_law_221 : decode cL_law 221 = .ok (.iconst 2, 1) := by decide +kernel
theorem dL_law_222 : decode cL_law 222 = .ok (.iadd, 1) := by decide +kernel
theorem dL_law_223 : decode cL_law 223 = .ok (.iaload, 1) := by decide +kernel
theorem dL_law_224 : decode cL_law 224 = .ok (.invokevirtual 132, 3) := by decide +kernel
theorem dL_law_227 : decode cL_law 227 = .ok (.istore 7, 2) := by decide +kernel
theorem dL_law_229 : decode cL_law 229 = .ok (.aload_n 2, 1) := by decide +kernel
theorem dL_law_230 : decode cL_law 230 = .ok (.invokevirtual 133, 3) := by decide +kernel
theorem dL_law_233 : decode cL_law 233 = .ok (.iload 6, 2) := by decide +kernel
theorem dL_law_235 : decode cL_law 235 = .ok (.if_icmp .eq 5, 3) := by decide +kernel
theorem dL_law_238 : decode cL_law 238 = .ok (.iconst 0, 1) := by decide +kernel
theorem dL_law_239 : decode cL_law 239 = .ok (.ireturn, 1) := by decide +kernel
theorem dL_law_240 : decode cL_law 240 = .ok (.iload 6, 2) := by decide +kernel
theorem dL_law_242 : decode cL_law 242 = .ok (.ifCond .ne 15, 3) := by decide +kernel
theorem dL_law_245 : decode cL_law 245 = .ok (.aload_n 3, 1) := by decide +kernel
theorem dL_law_246 : decode cL_law 246 = .ok (.iconst 0, 1) := by decide +kernel
theorem dL_law_247 : decode cL_law 247 = .ok (.laload, 1) := by decide +kernel
theorem dL_law_248 : decode cL_law 248 = .ok (.iload 7, 2) := by decide +kernel
theorem dL_law_250 : decode cL_law 250 = .ok (.i2l, 1) := by decide +kernel
theorem dL_law_251 : decode cL_law 251 = .ok (.lcmp, 1) := by decide +kernel
theorem dL_law_252 : decode cL_law 252 = .ok (.ifCond .eq 5, 3) := by decide +kernel
theorem dL_law_255 : decode cL_law 255 = .ok (.iconst 0, 1) := by decide +kernel
theorem dL_law_256 : decode cL_law 256 = .ok (.ireturn, 1) := by decide +kernel
theorem dL_law_257 : decode cL_law 257 = .ok (.goto 1978, 3) := by decide +kernel
theorem dL_law_260 : decode cL_law 260 = .ok (.aload_n 1, 1) := by decide +kernel
theorem dL_law_261 : decode cL_law 261 = .ok (.aload_n 0, 1) := by decide +kernel
theorem dL_law_262 : decode cL_law 262 = .ok (.iload 5, 2) := by decide +kernel
theorem dL_law_264 : decode cL_law 264 = .ok (.iconst 1, 1) := by decide +kernel
theorem dL_law_265 : decode cL_law 265 = .ok (.iadd, 1) := by decide +kernel
theorem dL_law_266 : decode cL_law 266 = .ok (.iaload, 1) := by decide +kernel
theorem dL_law_267 : decode cL_law 267 = .ok (.aload_n 0, 1) := by decide +kernel
theorem dL_law_268 : decode cL_law 268 = .ok (.iload 5, 2) := by decide +kernel
theorem dL_law_270 : decode cL_law 270 = .ok (.iconst 2, 1) := by decide +kernel
theorem dL_law_271 : decode cL_law 271 = .ok (.iadd, 1) := by decide +kernel
theorem dL_law_272 : decode cL_law 272 = .ok (.iaload, 1) := by decide +kernel
theorem dL_law_273 : decode cL_law 273 = .ok (.aload_n 3, 1) := by decide +kernel
theorem dL_law_274 : decode cL_law 274 = .ok (.invokestatic 136, 3) := by decide +kernel
theorem dL_law_277 : decode cL_law 277 = .ok (.istore 6, 2) := by decide +kernel
theorem dL_law_279 : decode cL_law 279 = .ok (.aload_n 2, 1) := by decide +kernel
theorem dL_law_280 : decode cL_law 280 = .ok (.aload_n 0, 1) := by decide +kernel
theorem dL_law_281 : decode cL_law 281 = .ok (.iload 5, 2) := by decide +kernel
theorem dL_law_283 : decode cL_law 283 = .ok (.iconst 1, 1) := by decide +kernel
theorem dL_law_284 : decode cL_law 284 = .ok (.iadd, 1) := by decide +kernel
theorem dL_law_285 : decode cL_law 285 = .ok (.iaload, 1) := by decide +kernel
theorem dL_law_286 : decode cL_law 286 = .ok (.aload_n 0, 1) := by decide +kernel
theorem dL_law_287 : decode cL_law 287 = .ok (.iload 5, 2) := by decide +kernel
theorem dL_law_289 : decode cL_law 289 = .ok (.iconst 2, 1) := by decide +kernel
theorem dL_law_290 : decode cL_law 290 = .ok (.iadd, 1) := by decide +kernel
theorem dL_law_291 : decode cL_law 291 = .ok (.iaload, 1) := by decide +kernel
theorem dL_law_292 : decode cL_law 292 = .ok (.invokevirtual 138, 3) := by decide +kernel
theorem dL_law_295 : decode cL_law 295 = .ok (.istore 7, 2) := by decide +kernel
theorem dL_law_297 : decode cL_law 297 = .ok (.aload_n 2, 1) := by decide +kernel
theorem dL_law_298 : decode cL_law 298 = .ok (.invokevirtual 133, 3) := by decide +kernel
theorem dL_law_301 : decode cL_law 301 = .ok (.iload 6, 2) := by decide +kernel
theorem dL_law_303 : decode cL_law 303 = .ok (.if_icmp .eq 5, 3) := by decide +kernel
theorem dL_law_306 : decode cL_law 306 = .ok (.iconst 0, 1) := by decide +kernel
theorem dL_law_307 : decode cL_law 307 = .ok (.ireturn, 1) := by decide +kernel
theorem dL_law_308 : decode cL_law 308 = .ok (.iload 6, 2) := by decide +kernel
theorem dL_law_310 : decode cL_law 310 = .ok (.ifCond .ne 15, 3) := by decide +kernel
theorem dL_law_313 : decode cL_law 313 = .ok (.aload_n 3, 1) := by decide +kernel
theorem dL_law_314 : decode cL_law 314 = .ok (.iconst 0, 1) := by decide +kernel
theorem dL_law_315 : decode cL_law 315 = .ok (.laload, 1) := by decide +kernel
theorem dL_law_316 : decode cL_law 316 = .ok (.iload 7, 2) := by decide +kernel
theorem dL_law_318 : decode cL_law 318 = .ok (.i2l, 1) := by decide +kernel
theorem dL_law_319 : decode cL_law 319 = .ok (.lcmp, 1) := by decide +kernel
theorem dL_law_320 : decode cL_law 320 = .ok (.ifCond .eq 5, 3) := by decide +kernel
theorem dL_law_323 : decode cL_law 323 = .ok (.iconst 0, 1) := by decide +kernel
theorem dL_law_324 : decode cL_law 324 = .ok (.ireturn, 1) := by decide +kernel
theorem dL_law_325 : decode cL_law 325 = .ok (.goto 1910, 3) := by decide +kernel
theorem dL_law_328 : decode cL_law 328 = .ok (.aload_n 1, 1) := by decide +kernel
theorem dL_law_329 : decode cL_law 329 = .ok (.aload_n 0, 1) := by decide +kernel
theorem dL_law_330 : decode cL_law 330 = .ok (.iload 5, 2) := by decide +kernel
theorem dL_law_332 : decode cL_law 332 = .ok (.iconst 1, 1) := by decide +kernel
theorem dL_law_333 : decode cL_law 333 = .ok (.iadd, 1) := by decide +kernel
theorem dL_law_334 : decode cL_law 334 = .ok (.iaload, 1) := by decide +kernel
theorem dL_law_335 : decode cL_law 335 = .ok (.aload_n 3, 1) := by decide +kernel
theorem dL_law_336 : decode cL_law 336 = .ok (.invokestatic 139, 3) := by decide +kernel
theorem dL_law_339 : decode cL_law 339 = .ok (.istore 6, 2) := by decide +kernel
theorem dL_law_341 : decode cL_law 341 = .ok (.aload_n 2, 1) := by decide +kernel
theorem dL_law_342 : decode cL_law 342 = .ok (.aload_n 0, 1) := by decide +kernel
theorem dL_law_343 : decode cL_law 343 = .ok (.iload 5, 2) := by decide +kernel
theorem dL_law_345 : decode cL_law 345 = .ok (.iconst 1, 1) := by decide +kernel
theorem dL_law_346 : decode cL_law 346 = .ok (.iadd, 1) := by decide +kernel
theorem dL_law_347 : decode cL_law 347 = .ok (.iaload, 1) := by decide +kernel
theorem dL_law_348 : decode cL_law 348 = .ok (.invokevirtual 142, 3) := by decide +kernel
theorem dL_law_351 : decode cL_law 351 = .ok (.istore 7, 2) := by decide +kernel
theorem dL_law_353 : decode cL_law 353 = .ok (.aload_n 2, 1) := by decide +kernel
theorem dL_law_354 : decode cL_law 354 = .ok (.invokevirtual 133, 3) := by decide +kernel
theorem dL_law_357 : decode cL_law 357 = .ok (.iload 6, 2) := by decide +kernel
theorem dL_law_359 : decode cL_law 359 = .ok (.if_icmp .eq 5, 3) := by decide +kernel
theorem dL_law_362 : decode cL_law 362 = .ok (.iconst 0, 1) := by decide +kernel
theorem dL_law_363 : decode cL_law 363 = .ok (.ireturn, 1) := by decide +kernel
theorem dL_law_364 : decode cL_law 364 = .ok (.iload 6, 2) := by decide +kernel
theorem dL_law_366 : decode cL_law 366 = .ok (.ifCond .ne 15, 3) := by decide +kernel
theorem dL_law_369 : decode cL_law 369 = .ok (.aload_n 3, 1) := by decide +kernel
theorem dL_law_370 : decode cL_law 370 = .ok (.iconst 0, 1) := by decide +kernel
theorem dL_law_371 : decode cL_law 371 = .ok (.laload, 1) := by decide +kernel
theorem dL_law_372 : decode cL_law 372 = .ok (.iload 7, 2) := by decide +kernel
theorem dL_law_374 : decode cL_law 374 = .ok (.i2l, 1) := by decide +kernel
theorem dL_law_375 : decode cL_law 375 = .ok (.lcmp, 1) := by decide +kernel
theorem dL_law_376 : decode cL_law 376 = .ok (.ifCond .eq 5, 3) := by decide +kernel
theorem dL_law_379 : decode cL_law 379 = .ok (.iconst 0, 1) := by decide +kernel
theorem dL_law_380 : decode cL_law 380 = .ok (.ireturn, 1) := by decide +kernel
theorem dL_law_381 : decode cL_law 381 = .ok (.goto 1854, 3) := by decide +kernel
theorem dL_law_384 : decode cL_law 384 = .ok (.aload_n 1, 1) := by decide +kernel
theorem dL_law_385 : decode cL_law 385 = .ok (.aload_n 0, 1) := by decide +kernel
theorem dL_law_386 : decode cL_law 386 = .ok (.iload 5, 2) := by decide +kernel
theorem dL_law_388 : decode cL_law 388 = .ok (.iconst 1, 1) := by decide +kernel
theorem dL_law_389 : decode cL_law 389 = .ok (.iadd, 1) := by decide +kernel
theorem dL_law_390 : decode cL_law 390 = .ok (.iaload, 1) := by decide +kernel
theorem dL_law_391 : decode cL_law 391 = .ok (.aload_n 3, 1) := by decide +kernel
theorem dL_law_392 : decode cL_law 392 = .ok (.invokestatic 143, 3) := by decide +kernel
theorem dL_law_395 : decode cL_law 395 = .ok (.istore 6, 2) := by decide +kernel
theorem dL_law_397 : decode cL_law 397 = .ok (.aload_n 2, 1) := by decide +kernel
theorem dL_law_398 : decode cL_law 398 = .ok (.aload_n 0, 1) := by decide +kernel
theorem dL_law_399 : decode cL_law 399 = .ok (.iload 5, 2) := by decide +kernel
theorem dL_law_401 : decode cL_law 401 = .ok (.iconst 1, 1) := by decide +kernel
theorem dL_law_402 : decode cL_law 402 = .ok (.iadd, 1) := by decide +kernel
theorem dL_law_403 : decode cL_law 403 = .ok (.iaload, 1) := by decide +kernel
theorem dL_law_404 : decode cL_law 404 = .ok (.invokevirtual 145, 3) := by decide +kernel
theorem dL_law_407 : decode cL_law 407 = .ok (.istore 7, 2) := by decide +kernel
theorem dL_law_409 : decode cL_law 409 = .ok (.aload_n 2, 1) := by decide +kernel
theorem dL_law_410 : decode cL_law 410 = .ok (.invokevirtual 133, 3) := by decide +kernel
theorem dL_law_413 : decode cL_law 413 = .ok (.iload 6, 2) := by decide +kernel
theorem dL_law_415 : decode cL_law 415 = .ok (.if_icmp .eq 5, 3) := by decide +kernel
theorem dL_law_418 : decode cL_law 418 = .ok (.iconst 0, 1) := by decide +kernel
theorem dL_law_419 : decode cL_law 419 = .ok (.ireturn, 1) := by decide +kernel
theorem dL_law_420 : decode cL_law 420 = .ok (.iload 6, 2) := by decide +kernel
theorem dL_law_422 : decode cL_law 422 = .ok (.ifCond .ne 15, 3) := by decide +kernel
theorem dL_law_425 : decode cL_law 425 = .ok (.aload_n 3, 1) := by decide +kernel
theorem dL_law_426 : decode cL_law 426 = .ok (.iconst 0, 1) := by decide +kernel
theorem dL_law_427 : decode cL_law 427 = .ok (.laload, 1) := by decide +kernel
theorem dL_law_428 : decode cL_law 428 = .ok (.iload 7, 2) := by decide +kernel
theorem dL_law_430 : decode cL_law 430 = .ok (.i2l, 1) := by decide +kernel
theorem dL_law_431 : decode cL_law 431 = .ok (.lcmp, 1) := by decide +kernel
theorem dL_law_432 : decode cL_law 432 = .ok (.ifCond .eq 5, 3) := by decide +kernel
theorem dL_law_435 : decode cL_law 435 = .ok (.iconst 0, 1) := by decide +kernel
theorem dL_law_436 : decode cL_law 436 = .ok (.ireturn, 1) := by decide +kernel
theorem dL_law_437 : decode cL_law 437 = .ok (.goto 1798, 3) := by decide +kernel
theorem dL_law_440 : decode cL_law 440 = .ok (.aload_n 1, 1) := by decide +kernel
theorem dL_law_441 : decode cL_law 441 = .ok (.aload_n 0, 1) := by decide +kernel
theorem dL_law_442 : decode cL_law 442 = .ok (.iload 5, 2) := by decide +kernel
theorem dL_law_444 : decode cL_law 444 = .ok (.iconst 1, 1) := by decide +kernel
theorem dL_law_445 : decode cL_law 445 = .ok (.iadd, 1) := by decide +kernel
theorem dL_law_446 : decode cL_law 446 = .ok (.iaload, 1) := by decide +kernel
theorem dL_law_447 : decode cL_law 447 = .ok (.aload_n 3, 1) := by decide +kernel
theorem dL_law_448 : decode cL_law 448 = .ok (.invokestatic 146, 3) := by decide +kernel
theorem dL_law_451 : decode cL_law 451 = .ok (.istore 6, 2) := by decide +kernel
theorem dL_law_453 : decode cL_law 453 = .ok (.aload_n 2, 1) := by decide +kernel
theorem dL_law_454 : decode cL_law 454 = .ok (.aload_n 0, 1) := by decide +kernel
theorem dL_law_455 : decode cL_law 455 = .ok (.iload 5, 2) := by decide +kernel
theorem dL_law_457 : decode cL_law 457 = .ok (.iconst 1, 1) := by decide +kernel
theorem dL_law_458 : decode cL_law 458 = .ok (.iadd, 1) := by decide +kernel
theorem dL_law_459 : decode cL_law 459 = .ok (.iaload, 1) := by decide +kernel
