theorem dX8_number_44 : decode cX8_number 44 = .ok (.bipush 30, 2) := by decide +kernel
theorem dX8_number_46 : decode cX8_number 46 = .ok (.if_icmp .lt 22, 3) := by decide +kernel
theorem dX8_number_49 : decode cX8_number 49 = .ok (.iload_n 1, 1) := by decide +kernel
theorem dX8_number_50 : decode cX8_number 50 = .ok (.bipush 42, 2) := by decide +kernel
theorem dX8_number_52 : decode cX8_number 52 = .ok (.if_icmp .ge 16, 3) := by decide +kernel
theorem dX8_number_55 : decode cX8_number 55 = .ok (.aload_n 0, 1) := by decide +kernel
theorem dX8_number_56 : decode cX8_number 56 = .ok (.getfield 10, 3) := by decide +kernel
theorem dX8_number_59 : decode cX8_number 59 = .ok (.getfield 77, 3) := by decide +kernel
theorem dX8_number_62 : decode cX8_number 62 = .ok (.iload_n 1, 1) := by decide +kernel
theorem dX8_number_63 : decode cX8_number 63 = .ok (.bipush 30, 2) := by decide +kernel
theorem dX8_number_65 : decode cX8_number 65 = .ok (.isub, 1) := by decide +kernel
theorem dX8_number_66 : decode cX8_number 66 = .ok (.iaload, 1) := by decide +kernel
theorem dX8_number_67 : decode cX8_number 67 = .ok (.ireturn, 1) := by decide +kernel
theorem dX8_number_68 : decode cX8_number 68 = .ok (.iload_n 1, 1) := by decide +kernel
theorem dX8_number_69 : decode cX8_number 69 = .ok (.tableswitch 135 4 13 #[55, 63, 71, 79, 87, 95, 103, 111, 119, 127], 55) := by decide +kernel
theorem dX8_number_124 : decode cX8_number 124 = .ok (.aload_n 0, 1) := by decide +kernel
theorem dX8_number_125 : decode cX8_number 125 = .ok (.getfield 10, 3) := by decide +kernel
theorem dX8_number_128 : decode cX8_number 128 = .ok (.getfield 339, 3) := by decide +kernel
theorem dX8_number_131 : decode cX8_number 131 = .ok (.ireturn, 1) := by decide +kernel
theorem dX8_number_132 : decode cX8_number 132 = .ok (.aload_n 0, 1) := by decide +kernel
theorem dX8_number_133 : decode cX8_number 133 = .ok (.getfield 10, 3) := by decide +kernel
theorem dX8_number_136 : decode cX8_number 136 = .ok (.getfield 90, 3) := by decide +kernel
theorem dX8_number_139 : decode cX8_number 139 = .ok (.ireturn, 1) := by decide +kernel
theorem dX8_number_140 : decode cX8_number 140 = .ok (.aload_n 0, 1) := by decide +kernel
theorem dX8_number_141 : decode cX8_number 141 = .ok (.getfield 10, 3) := by decide +kernel
theorem dX8_number_144 : decode cX8_number 144 = .ok (.getfield 103, 3) := by decide +kernel
theorem dX8_number_147 : decode cX8_number 147 = .ok (.ireturn, 1) := by decide +kernel
theorem dX8_number_148 : decode cX8_number 148 = .ok (.aload_n 0, 1) := by decide +kernel
theorem dX8_number_149 : decode cX8_number 149 = .ok (.getfield 10, 3) := by decide +kernel
theorem dX8_number_152 : decode cX8_number 152 = .ok (.invokevirtual 350, 3) := by decide +kernel
theorem dX8_number_155 : decode cX8_number 155 = .ok (.ireturn, 1) := by decide +kernel
theorem dX8_number_156 : decode cX8_number 156 = .ok (.aload_n 0, 1) := by decide +kernel
theorem dX8_number_157 : decode cX8_number 157 = .ok (.getfield 10, 3) := by decide +kernel
theorem dX8_number_160 : decode cX8_number 160 = .ok (.invokevirtual 353, 3) := by decide +kernel
theorem dX8_number_163 : decode cX8_number 163 = .ok (.ireturn, 1) := by decide +kernel
theorem dX8_number_164 : decode cX8_number 164 = .ok (.aload_n 0, 1) := by decide +kernel
theorem dX8_number_165 : decode cX8_number 165 = .ok (.getfield 10, 3) := by decide +kernel
theorem dX8_number_168 : decode cX8_number 168 = .ok (.invokevirtual 356, 3) := by decide +kernel
theorem dX8_number_171 : decode cX8_number 171 = .ok (.ireturn, 1) := by decide +kernel
theorem dX8_number_172 : decode cX8_number 172 = .ok (.aload_n 0, 1) := by decide +kernel
theorem dX8_number_173 : decode cX8_number 173 = .ok (.getfield 10, 3) := by decide +kernel
theorem dX8_number_176 : decode cX8_number 176 = .ok (.invokevirtual 359, 3) := by decide +kernel
theorem dX8_number_179 : decode cX8_number 179 = .ok (.ireturn, 1) := by decide +kernel
theorem dX8_number_180 : decode cX8_number 180 = .ok (.aload_n 0, 1) := by decide +kernel
theorem dX8_number_181 : decode cX8_number 181 = .ok (.getfield 10, 3) := by decide +kernel
theorem dX8_number_184 : decode cX8_number 184 = .ok (.invokevirtual 362, 3) := by decide +kernel
theorem dX8_number_187 : decode cX8_number 187 = .ok (.ireturn, 1) := by decide +kernel
theorem dX8_number_188 : decode cX8_number 188 = .ok (.aload_n 0, 1) := by decide +kernel
theorem dX8_number_189 : decode cX8_number 189 = .ok (.getfield 22, 3) := by decide +kernel
theorem dX8_number_192 : decode cX8_number 192 = .ok (.getfield 365, 3) := by decide +kernel
theorem dX8_number_195 : decode cX8_number 195 = .ok (.ireturn, 1) := by decide +kernel
theorem dX8_number_196 : decode cX8_number 196 = .ok (.aload_n 0, 1) := by decide +kernel
theorem dX8_number_197 : decode cX8_number 197 = .ok (.getfield 29, 3) := by decide +kernel
theorem dX8_number_200 : decode cX8_number 200 = .ok (.getfield 368, 3) := by decide +kernel
theorem dX8_number_203 : decode cX8_number 203 = .ok (.ireturn, 1) := by decide +kernel
theorem dX8_number_204 : decode cX8_number 204 = .ok (.new 51, 3) := by decide +kernel
theorem dX8_number_207 : decode cX8_number 207 = .ok (.dup, 1) := by decide +kernel
theorem dX8_number_208 : decode cX8_number 208 = .ok (.ldc_w 371, 3) := by decide +kernel
theorem dX8_number_211 : decode cX8_number 211 = .ok (.invokespecial 55, 3) := by decide +kernel
theorem dX8_number_214 : decode cX8_number 214 = .ok (.athrow, 1) := by decide +kernel
theorem dX8_meanWait_0 : decode cX8_meanWait 0 = .ok (.aload_n 0, 1) := by decide +kernel
theorem dX8_meanWait_1 : decode cX8_meanWait 1 = .ok (.getfield 10, 3) := by decide +kernel
theorem dX8_meanWait_4 : decode cX8_meanWait 4 = .ok (.iconst 1, 1) := by decide +kernel
theorem dX8_meanWait_5 : decode cX8_meanWait 5 = .ok (.invokevirtual 347, 3) := by decide +kernel
theorem dX8_meanWait_8 : decode cX8_meanWait 8 = .ok (.aload_n 0, 1) := by decide +kernel
theorem dX8_meanWait_9 : decode cX8_meanWait 9 = .ok (.getfield 10, 3) := by decide +kernel
theorem dX8_meanWait_12 : decode cX8_meanWait 12 = .ok (.iconst 2, 1) := by decide +kernel
theorem dX8_meanWait_13 : decode cX8_meanWait 13 = .ok (.invokevirtual 347, 3) := by decide +kernel
theorem dX8_meanWait_16 : decode cX8_meanWait 16 = .ok (.iadd, 1) := by decide +kernel
theorem dX8_meanWait_17 : decode cX8_meanWait 17 = .ok (.istore_n 1, 1) := by decide +kernel
theorem dX8_meanWait_18 : decode cX8_meanWait 18 = .ok (.iload_n 1, 1) := by decide +kernel
theorem dX8_meanWait_19 : decode cX8_meanWait 19 = .ok (.ifCond .ne 14, 3) := by decide +kernel
theorem dX8_meanWait_22 : decode cX8_meanWait 22 = .ok (.new 373, 3) := by decide +kernel
theorem dX8_meanWait_25 : decode cX8_meanWait 25 = .ok (.dup, 1) := by decide +kernel
theorem dX8_meanWait_26 : decode cX8_meanWait 26 = .ok (.ldc_w 375, 3) := by decide +kernel
theorem dX8_meanWait_29 : decode cX8_meanWait 29 = .ok (.invokespecial 377, 3) := by decide +kernel
theorem dX8_meanWait_32 : decode cX8_meanWait 32 = .ok (.athrow, 1) := by decide +kernel
theorem dX8_meanWait_33 : decode cX8_meanWait 33 = .ok (.aload_n 0, 1) := by decide +kernel
theorem dX8_meanWait_34 : decode cX8_meanWait 34 = .ok (.getfield 10, 3) := by decide +kernel
theorem dX8_meanWait_37 : decode cX8_meanWait 37 = .ok (.invokevirtual 378, 3) := by decide +kernel
theorem dX8_meanWait_40 : decode cX8_meanWait 40 = .ok (.i2d, 1) := by decide +kernel
theorem dX8_meanWait_41 : decode cX8_meanWait 41 = .ok (.iload_n 1, 1) := by decide +kernel
theorem dX8_meanWait_42 : decode cX8_meanWait 42 = .ok (.i2d, 1) := by decide +kernel
theorem dX8_meanWait_43 : decode cX8_meanWait 43 = .ok (.ddiv, 1) := by decide +kernel
theorem dX8_meanWait_44 : decode cX8_meanWait 44 = .ok (.dreturn, 1) := by decide +kernel
theorem dX8_share_0 : decode cX8_share 0 = .ok (.aload_n 0, 1) := by decide +kernel
theorem dX8_share_1 : decode cX8_share 1 = .ok (.iload_n 1, 1) := by decide +kernel
theorem dX8_share_2 : decode cX8_share 2 = .ok (.invokevirtual 180, 3) := by decide +kernel
theorem dX8_share_5 : decode cX8_share 5 = .ok (.aload_n 0, 1) := by decide +kernel
theorem dX8_share_6 : decode cX8_share 6 = .ok (.getfield 10, 3) := by decide +kernel
theorem dX8_share_9 : decode cX8_share 9 = .ok (.getfield 339, 3) := by decide +kernel
theorem dX8_share_12 : decode cX8_share 12 = .ok (.ifCond .ne 14, 3) := by decide +kernel
theorem dX8_share_15 : decode cX8_share 15 = .ok (.new 373, 3) := by decide +kernel
theorem dX8_share_18 : decode cX8_share 18 = .ok (.dup, 1) := by decide +kernel
theorem dX8_share_19 : decode cX8_share 19 = .ok (.ldc_w 381, 3) := by decide +kernel
theorem dX8_share_22 : decode cX8_share 22 = .ok (.invokespecial 377, 3) := by decide +kernel
theorem dX8_share_25 : decode cX8_share 25 = .ok (.athrow, 1) := by decide +kernel
theorem dX8_share_26 : decode cX8_share 26 = .ok (.aload_n 0, 1) := by decide +kernel
theorem dX8_share_27 : decode cX8_share 27 = .ok (.getfield 10, 3) := by decide +kernel
theorem dX8_share_30 : decode cX8_share 30 = .ok (.getfield 183, 3) := by decide +kernel
theorem dX8_share_33 : decode cX8_share 33 = .ok (.iload_n 1, 1) := by decide +kernel
theorem dX8_share_34 : decode cX8_share 34 = .ok (.aaload, 1) := by decide +kernel
theorem dX8_share_35 : decode cX8_share 35 = .ok (.aload_n 0, 1) := by decide +kernel
theorem dX8_share_36 : decode cX8_share 36 = .ok (.getfield 10, 3) := by decide +kernel
theorem dX8_share_39 : decode cX8_share 39 = .ok (.getfield 339, 3) := by decide +kernel
theorem dX8_share_42 : decode cX8_share 42 = .ok (.invokevirtual 290, 3) := by decide +kernel
theorem dX8_share_45 : decode cX8_share 45 = .ok (.i2f, 1) := by decide +kernel
theorem dX8_share_46 : decode cX8_share 46 = .ok (.aload_n 0, 1) := by decide +kernel
theorem dX8_share_47 : decode cX8_share 47 = .ok (.getfield 10, 3) := by decide +kernel
theorem dX8_share_50 : decode cX8_share 50 = .ok (.getfield 339, 3) := by decide +kernel
theorem dX8_share_53 : decode cX8_share 53 = .ok (.i2f, 1) := by decide +kernel
theorem dX8_share_54 : decode cX8_share 54 = .ok (.fdiv, 1) := by decide +kernel
theorem dX8_share_55 : decode cX8_share 55 = .ok (.freturn, 1) := by decide +kernel
theorem dX8_feed_0 : decode cX8_feed 0 = .ok (.aload_n 0, 1) := by decide +kernel
theorem dX8_feed_1 : decode cX8_feed 1 = .ok (.getfield 29, 3) := by decide +kernel
theorem dX8_feed_4 : decode cX8_feed 4 = .ok (.getfield 368, 3) := by decide +kernel
theorem dX8_feed_7 : decode cX8_feed 7 = .ok (.bipush 60, 2) := by decide +kernel
theorem dX8_feed_9 : decode cX8_feed 9 = .ok (.if_icmp .lt 14, 3) := by decide +kernel
theorem dX8_feed_12 : decode cX8_feed 12 = .ok (.new 93, 3) := by decide +kernel
theorem dX8_feed_15 : decode cX8_feed 15 = .ok (.dup, 1) := by decide +kernel
theorem dX8_feed_16 : decode cX8_feed 16 = .ok (.ldc_w 383, 3) := by decide +kernel
theorem dX8_feed_19 : decode cX8_feed 19 = .ok (.invokespecial 97, 3) := by decide +kernel
theorem dX8_feed_22 : decode cX8_feed 22 = .ok (.athrow, 1) := by decide +kernel
theorem dX8_feed_23 : decode cX8_feed 23 = .ok (.aload_n 0, 1) := by decide +kernel
theorem dX8_feed_24 : decode cX8_feed 24 = .ok (.getfield 29, 3) := by decide +kernel
theorem dX8_feed_27 : decode cX8_feed 27 = .ok (.iload_n 1, 1) := by decide +kernel
theorem dX8_feed_28 : decode cX8_feed 28 = .ok (.invokevirtual 385, 3) := by decide +kernel
theorem dX8_feed_31 : decode cX8_feed 31 = .ok (.aload_n 0, 1) := by decide +kernel
theorem dX8_feed_32 : decode cX8_feed 32 = .ok (.getfield 29, 3) := by decide +kernel
theorem dX8_feed_35 : decode cX8_feed 35 = .ok (.getfield 368, 3) := by decide +kernel
theorem dX8_feed_38 : decode cX8_feed 38 = .ok (.ireturn, 1) := by decide +kernel
theorem dX8_read_0 : decode cX8_read 0 = .ok (.aload_n 0, 1) := by decide +kernel
theorem dX8_read_1 : decode cX8_read 1 = .ok (.getfield 29, 3) := by decide +kernel
theorem dX8_read_4 : decode cX8_read 4 = .ok (.invokevirtual 389, 3) := by decide +kernel
theorem dX8_read_7 : decode cX8_read 7 = .ok (.istore_n 1, 1) := by decide +kernel
theorem dX8_read_8 : decode cX8_read 8 = .ok (.iload_n 1, 1) := by decide +kernel
theorem dX8_read_9 : decode cX8_read 9 = .ok (.ifCond .ne 32, 3) := by decide +kernel
theorem dX8_read_12 : decode cX8_read 12 = .ok (.aload_n 0, 1) := by decide +kernel
theorem dX8_read_13 : decode cX8_read 13 = .ok (.aload_n 0, 1) := by decide +kernel
theorem dX8_read_14 : decode cX8_read 14 = .ok (.getfield 29, 3) := by decide +kernel
theorem dX8_read_17 : decode cX8_read 17 = .ok (.getfield 392, 3) := by decide +kernel
theorem dX8_read_20 : decode cX8_read 20 = .ok (.putfield 44, 3) := by decide +kernel
theorem dX8_read_23 : decode cX8_read 23 = .ok (.aload_n 0, 1) := by decide +kernel
theorem dX8_read_24 : decode cX8_read 24 = .ok (.getfield 29, 3) := by decide +kernel
theorem dX8_read_27 : decode cX8_read 27 = .ok (.invokevirtual 395, 3) := by decide +kernel
theorem dX8_read_30 : decode cX8_read 30 = .ok (.new 51, 3) := by decide +kernel
theorem dX8_read_33 : decode cX8_read 33 = .ok (.dup, 1) := by decide +kernel
theorem dX8_read_34 : decode cX8_read 34 = .ok (.ldc_w 398, 3) := by decide +kernel
theorem dX8_read_37 : decode cX8_read 37 = .ok (.invokespecial 55, 3) := by decide +kernel
theorem dX8_read_40 : decode cX8_read 40 = .ok (.athrow, 1) := by decide +kernel
theorem dX8_read_41 : decode cX8_read 41 = .ok (.aload_n 0, 1) := by decide +kernel
theorem dX8_read_42 : decode cX8_read 42 = .ok (.getfield 22, 3) := by decide +kernel
theorem dX8_read_45 : decode cX8_read 45 = .ok (.aload_n 0, 1) := by decide +kernel
theorem dX8_read_46 : decode cX8_read 46 = .ok (.getfield 10, 3) := by decide +kernel
theorem dX8_read_49 : decode cX8_read 49 = .ok (.invokevirtual 400, 3) := by decide +kernel
theorem dX8_read_52 : decode cX8_read 52 = .ok (.aload_n 0, 1) := by decide +kernel
theorem dX8_read_53 : decode cX8_read 53 = .ok (.getfield 29, 3) := by decide +kernel
theorem dX8_read_56 : decode cX8_read 56 = .ok (.invokevirtual 403, 3) := by decide +kernel
theorem dX8_read_59 : decode cX8_read 59 = .ok (.iconst 0, 1) := by decide +kernel
theorem dX8_read_60 : decode cX8_read 60 = .ok (.istore_n 2, 1) := by decide +kernel
theorem dX8_read_61 : decode cX8_read 61 = .ok (.iconst 0, 1) := by decide +kernel
theorem dX8_read_62 : decode cX8_read 62 = .ok (.istore_n 3, 1) := by decide +kernel
theorem dX8_read_63 : decode cX8_read 63 = .ok (.iconst 0, 1) := by decide +kernel
theorem dX8_read_64 : decode cX8_read 64 = .ok (.istore 4, 2) := by decide +kernel
theorem dX8_read_66 : decode cX8_read 66 = .ok (.iload 4, 2) := by decide +kernel
theorem dX8_read_68 : decode cX8_read 68 = .ok (.iload_n 1, 1) := by decide +kernel
theorem dX8_read_69 : decode cX8_read 69 = .ok (.if_icmp .ge 139, 3) := by decide +kernel
theorem dX8_read_72 : decode cX8_read 72 = .ok (.iload_n 2, 1) := by decide +kernel
theorem dX8_read_73 : decode cX8_read 73 = .ok (.ifCond .ne 135, 3) := by decide +kernel
theorem dX8_read_76 : decode cX8_read 76 = .ok (.aload_n 0, 1) := by decide +kernel
theorem dX8_read_77 : decode cX8_read 77 = .ok (.getfield 29, 3) := by decide +kernel
theorem dX8_read_80 : decode cX8_read 80 = .ok (.invokevirtual 406, 3) := by decide +kernel
theorem dX8_read_83 : decode cX8_read 83 = .ok (.iload 4, 2) := by decide +kernel
theorem dX8_read_85 : decode cX8_read 85 = .ok (.istore_n 3, 1) := by decide +kernel
theorem dX8_read_86 : decode cX8_read 86 = .ok (.aload_n 0, 1) := by decide +kernel
theorem dX8_read_87 : decode cX8_read 87 = .ok (.getfield 29, 3) := by decide +kernel
theorem dX8_read_90 : decode cX8_read 90 = .ok (.getfield 409, 3) := by decide +kernel
theorem dX8_read_93 : decode cX8_read 93 = .ok (.lookupswitch 87 #[(100, 50), (115, 35), (119, 72)], 35) := by decide +kernel
theorem dX8_read_128 : decode cX8_read 128 = .ok (.aload_n 0, 1) := by decide +kernel
theorem dX8_read_129 : decode cX8_read 129 = .ok (.aload_n 0, 1) := by decide +kernel
theorem dX8_read_130 : decode cX8_read 130 = .ok (.getfield 29, 3) := by decide +kernel
theorem dX8_read_133 : decode cX8_read 133 = .ok (.getfield 412, 3) := by decide +kernel
theorem dX8_read_136 : decode cX8_read 136 = .ok (.invokevirtual 415, 3) := by decide +kernel
theorem dX8_read_139 : decode cX8_read 139 = .ok (.istore_n 2, 1) := by decide +kernel
theorem dX8_read_140 : decode cX8_read 140 = .ok (.goto 62, 3) := by decide +kernel
theorem dX8_read_143 : decode cX8_read 143 = .ok (.aload_n 0, 1) := by decide +kernel
theorem dX8_read_144 : decode cX8_read 144 = .ok (.aload_n 0, 1) := by decide +kernel
theorem dX8_read_145 : decode cX8_read 145 = .ok (.getfield 29, 3) := by decide +kernel
theorem dX8_read_148 : decode cX8_read 148 = .ok (.getfield 412, 3) := by decide +kernel
theorem dX8_read_151 : decode cX8_read 151 = .ok (.aload_n 0, 1) := by decide +kernel
theorem dX8_read_152 : decode cX8_read 152 = .ok (.getfield 29, 3) := by decide +kernel
theorem dX8_read_155 : decode cX8_read 155 = .ok (.getfield 418, 3) := by decide +kernel
theorem dX8_read_158 : decode cX8_read 158 = .ok (.invokevirtual 421, 3) := by decide +kernel
theorem dX8_read_161 : decode cX8_read 161 = .ok (.istore_n 2, 1) := by decide +kernel
theorem dX8_read_162 : decode cX8_read 162 = .ok (.goto 40, 3) := by decide +kernel
theorem dX8_read_165 : decode cX8_read 165 = .ok (.aload_n 0, 1) := by decide +kernel
theorem dX8_read_166 : decode cX8_read 166 = .ok (.aload_n 0, 1) := by decide +kernel
theorem dX8_read_167 : decode cX8_read 167 = .ok (.getfield 29, 3) := by decide +kernel
theorem dX8_read_170 : decode cX8_read 170 = .ok (.getfield 412, 3) := by decide +kernel
theorem dX8_read_173 : decode cX8_read 173 = .ok (.invokevirtual 425, 3) := by decide +kernel
theorem dX8_read_176 : decode cX8_read 176 = .ok (.istore_n 2, 1) := by decide +kernel
theorem dX8_read_177 : decode cX8_read 177 = .ok (.goto 25, 3) := by decide +kernel
theorem dX8_read_180 : decode cX8_read 180 = .ok (.aload_n 0, 1) := by decide +kernel
theorem dX8_read_181 : decode cX8_read 181 = .ok (.aload_n 0, 1) := by decide +kernel
theorem dX8_read_182 : decode cX8_read 182 = .ok (.getfield 29, 3) := by decide +kernel
theorem dX8_read_185 : decode cX8_read 185 = .ok (.getfield 409, 3) := by decide +kernel
theorem dX8_read_188 : decode cX8_read 188 = .ok (.bipush 111, 2) := by decide +kernel
theorem dX8_read_190 : decode cX8_read 190 = .ok (.if_icmp .ne 7, 3) := by decide +kernel
theorem dX8_read_193 : decode cX8_read 193 = .ok (.iconst 1, 1) := by decide +kernel
theorem dX8_read_194 : decode cX8_read 194 = .ok (.goto 4, 3) := by decide +kernel
theorem dX8_read_197 : decode cX8_read 197 = .ok (.iconst 0, 1) := by decide +kernel
theorem dX8_read_198 : decode cX8_read 198 = .ok (.invokevirtual 428, 3) := by decide +kernel
theorem dX8_read_201 : decode cX8_read 201 = .ok (.istore_n 2, 1) := by decide +kernel
theorem dX8_read_202 : decode cX8_read 202 = .ok (.iinc 4 1, 3) := by decide +kernel
theorem dX8_read_205 : decode cX8_read 205 = .ok (.goto (-139), 3) := by decide +kernel
theorem dX8_read_208 : decode cX8_read 208 = .ok (.aload_n 0, 1) := by decide +kernel
theorem dX8_read_209 : decode cX8_read 209 = .ok (.getfield 29, 3) := by decide +kernel
theorem dX8_read_212 : decode cX8_read 212 = .ok (.invokevirtual 395, 3) := by decide +kernel
theorem dX8_read_215 : decode cX8_read 215 = .ok (.iload_n 2, 1) := by decide +kernel
theorem dX8_read_216 : decode cX8_read 216 = .ok (.ifCond .eq 31, 3) := by decide +kernel
theorem dX8_read_219 : decode cX8_read 219 = .ok (.aload_n 0, 1) := by decide +kernel
theorem dX8_read_220 : decode cX8_read 220 = .ok (.getfield 22, 3) := by decide +kernel
theorem dX8_read_223 : decode cX8_read 223 = .ok (.aload_n 0, 1) := by decide +kernel
theorem dX8_read_224 : decode cX8_read 224 = .ok (.getfield 10, 3) := by decide +kernel
theorem dX8_read_227 : decode cX8_read 227 = .ok (.invokevirtual 431, 3) := by decide +kernel
theorem dX8_read_230 : decode cX8_read 230 = .ok (.aload_n 0, 1) := by decide +kernel
theorem dX8_read_231 : decode cX8_read 231 = .ok (.iload_n 2, 1) := by decide +kernel
theorem dX8_read_232 : decode cX8_read 232 = .ok (.iload_n 3, 1) := by decide +kernel
theorem dX8_read_233 : decode cX8_read 233 = .ok (.invokevirtual 434, 3) := by decide +kernel
theorem dX8_read_236 : decode cX8_read 236 = .ok (.new 438, 3) := by decide +kernel
theorem dX8_read_239 : decode cX8_read 239 = .ok (.dup, 1) := by decide +kernel
theorem dX8_read_240 : decode cX8_read 240 = .ok (.ldc_w 440, 3) := by decide +kernel
theorem dX8_read_243 : decode cX8_read 243 = .ok (.invokespecial 442, 3) := by decide +kernel
theorem dX8_read_246 : decode cX8_read 246 = .ok (.athrow, 1) := by decide +kernel
theorem dX8_read_247 : decode cX8_read 247 = .ok (.aload_n 0, 1) := by decide +kernel
theorem dX8_read_248 : decode cX8_read 248 = .ok (.getfield 22, 3) := by decide +kernel
theorem dX8_read_251 : decode cX8_read 251 = .ok (.invokevirtual 443, 3) := by decide +kernel
theorem dX8_read_254 : decode cX8_read 254 = .ok (.iload_n 1, 1) := by decide +kernel
theorem dX8_read_255 : decode cX8_read 255 = .ok (.ireturn, 1) := by decide +kernel
theorem dX8_faultPosition_0 : decode cX8_faultPosition 0 = .ok (.aload_n 0, 1) := by decide +kernel
theorem dX8_faultPosition_1 : decode cX8_faultPosition 1 = .ok (.getfield 44, 3) := by decide +kernel
theorem dX8_faultPosition_4 : decode cX8_faultPosition 4 = .ok (.iconst (-1), 1) := by decide +kernel
theorem dX8_faultPosition_5 : decode cX8_faultPosition 5 = .ok (.if_icmp .ne 14, 3) := by decide +kernel
theorem dX8_faultPosition_8 : decode cX8_faultPosition 8 = .ok (.new 175, 3) := by decide +kernel
theorem dX8_faultPosition_11 : decode cX8_faultPosition 11 = .ok (.dup, 1) := by decide +kernel
theorem dX8_faultPosition_12 : decode cX8_faultPosition 12 = .ok (.ldc_w 446, 3) := by decide +kernel
theorem dX8_faultPosition_15 : decode cX8_faultPosition 15 = .ok (.invokespecial 179, 3) := by decide +kernel
theorem dX8_faultPosition_18 : decode cX8_faultPosition 18 = .ok (.athrow, 1) := by decide +kernel
theorem dX8_faultPosition_19 : decode cX8_faultPosition 19 = .ok (.aload_n 0, 1) := by decide +kernel
theorem dX8_faultPosition_20 : decode cX8_faultPosition 20 = .ok (.getfield 44, 3) := by decide +kernel
theorem dX8_faultPosition_23 : decode cX8_faultPosition 23 = .ok (.ireturn, 1) := by decide +kernel
theorem dX8_refusal_0 : decode cX8_refusal 0 = .ok (.aload_n 0, 1) := by decide +kernel
theorem dX8_refusal_1 : decode cX8_refusal 1 = .ok (.getfield 48, 3) := by decide +kernel
theorem dX8_refusal_4 : decode cX8_refusal 4 = .ok (.ifCond .ne 14, 3) := by decide +kernel
theorem dX8_refusal_7 : decode cX8_refusal 7 = .ok (.new 175, 3) := by decide +kernel
theorem dX8_refusal_10 : decode cX8_refusal 10 = .ok (.dup, 1) := by decide +kernel
theorem dX8_refusal_11 : decode cX8_refusal 11 = .ok (.ldc_w 448, 3) := by decide +kernel
theorem dX8_refusal_14 : decode cX8_refusal 14 = .ok (.invokespecial 179, 3) := by decide +kernel
theorem dX8_refusal_17 : decode cX8_refusal 17 = .ok (.athrow, 1) := by decide +kernel
theorem dX8_refusal_18 : decode cX8_refusal 18 = .ok (.iload_n 1, 1) := by decide +kernel
theorem dX8_refusal_19 : decode cX8_refusal 19 = .ok (.ifCond .eq 10, 3) := by decide +kernel
theorem dX8_refusal_22 : decode cX8_refusal 22 = .ok (.aload_n 0, 1) := by decide +kernel
theorem dX8_refusal_23 : decode cX8_refusal 23 = .ok (.getfield 48, 3) := by decide +kernel
theorem dX8_refusal_26 : decode cX8_refusal 26 = .ok (.goto 7, 3) := by decide +kernel
theorem dX8_refusal_29 : decode cX8_refusal 29 = .ok (.aload_n 0, 1) := by decide +kernel
theorem dX8_refusal_30 : decode cX8_refusal 30 = .ok (.getfield 450, 3) := by decide +kernel
theorem dX8_refusal_33 : decode cX8_refusal 33 = .ok (.ireturn, 1) := by decide +kernel
theorem dX8_undo_0 : decode cX8_undo 0 = .ok (.aload_n 0, 1) := by decide +kernel
theorem dX8_undo_1 : decode cX8_undo 1 = .ok (.getfield 22, 3) := by decide +kernel
theorem dX8_undo_4 : decode cX8_undo 4 = .ok (.getfield 365, 3) := by decide +kernel
theorem dX8_undo_7 : decode cX8_undo 7 = .ok (.ifCond .ne 14, 3) := by decide +kernel
theorem dX8_undo_10 : decode cX8_undo 10 = .ok (.new 93, 3) := by decide +kernel
theorem dX8_undo_13 : decode cX8_undo 13 = .ok (.dup, 1) := by decide +kernel
theorem dX8_undo_14 : decode cX8_undo 14 = .ok (.ldc_w 453, 3) := by decide +kernel
theorem dX8_undo_17 : decode cX8_undo 17 = .ok (.invokespecial 97, 3) := by decide +kernel
theorem dX8_undo_20 : decode cX8_undo 20 = .ok (.athrow, 1) := by decide +kernel
theorem dX8_undo_21 : decode cX8_undo 21 = .ok (.aload_n 0, 1) := by decide +kernel
theorem dX8_undo_22 : decode cX8_undo 22 = .ok (.getfield 22, 3) := by decide +kernel
theorem dX8_undo_25 : decode cX8_undo 25 = .ok (.aload_n 0, 1) := by decide +kernel
theorem dX8_undo_26 : decode cX8_undo 26 = .ok (.getfield 10, 3) := by decide +kernel
theorem dX8_undo_29 : decode cX8_undo 29 = .ok (.invokevirtual 455, 3) := by decide +kernel
theorem dX8_undo_32 : decode cX8_undo 32 = .ok (.aload_n 0, 1) := by decide +kernel
theorem dX8_undo_33 : decode cX8_undo 33 = .ok (.getfield 22, 3) := by decide +kernel
theorem dX8_undo_36 : decode cX8_undo 36 = .ok (.getfield 365, 3) := by decide +kernel
theorem dX8_undo_39 : decode cX8_undo 39 = .ok (.ireturn, 1) := by decide +kernel
theorem dX8_saveSnapshot_0 : decode cX8_saveSnapshot 0 = .ok (.aload_n 0, 1) := by decide +kernel
theorem dX8_saveSnapshot_1 : decode cX8_saveSnapshot 1 = .ok (.getfield 16, 3) := by decide +kernel
theorem dX8_saveSnapshot_4 : decode cX8_saveSnapshot 4 = .ok (.aload_n 0, 1) := by decide +kernel
theorem dX8_saveSnapshot_5 : decode cX8_saveSnapshot 5 = .ok (.getfield 10, 3) := by decide +kernel
theorem dX8_saveSnapshot_8 : decode cX8_saveSnapshot 8 = .ok (.invokevirtual 458, 3) := by decide +kernel
theorem dX8_saveSnapshot_11 : decode cX8_saveSnapshot 11 = .ok (.aload_n 0, 1) := by decide +kernel
theorem dX8_saveSnapshot_12 : decode cX8_saveSnapshot 12 = .ok (.iconst 1, 1) := by decide +kernel
theorem dX8_saveSnapshot_13 : decode cX8_saveSnapshot 13 = .ok (.putfield 461, 3) := by decide +kernel
theorem dX8_saveSnapshot_16 : decode cX8_saveSnapshot 16 = .ok (.aload_n 0, 1) := by decide +kernel
theorem dX8_saveSnapshot_17 : decode cX8_saveSnapshot 17 = .ok (.getfield 10, 3) := by decide +kernel
theorem dX8_saveSnapshot_20 : decode cX8_saveSnapshot 20 = .ok (.getfield 117, 3) := by decide +kernel
theorem dX8_saveSnapshot_23 : decode cX8_saveSnapshot 23 = .ok (.ireturn, 1) := by decide +kernel
theorem dX8_restoreSnapshot_0 : decode cX8_restoreSnapshot 0 = .ok (.aload_n 0, 1) := by decide +kernel
theorem dX8_restoreSnapshot_1 : decode cX8_restoreSnapshot 1 = .ok (.getfield 461, 3) := by decide +kernel
theorem dX8_restoreSnapshot_4 : decode cX8_restoreSnapshot 4 = .ok (.ifCond .ne 14, 3) := by decide +kernel
theorem dX8_restoreSnapshot_7 : decode cX8_restoreSnapshot 7 = .ok (.new 93, 3) := by decide +kernel
theorem dX8_restoreSnapshot_10 : decode cX8_restoreSnapshot 10 = .ok (.dup, 1) := by decide +kernel
theorem dX8_restoreSnapshot_11 : decode cX8_restoreSnapshot 11 = .ok (.ldc_w 465, 3) := by decide +kernel
theorem dX8_restoreSnapshot_14 : decode cX8_restoreSnapshot 14 = .ok (.invokespecial 97, 3) := by decide +kernel
theorem dX8_restoreSnapshot_17 : decode cX8_restoreSnapshot 17 = .ok (.athrow, 1) := by decide +kernel
theorem dX8_restoreSnapshot_18 : decode cX8_restoreSnapshot 18 = .ok (.aload_n 0, 1) := by decide +kernel
theorem dX8_restoreSnapshot_19 : decode cX8_restoreSnapshot 19 = .ok (.getfield 10, 3) := by decide +kernel
theorem dX8_restoreSnapshot_22 : decode cX8_restoreSnapshot 22 = .ok (.aload_n 0, 1) := by decide +kernel
theorem dX8_restoreSnapshot_23 : decode cX8_restoreSnapshot 23 = .ok (.getfield 16, 3) := by decide +kernel
theorem dX8_restoreSnapshot_26 : decode cX8_restoreSnapshot 26 = .ok (.invokevirtual 458, 3) := by decide +kernel
theorem dX8_restoreSnapshot_29 : decode cX8_restoreSnapshot 29 = .ok (.aload_n 0, 1) := by decide +kernel
theorem dX8_restoreSnapshot_30 : decode cX8_restoreSnapshot 30 = .ok (.getfield 22, 3) := by decide +kernel
theorem dX8_restoreSnapshot_33 : decode cX8_restoreSnapshot 33 = .ok (.iconst 0, 1) := by decide +kernel
theorem dX8_restoreSnapshot_34 : decode cX8_restoreSnapshot 34 = .ok (.putfield 365, 3) := by decide +kernel
theorem dX8_restoreSnapshot_37 : decode cX8_restoreSnapshot 37 = .ok (.aload_n 0, 1) := by decide +kernel
theorem dX8_restoreSnapshot_38 : decode cX8_restoreSnapshot 38 = .ok (.getfield 10, 3) := by decide +kernel
theorem dX8_restoreSnapshot_41 : decode cX8_restoreSnapshot 41 = .ok (.getfield 117, 3) := by decide +kernel
theorem dX8_restoreSnapshot_44 : decode cX8_restoreSnapshot 44 = .ok (.ireturn, 1) := by decide +kernel
theorem dX8_requireOrder_0 : decode cX8_requireOrder 0 = .ok (.aload_n 0, 1) := by decide +kernel
theorem dX8_requireOrder_1 : decode cX8_requireOrder 1 = .ok (.getfield 10, 3) := by decide +kernel
theorem dX8_requireOrder_4 : decode cX8_requireOrder 4 = .ok (.iload_n 1, 1) := by decide +kernel
theorem dX8_requireOrder_5 : decode cX8_requireOrder 5 = .ok (.invokevirtual 467, 3) := by decide +kernel
theorem dX8_requireOrder_8 : decode cX8_requireOrder 8 = .ok (.ifCond .ne 14, 3) := by decide +kernel
theorem dX8_requireOrder_11 : decode cX8_requireOrder 11 = .ok (.new 202, 3) := by decide +kernel
theorem dX8_requireOrder_14 : decode cX8_requireOrder 14 = .ok (.dup, 1) := by decide +kernel
theorem dX8_requireOrder_15 : decode cX8_requireOrder 15 = .ok (.ldc_w 470, 3) := by decide +kernel
theorem dX8_requireOrder_18 : decode cX8_requireOrder 18 = .ok (.invokespecial 206, 3) := by decide +kernel
theorem dX8_requireOrder_21 : decode cX8_requireOrder 21 = .ok (.athrow, 1) := by decide +kernel
theorem dX8_requireOrder_22 : decode cX8_requireOrder 22 = .ok (.return_, 1) := by decide +kernel
theorem dX8_requirePilot_0 : decode cX8_requirePilot 0 = .ok (.aload_n 0, 1) := by decide +kernel
theorem dX8_requirePilot_1 : decode cX8_requirePilot 1 = .ok (.getfield 10, 3) := by decide +kernel
theorem dX8_requirePilot_4 : decode cX8_requirePilot 4 = .ok (.iload_n 1, 1) := by decide +kernel
theorem dX8_requirePilot_5 : decode cX8_requirePilot 5 = .ok (.invokevirtual 472, 3) := by decide +kernel
theorem dX8_requirePilot_8 : decode cX8_requirePilot 8 = .ok (.ifCond .ne 14, 3) := by decide +kernel
theorem dX8_requirePilot_11 : decode cX8_requirePilot 11 = .ok (.new 202, 3) := by decide +kernel
theorem dX8_requirePilot_14 : decode cX8_requirePilot 14 = .ok (.dup, 1) := by decide +kernel
theorem dX8_requirePilot_15 : decode cX8_requirePilot 15 = .ok (.ldc_w 475, 3) := by decide +kernel
theorem dX8_requirePilot_18 : decode cX8_requirePilot 18 = .ok (.invokespecial 206, 3) := by decide +kernel
theorem dX8_requirePilot_21 : decode cX8_requirePilot 21 = .ok (.athrow, 1) := by decide +kernel
theorem dX8_requirePilot_22 : decode cX8_requirePilot 22 = .ok (.return_, 1) := by decide +kernel
theorem dX8_requireHour_0 : decode cX8_requireHour 0 = .ok (.iload_n 0, 1) := by decide +kernel
theorem dX8_requireHour_1 : decode cX8_requireHour 1 = .ok (.ifCond .lt 10, 3) := by decide +kernel
theorem dX8_requireHour_4 : decode cX8_requireHour 4 = .ok (.iload_n 0, 1) := by decide +kernel
theorem dX8_requireHour_5 : decode cX8_requireHour 5 = .ok (.sipush 1000, 3) := by decide +kernel
theorem dX8_requireHour_8 : decode cX8_requireHour 8 = .ok (.if_icmp .lt 14, 3) := by decide +kernel
theorem dX8_requireHour_11 : decode cX8_requireHour 11 = .ok (.new 202, 3) := by decide +kernel
theorem dX8_requireHour_14 : decode cX8_requireHour 14 = .ok (.dup, 1) := by decide +kernel
theorem dX8_requireHour_15 : decode cX8_requireHour 15 = .ok (.ldc_w 477, 3) := by decide +kernel
theorem dX8_requireHour_18 : decode cX8_requireHour 18 = .ok (.invokespecial 206, 3) := by decide +kernel
theorem dX8_requireHour_21 : decode cX8_requireHour 21 = .ok (.athrow, 1) := by decide +kernel
theorem dX8_requireHour_22 : decode cX8_requireHour 22 = .ok (.return_, 1) := by decide +kernel
theorem dX8_canPutOffBy_0 : decode cX8_canPutOffBy 0 = .ok (.iload_n 0, 1) := by decide +kernel
theorem dX8_canPutOffBy_1 : decode cX8_canPutOffBy 1 = .ok (.iconst 1, 1) := by decide +kernel
theorem dX8_canPutOffBy_2 : decode cX8_canPutOffBy 2 = .ok (.if_icmp .lt 13, 3) := by decide +kernel
theorem dX8_canPutOffBy_5 : decode cX8_canPutOffBy 5 = .ok (.iload_n 0, 1) := by decide +kernel
theorem dX8_canPutOffBy_6 : decode cX8_canPutOffBy 6 = .ok (.bipush 48, 2) := by decide +kernel
theorem dX8_canPutOffBy_8 : decode cX8_canPutOffBy 8 = .ok (.if_icmp .gt 7, 3) := by decide +kernel
theorem dX8_canPutOffBy_11 : decode cX8_canPutOffBy 11 = .ok (.iconst 1, 1) := by decide +kernel
theorem dX8_canPutOffBy_12 : decode cX8_canPutOffBy 12 = .ok (.goto 4, 3) := by decide +kernel
theorem dX8_canPutOffBy_15 : decode cX8_canPutOffBy 15 = .ok (.iconst 0, 1) := by decide +kernel
theorem dX8_canPutOffBy_16 : decode cX8_canPutOffBy 16 = .ok (.ireturn, 1) := by decide +kernel
theorem dX8_canPassBy_0 : decode cX8_canPassBy 0 = .ok (.iload_n 0, 1) := by decide +kernel
theorem dX8_canPassBy_1 : decode cX8_canPassBy 1 = .ok (.ifCond .lt 13, 3) := by decide +kernel
theorem dX8_canPassBy_4 : decode cX8_canPassBy 4 = .ok (.iload_n 0, 1) := by decide +kernel
theorem dX8_canPassBy_5 : decode cX8_canPassBy 5 = .ok (.bipush 48, 2) := by decide +kernel
theorem dX8_canPassBy_7 : decode cX8_canPassBy 7 = .ok (.if_icmp .gt 7, 3) := by decide +kernel
theorem dX8_canPassBy_10 : decode cX8_canPassBy 10 = .ok (.iconst 1, 1) := by decide +kernel
theorem dX8_canPassBy_11 : decode cX8_canPassBy 11 = .ok (.goto 4, 3) := by decide +kernel
theorem dX8_canPassBy_14 : decode cX8_canPassBy 14 = .ok (.iconst 0, 1) := by decide +kernel
theorem dX8_canPassBy_15 : decode cX8_canPassBy 15 = .ok (.ireturn, 1) := by decide +kernel
theorem dX8_refuseFor_0 : decode cX8_refuseFor 0 = .ok (.iload_n 1, 1) := by decide +kernel
theorem dX8_refuseFor_1 : decode cX8_refuseFor 1 = .ok (.ifCond .eq 20, 3) := by decide +kernel
theorem dX8_refuseFor_4 : decode cX8_refuseFor 4 = .ok (.aload_n 0, 1) := by decide +kernel
theorem dX8_refuseFor_5 : decode cX8_refuseFor 5 = .ok (.iload_n 1, 1) := by decide +kernel
theorem dX8_refuseFor_6 : decode cX8_refuseFor 6 = .ok (.iconst 0, 1) := by decide +kernel
theorem dX8_refuseFor_7 : decode cX8_refuseFor 7 = .ok (.invokevirtual 434, 3) := by decide +kernel
theorem dX8_refuseFor_10 : decode cX8_refuseFor 10 = .ok (.new 438, 3) := by decide +kernel
theorem dX8_refuseFor_13 : decode cX8_refuseFor 13 = .ok (.dup, 1) := by decide +kernel
theorem dX8_refuseFor_14 : decode cX8_refuseFor 14 = .ok (.ldc_w 479, 3) := by decide +kernel
theorem dX8_refuseFor_17 : decode cX8_refuseFor 17 = .ok (.invokespecial 442, 3) := by decide +kernel
theorem dX8_refuseFor_20 : decode cX8_refuseFor 20 = .ok (.athrow, 1) := by decide +kernel
theorem dX8_refuseFor_21 : decode cX8_refuseFor 21 = .ok (.return_, 1) := by decide +kernel
theorem dX8_keepRefusal_0 : decode cX8_keepRefusal 0 = .ok (.aload_n 0, 1) := by decide +kernel
theorem dX8_keepRefusal_1 : decode cX8_keepRefusal 1 = .ok (.iload_n 1, 1) := by decide +kernel
theorem dX8_keepRefusal_2 : decode cX8_keepRefusal 2 = .ok (.putfield 48, 3) := by decide +kernel
theorem dX8_keepRefusal_5 : decode cX8_keepRefusal 5 = .ok (.aload_n 0, 1) := by decide +kernel
theorem dX8_keepRefusal_6 : decode cX8_keepRefusal 6 = .ok (.iload_n 2, 1) := by decide +kernel
theorem dX8_keepRefusal_7 : decode cX8_keepRefusal 7 = .ok (.putfield 450, 3) := by decide +kernel
theorem dX8_keepRefusal_10 : decode cX8_keepRefusal 10 = .ok (.return_, 1) := by decide +kernel
theorem dX8_carryOutServe_0 : decode cX8_carryOutServe 0 = .ok (.aload_n 0, 1) := by decide +kernel
theorem dX8_carryOutServe_1 : decode cX8_carryOutServe 1 = .ok (.getfield 10, 3) := by decide +kernel
theorem dX8_carryOutServe_4 : decode cX8_carryOutServe 4 = .ok (.iload_n 1, 1) := by decide +kernel
theorem dX8_carryOutServe_5 : decode cX8_carryOutServe 5 = .ok (.invokevirtual 467, 3) := by decide +kernel
theorem dX8_carryOutServe_8 : decode cX8_carryOutServe 8 = .ok (.ifCond .ne 6, 3) := by decide +kernel
theorem dX8_carryOutServe_11 : decode cX8_carryOutServe 11 = .ok (.bipush 20, 2) := by decide +kernel
theorem dX8_carryOutServe_13 : decode cX8_carryOutServe 13 = .ok (.ireturn, 1) := by decide +kernel
theorem dX8_carryOutServe_14 : decode cX8_carryOutServe 14 = .ok (.aload_n 0, 1) := by decide +kernel
theorem dX8_carryOutServe_15 : decode cX8_carryOutServe 15 = .ok (.getfield 10, 3) := by decide +kernel
theorem dX8_carryOutServe_18 : decode cX8_carryOutServe 18 = .ok (.iload_n 1, 1) := by decide +kernel
theorem dX8_carryOutServe_19 : decode cX8_carryOutServe 19 = .ok (.aload_n 0, 1) := by decide +kernel
theorem dX8_carryOutServe_20 : decode cX8_carryOutServe 20 = .ok (.getfield 36, 3) := by decide +kernel
theorem dX8_carryOutServe_23 : decode cX8_carryOutServe 23 = .ok (.invokevirtual 229, 3) := by decide +kernel
theorem dX8_carryOutServe_26 : decode cX8_carryOutServe 26 = .ok (.istore_n 2, 1) := by decide +kernel
theorem dX8_carryOutServe_27 : decode cX8_carryOutServe 27 = .ok (.iload_n 2, 1) := by decide +kernel
theorem dX8_carryOutServe_28 : decode cX8_carryOutServe 28 = .ok (.ifCond .ne 15, 3) := by decide +kernel
theorem dX8_carryOutServe_31 : decode cX8_carryOutServe 31 = .ok (.aload_n 0, 1) := by decide +kernel
theorem dX8_carryOutServe_32 : decode cX8_carryOutServe 32 = .ok (.getfield 10, 3) := by decide +kernel
theorem dX8_carryOutServe_35 : decode cX8_carryOutServe 35 = .ok (.iload_n 1, 1) := by decide +kernel
theorem dX8_carryOutServe_36 : decode cX8_carryOutServe 36 = .ok (.aload_n 0, 1) := by decide +kernel
theorem dX8_carryOutServe_37 : decode cX8_carryOutServe 37 = .ok (.getfield 36, 3) := by decide +kernel
theorem dX8_carryOutServe_40 : decode cX8_carryOutServe 40 = .ok (.invokevirtual 242, 3) := by decide +kernel
theorem dX8_carryOutServe_43 : decode cX8_carryOutServe 43 = .ok (.iload_n 2, 1) := by decide +kernel
theorem dX8_carryOutServe_44 : decode cX8_carryOutServe 44 = .ok (.ireturn, 1) := by decide +kernel
theorem dX8_carryOutPutOff_0 : decode cX8_carryOutPutOff 0 = .ok (.aload_n 0, 1) := by decide +kernel
theorem dX8_carryOutPutOff_1 : decode cX8_carryOutPutOff 1 = .ok (.getfield 10, 3) := by decide +kernel
theorem dX8_carryOutPutOff_4 : decode cX8_carryOutPutOff 4 = .ok (.iload_n 1, 1) := by decide +kernel
theorem dX8_carryOutPutOff_5 : decode cX8_carryOutPutOff 5 = .ok (.invokevirtual 467, 3) := by decide +kernel
theorem dX8_carryOutPutOff_8 : decode cX8_carryOutPutOff 8 = .ok (.ifCond .eq 10, 3) := by decide +kernel
theorem dX8_carryOutPutOff_11 : decode cX8_carryOutPutOff 11 = .ok (.iload_n 2, 1) := by decide +kernel
theorem dX8_carryOutPutOff_12 : decode cX8_carryOutPutOff 12 = .ok (.invokestatic 256, 3) := by decide +kernel
theorem dX8_carryOutPutOff_15 : decode cX8_carryOutPutOff 15 = .ok (.ifCond .ne 6, 3) := by decide +kernel
theorem dX8_carryOutPutOff_18 : decode cX8_carryOutPutOff 18 = .ok (.bipush 20, 2) := by decide +kernel
theorem dX8_carryOutPutOff_20 : decode cX8_carryOutPutOff 20 = .ok (.ireturn, 1) := by decide +kernel
theorem dX8_carryOutPutOff_21 : decode cX8_carryOutPutOff 21 = .ok (.aload_n 0, 1) := by decide +kernel
theorem dX8_carryOutPutOff_22 : decode cX8_carryOutPutOff 22 = .ok (.getfield 10, 3) := by decide +kernel
theorem dX8_carryOutPutOff_25 : decode cX8_carryOutPutOff 25 = .ok (.getfield 129, 3) := by decide +kernel
theorem dX8_carryOutPutOff_28 : decode cX8_carryOutPutOff 28 = .ok (.iload_n 1, 1) := by decide +kernel
theorem dX8_carryOutPutOff_29 : decode cX8_carryOutPutOff 29 = .ok (.aaload, 1) := by decide +kernel
theorem dX8_carryOutPutOff_30 : decode cX8_carryOutPutOff 30 = .ok (.invokevirtual 261, 3) := by decide +kernel
theorem dX8_carryOutPutOff_33 : decode cX8_carryOutPutOff 33 = .ok (.istore_n 3, 1) := by decide +kernel
theorem dX8_carryOutPutOff_34 : decode cX8_carryOutPutOff 34 = .ok (.iload_n 3, 1) := by decide +kernel
theorem dX8_carryOutPutOff_35 : decode cX8_carryOutPutOff 35 = .ok (.ifCond .ne 16, 3) := by decide +kernel
theorem dX8_carryOutPutOff_38 : decode cX8_carryOutPutOff 38 = .ok (.aload_n 0, 1) := by decide +kernel
theorem dX8_carryOutPutOff_39 : decode cX8_carryOutPutOff 39 = .ok (.getfield 10, 3) := by decide +kernel
theorem dX8_carryOutPutOff_42 : decode cX8_carryOutPutOff 42 = .ok (.getfield 129, 3) := by decide +kernel
theorem dX8_carryOutPutOff_45 : decode cX8_carryOutPutOff 45 = .ok (.iload_n 1, 1) := by decide +kernel
theorem dX8_carryOutPutOff_46 : decode cX8_carryOutPutOff 46 = .ok (.aaload, 1) := by decide +kernel
theorem dX8_carryOutPutOff_47 : decode cX8_carryOutPutOff 47 = .ok (.iload_n 2, 1) := by decide +kernel
theorem dX8_carryOutPutOff_48 : decode cX8_carryOutPutOff 48 = .ok (.invokevirtual 265, 3) := by decide +kernel
theorem dX8_carryOutPutOff_51 : decode cX8_carryOutPutOff 51 = .ok (.iload_n 3, 1) := by decide +kernel
theorem dX8_carryOutPutOff_52 : decode cX8_carryOutPutOff 52 = .ok (.ireturn, 1) := by decide +kernel
theorem dX8_carryOutPass_0 : decode cX8_carryOutPass 0 = .ok (.iload_n 1, 1) := by decide +kernel
theorem dX8_carryOutPass_1 : decode cX8_carryOutPass 1 = .ok (.invokestatic 336, 3) := by decide +kernel
theorem dX8_carryOutPass_4 : decode cX8_carryOutPass 4 = .ok (.ifCond .eq 18, 3) := by decide +kernel
theorem dX8_carryOutPass_7 : decode cX8_carryOutPass 7 = .ok (.aload_n 0, 1) := by decide +kernel
theorem dX8_carryOutPass_8 : decode cX8_carryOutPass 8 = .ok (.getfield 10, 3) := by decide +kernel
theorem dX8_carryOutPass_11 : decode cX8_carryOutPass 11 = .ok (.getfield 339, 3) := by decide +kernel
theorem dX8_carryOutPass_14 : decode cX8_carryOutPass 14 = .ok (.iload_n 1, 1) := by decide +kernel
theorem dX8_carryOutPass_15 : decode cX8_carryOutPass 15 = .ok (.iadd, 1) := by decide +kernel
theorem dX8_carryOutPass_16 : decode cX8_carryOutPass 16 = .ok (.sipush 1000, 3) := by decide +kernel
theorem dX8_carryOutPass_19 : decode cX8_carryOutPass 19 = .ok (.if_icmp .lt 6, 3) := by decide +kernel
theorem dX8_carryOutPass_22 : decode cX8_carryOutPass 22 = .ok (.bipush 20, 2) := by decide +kernel
theorem dX8_carryOutPass_24 : decode cX8_carryOutPass 24 = .ok (.ireturn, 1) := by decide +kernel
theorem dX8_carryOutPass_25 : decode cX8_carryOutPass 25 = .ok (.aload_n 0, 1) := by decide +kernel
theorem dX8_carryOutPass_26 : decode cX8_carryOutPass 26 = .ok (.getfield 10, 3) := by decide +kernel
theorem dX8_carryOutPass_29 : decode cX8_carryOutPass 29 = .ok (.iload_n 1, 1) := by decide +kernel
theorem dX8_carryOutPass_30 : decode cX8_carryOutPass 30 = .ok (.invokevirtual 344, 3) := by decide +kernel
theorem dX8_carryOutPass_33 : decode cX8_carryOutPass 33 = .ok (.pop, 1) := by decide +kernel
theorem dX8_carryOutPass_34 : decode cX8_carryOutPass 34 = .ok (.iconst 0, 1) := by decide +kernel
theorem dX8_carryOutPass_35 : decode cX8_carryOutPass 35 = .ok (.ireturn, 1) := by decide +kernel
theorem dX8_carryOutOrder_0 : decode cX8_carryOutOrder 0 = .ok (.aload_n 0, 1) := by decide +kernel
theorem dX8_carryOutOrder_1 : decode cX8_carryOutOrder 1 = .ok (.getfield 10, 3) := by decide +kernel
theorem dX8_carryOutOrder_4 : decode cX8_carryOutOrder 4 = .ok (.aload_n 0, 1) := by decide +kernel
theorem dX8_carryOutOrder_5 : decode cX8_carryOutOrder 5 = .ok (.getfield 29, 3) := by decide +kernel
theorem dX8_carryOutOrder_8 : decode cX8_carryOutOrder 8 = .ok (.getfield 481, 3) := by decide +kernel
theorem dX8_carryOutOrder_11 : decode cX8_carryOutOrder 11 = .ok (.aload_n 0, 1) := by decide +kernel
theorem dX8_carryOutOrder_12 : decode cX8_carryOutOrder 12 = .ok (.getfield 29, 3) := by decide +kernel
theorem dX8_carryOutOrder_15 : decode cX8_carryOutOrder 15 = .ok (.getfield 412, 3) := by decide +kernel
theorem dX8_carryOutOrder_18 : decode cX8_carryOutOrder 18 = .ok (.aload_n 0, 1) := by decide +kernel
theorem dX8_carryOutOrder_19 : decode cX8_carryOutOrder 19 = .ok (.getfield 29, 3) := by decide +kernel
theorem dX8_carryOutOrder_22 : decode cX8_carryOutOrder 22 = .ok (.getfield 418, 3) := by decide +kernel
theorem dX8_carryOutOrder_25 : decode cX8_carryOutOrder 25 = .ok (.aload_n 0, 1) := by decide +kernel
theorem dX8_carryOutOrder_26 : decode cX8_carryOutOrder 26 = .ok (.getfield 29, 3) := by decide +kernel
theorem dX8_carryOutOrder_29 : decode cX8_carryOutOrder 29 = .ok (.getfield 482, 3) := by decide +kernel
theorem dX8_carryOutOrder_32 : decode cX8_carryOutOrder 32 = .ok (.invokevirtual 111, 3) := by decide +kernel
theorem dX8_carryOutOrder_35 : decode cX8_carryOutOrder 35 = .ok (.ifCond .eq 15, 3) := by decide +kernel
theorem dX8_carryOutOrder_38 : decode cX8_carryOutOrder 38 = .ok (.aload_n 0, 1) := by decide +kernel
theorem dX8_carryOutOrder_39 : decode cX8_carryOutOrder 39 = .ok (.getfield 10, 3) := by decide +kernel
theorem dX8_carryOutOrder_42 : decode cX8_carryOutOrder 42 = .ok (.getfield 117, 3) := by decide +kernel
theorem dX8_carryOutOrder_45 : decode cX8_carryOutOrder 45 = .ok (.bipush 16, 2) := by decide +kernel
theorem dX8_carryOutOrder_47 : decode cX8_carryOutOrder 47 = .ok (.if_icmp .lt 6, 3) := by decide +kernel
theorem dX8_carryOutOrder_50 : decode cX8_carryOutOrder 50 = .ok (.bipush 20, 2) := by decide +kernel
theorem dX8_carryOutOrder_52 : decode cX8_carryOutOrder 52 = .ok (.ireturn, 1) := by decide +kernel
theorem dX8_carryOutOrder_53 : decode cX8_carryOutOrder 53 = .ok (.aload_n 0, 1) := by decide +kernel
theorem dX8_carryOutOrder_54 : decode cX8_carryOutOrder 54 = .ok (.getfield 10, 3) := by decide +kernel
theorem dX8_carryOutOrder_57 : decode cX8_carryOutOrder 57 = .ok (.aload_n 0, 1) := by decide +kernel
theorem dX8_carryOutOrder_58 : decode cX8_carryOutOrder 58 = .ok (.getfield 29, 3) := by decide +kernel
theorem dX8_carryOutOrder_61 : decode cX8_carryOutOrder 61 = .ok (.getfield 481, 3) := by decide +kernel
theorem dX8_carryOutOrder_64 : decode cX8_carryOutOrder 64 = .ok (.iload_n 1, 1) := by decide +kernel
theorem dX8_carryOutOrder_65 : decode cX8_carryOutOrder 65 = .ok (.aload_n 0, 1) := by decide +kernel
theorem dX8_carryOutOrder_66 : decode cX8_carryOutOrder 66 = .ok (.getfield 29, 3) := by decide +kernel
theorem dX8_carryOutOrder_69 : decode cX8_carryOutOrder 69 = .ok (.getfield 412, 3) := by decide +kernel
theorem dX8_carryOutOrder_72 : decode cX8_carryOutOrder 72 = .ok (.aload_n 0, 1) := by decide +kernel
theorem dX8_carryOutOrder_73 : decode cX8_carryOutOrder 73 = .ok (.getfield 29, 3) := by decide +kernel
theorem dX8_carryOutOrder_76 : decode cX8_carryOutOrder 76 = .ok (.getfield 418, 3) := by decide +kernel
theorem dX8_carryOutOrder_79 : decode cX8_carryOutOrder 79 = .ok (.aload_n 0, 1) := by decide +kernel
theorem dX8_carryOutOrder_80 : decode cX8_carryOutOrder 80 = .ok (.getfield 29, 3) := by decide +kernel
theorem dX8_carryOutOrder_83 : decode cX8_carryOutOrder 83 = .ok (.getfield 482, 3) := by decide +kernel
theorem dX8_carryOutOrder_86 : decode cX8_carryOutOrder 86 = .ok (.invokevirtual 122, 3) := by decide +kernel
theorem dX8_carryOutOrder_89 : decode cX8_carryOutOrder 89 = .ok (.pop, 1) := by decide +kernel
theorem dX8_carryOutOrder_90 : decode cX8_carryOutOrder 90 = .ok (.iconst 0, 1) := by decide +kernel
theorem dX8_carryOutOrder_91 : decode cX8_carryOutOrder 91 = .ok (.ireturn, 1) := by decide +kernel
theorem dX9_init_0 : decode cX9_init 0 = .ok (.aload_n 0, 1) := by decide +kernel
theorem dX9_init_1 : decode cX9_init 1 = .ok (.invokespecial 1, 3) := by decide +kernel
theorem dX9_init_4 : decode cX9_init 4 = .ok (.aload_n 0, 1) := by decide +kernel
theorem dX9_init_5 : decode cX9_init 5 = .ok (.iconst 5, 1) := by decide +kernel
theorem dX9_init_6 : decode cX9_init 6 = .ok (.newarray .int, 2) := by decide +kernel
theorem dX9_init_8 : decode cX9_init 8 = .ok (.dup, 1) := by decide +kernel
theorem dX9_init_9 : decode cX9_init 9 = .ok (.iconst 0, 1) := by decide +kernel
theorem dX9_init_10 : decode cX9_init 10 = .ok (.bipush 6, 2) := by decide +kernel
theorem dX9_init_12 : decode cX9_init 12 = .ok (.iastore, 1) := by decide +kernel
theorem dX9_init_13 : decode cX9_init 13 = .ok (.dup, 1) := by decide +kernel
theorem dX9_init_14 : decode cX9_init 14 = .ok (.iconst 1, 1) := by decide +kernel
theorem dX9_init_15 : decode cX9_init 15 = .ok (.iconst 2, 1) := by decide +kernel
theorem dX9_init_16 : decode cX9_init 16 = .ok (.iastore, 1) := by decide +kernel
theorem dX9_init_17 : decode cX9_init 17 = .ok (.dup, 1) := by decide +kernel
theorem dX9_init_18 : decode cX9_init 18 = .ok (.iconst 2, 1) := by decide +kernel
theorem dX9_init_19 : decode cX9_init 19 = .ok (.iconst 3, 1) := by decide +kernel
theorem dX9_init_20 : decode cX9_init 20 = .ok (.iastore, 1) := by decide +kernel
theorem dX9_init_21 : decode cX9_init 21 = .ok (.dup, 1) := by decide +kernel
theorem dX9_init_22 : decode cX9_init 22 = .ok (.iconst 3, 1) := by decide +kernel
theorem dX9_init_23 : decode cX9_init 23 = .ok (.bipush 10, 2) := by decide +kernel
theorem dX9_init_25 : decode cX9_init 25 = .ok (.iastore, 1) := by decide +kernel
theorem dX9_init_26 : decode cX9_init 26 = .ok (.dup, 1) := by decide +kernel
theorem dX9_init_27 : decode cX9_init 27 = .ok (.iconst 4, 1) := by decide +kernel
theorem dX9_init_28 : decode cX9_init 28 = .ok (.iconst 2, 1) := by decide +kernel
theorem dX9_init_29 : decode cX9_init 29 = .ok (.iastore, 1) := by decide +kernel
theorem dX9_init_30 : decode cX9_init 30 = .ok (.putfield 7, 3) := by decide +kernel
theorem dX9_init_33 : decode cX9_init 33 = .ok (.aload_n 0, 1) := by decide +kernel
theorem dX9_init_34 : decode cX9_init 34 = .ok (.bipush 12, 2) := by decide +kernel
theorem dX9_init_36 : decode cX9_init 36 = .ok (.newarray .int, 2) := by decide +kernel
theorem dX9_init_38 : decode cX9_init 38 = .ok (.dup, 1) := by decide +kernel
theorem dX9_init_39 : decode cX9_init 39 = .ok (.iconst 0, 1) := by decide +kernel
theorem dX9_init_40 : decode cX9_init 40 = .ok (.iconst 0, 1) := by decide +kernel
theorem dX9_init_41 : decode cX9_init 41 = .ok (.iastore, 1) := by decide +kernel
theorem dX9_init_42 : decode cX9_init 42 = .ok (.dup, 1) := by decide +kernel
theorem dX9_init_43 : decode cX9_init 43 = .ok (.iconst 1, 1) := by decide +kernel
theorem dX9_init_44 : decode cX9_init 44 = .ok (.iconst 1, 1) := by decide +kernel
theorem dX9_init_45 : decode cX9_init 45 = .ok (.iastore, 1) := by decide +kernel
theorem dX9_init_46 : decode cX9_init 46 = .ok (.dup, 1) := by decide +kernel
theorem dX9_init_47 : decode cX9_init 47 = .ok (.iconst 2, 1) := by decide +kernel
theorem dX9_init_48 : decode cX9_init 48 = .ok (.iconst 2, 1) := by decide +kernel
theorem dX9_init_49 : decode cX9_init 49 = .ok (.iastore, 1) := by decide +kernel
theorem dX9_init_50 : decode cX9_init 50 = .ok (.dup, 1) := by decide +kernel
theorem dX9_init_51 : decode cX9_init 51 = .ok (.iconst 3, 1) := by decide +kernel
theorem dX9_init_52 : decode cX9_init 52 = .ok (.iconst 3, 1) := by decide +kernel
theorem dX9_init_53 : decode cX9_init 53 = .ok (.iastore, 1) := by decide +kernel
theorem dX9_init_54 : decode cX9_init 54 = .ok (.dup, 1) := by decide +kernel
theorem dX9_init_55 : decode cX9_init 55 = .ok (.iconst 4, 1) := by decide +kernel
theorem dX9_init_56 : decode cX9_init 56 = .ok (.iconst 4, 1) := by decide +kernel
theorem dX9_init_57 : decode cX9_init 57 = .ok (.iastore, 1) := by decide +kernel
theorem dX9_init_58 : decode cX9_init 58 = .ok (.dup, 1) := by decide +kernel
theorem dX9_init_59 : decode cX9_init 59 = .ok (.iconst 5, 1) := by decide +kernel
theorem dX9_init_60 : decode cX9_init 60 = .ok (.iconst 5, 1) := by decide +kernel
theorem dX9_init_61 : decode cX9_init 61 = .ok (.iastore, 1) := by decide +kernel
theorem dX9_init_62 : decode cX9_init 62 = .ok (.dup, 1) := by decide +kernel
theorem dX9_init_63 : decode cX9_init 63 = .ok (.bipush 6, 2) := by decide +kernel
theorem dX9_init_65 : decode cX9_init 65 = .ok (.bipush 6, 2) := by decide +kernel
theorem dX9_init_67 : decode cX9_init 67 = .ok (.iastore, 1) := by decide +kernel
theorem dX9_init_68 : decode cX9_init 68 = .ok (.dup, 1) := by decide +kernel
theorem dX9_init_69 : decode cX9_init 69 = .ok (.bipush 7, 2) := by decide +kernel
theorem dX9_init_71 : decode cX9_init 71 = .ok (.iconst 5, 1) := by decide +kernel
theorem dX9_init_72 : decode cX9_init 72 = .ok (.iastore, 1) := by decide +kernel
theorem dX9_init_73 : decode cX9_init 73 = .ok (.dup, 1) := by decide +kernel
theorem dX9_init_74 : decode cX9_init 74 = .ok (.bipush 8, 2) := by decide +kernel
theorem dX9_init_76 : decode cX9_init 76 = .ok (.iconst 4, 1) := by decide +kernel
theorem dX9_init_77 : decode cX9_init 77 = .ok (.iastore, 1) := by decide +kernel
theorem dX9_init_78 : decode cX9_init 78 = .ok (.dup, 1) := by decide +kernel
theorem dX9_init_79 : decode cX9_init 79 = .ok (.bipush 9, 2) := by decide +kernel
theorem dX9_init_81 : decode cX9_init 81 = .ok (.iconst 3, 1) := by decide +kernel
theorem dX9_init_82 : decode cX9_init 82 = .ok (.iastore, 1) := by decide +kernel
theorem dX9_init_83 : decode cX9_init 83 = .ok (.dup, 1) := by decide +kernel
theorem dX9_init_84 : decode cX9_init 84 = .ok (.bipush 10, 2) := by decide +kernel
theorem dX9_init_86 : decode cX9_init 86 = .ok (.iconst 2, 1) := by decide +kernel
theorem dX9_init_87 : decode cX9_init 87 = .ok (.iastore, 1) := by decide +kernel
theorem dX9_init_88 : decode cX9_init 88 = .ok (.dup, 1) := by decide +kernel
theorem dX9_init_89 : decode cX9_init 89 = .ok (.bipush 11, 2) := by decide +kernel
theorem dX9_init_91 : decode cX9_init 91 = .ok (.iconst 1, 1) := by decide +kernel
theorem dX9_init_92 : decode cX9_init 92 = .ok (.iastore, 1) := by decide +kernel
theorem dX9_init_93 : decode cX9_init 93 = .ok (.putfield 13, 3) := by decide +kernel
theorem dX9_init_96 : decode cX9_init 96 = .ok (.aload_n 0, 1) := by decide +kernel
theorem dX9_init_97 : decode cX9_init 97 = .ok (.bipush 16, 2) := by decide +kernel
theorem dX9_init_99 : decode cX9_init 99 = .ok (.newarray .int, 2) := by decide +kernel
theorem dX9_init_101 : decode cX9_init 101 = .ok (.putfield 16, 3) := by decide +kernel
theorem dX9_init_104 : decode cX9_init 104 = .ok (.aload_n 0, 1) := by decide +kernel
theorem dX9_init_105 : decode cX9_init 105 = .ok (.bipush 16, 2) := by decide +kernel
theorem dX9_init_107 : decode cX9_init 107 = .ok (.newarray .int, 2) := by decide +kernel
theorem dX9_init_109 : decode cX9_init 109 = .ok (.putfield 19, 3) := by decide +kernel
theorem dX9_init_112 : decode cX9_init 112 = .ok (.aload_n 0, 1) := by decide +kernel
theorem dX9_init_113 : decode cX9_init 113 = .ok (.bipush 16, 2) := by decide +kernel
theorem dX9_init_115 : decode cX9_init 115 = .ok (.newarray .int, 2) := by decide +kernel
theorem dX9_init_117 : decode cX9_init 117 = .ok (.putfield 22, 3) := by decide +kernel
theorem dX9_init_120 : decode cX9_init 120 = .ok (.aload_n 0, 1) := by decide +kernel
theorem dX9_init_121 : decode cX9_init 121 = .ok (.bipush 16, 2) := by decide +kernel
theorem dX9_init_123 : decode cX9_init 123 = .ok (.newarray .int, 2) := by decide +kernel
theorem dX9_init_125 : decode cX9_init 125 = .ok (.putfield 25, 3) := by decide +kernel
theorem dX9_init_128 : decode cX9_init 128 = .ok (.aload_n 0, 1) := by decide +kernel
theorem dX9_init_129 : decode cX9_init 129 = .ok (.bipush 16, 2) := by decide +kernel
theorem dX9_init_131 : decode cX9_init 131 = .ok (.newarray .int, 2) := by decide +kernel
theorem dX9_init_133 : decode cX9_init 133 = .ok (.putfield 28, 3) := by decide +kernel
theorem dX9_init_136 : decode cX9_init 136 = .ok (.aload_n 0, 1) := by decide +kernel
theorem dX9_init_137 : decode cX9_init 137 = .ok (.bipush 16, 2) := by decide +kernel
theorem dX9_init_139 : decode cX9_init 139 = .ok (.newarray .int, 2) := by decide +kernel
theorem dX9_init_141 : decode cX9_init 141 = .ok (.putfield 31, 3) := by decide +kernel
theorem dX9_init_144 : decode cX9_init 144 = .ok (.aload_n 0, 1) := by decide +kernel
theorem dX9_init_145 : decode cX9_init 145 = .ok (.bipush 16, 2) := by decide +kernel
theorem dX9_init_147 : decode cX9_init 147 = .ok (.newarray .int, 2) := by decide +kernel
theorem dX9_init_149 : decode cX9_init 149 = .ok (.putfield 34, 3) := by decide +kernel
theorem dX9_init_152 : decode cX9_init 152 = .ok (.aload_n 0, 1) := by decide +kernel
theorem dX9_init_153 : decode cX9_init 153 = .ok (.bipush 16, 2) := by decide +kernel
theorem dX9_init_155 : decode cX9_init 155 = .ok (.newarray .int, 2) := by decide +kernel
theorem dX9_init_157 : decode cX9_init 157 = .ok (.putfield 37, 3) := by decide +kernel
theorem dX9_init_160 : decode cX9_init 160 = .ok (.aload_n 0, 1) := by decide +kernel
theorem dX9_init_161 : decode cX9_init 161 = .ok (.bipush 16, 2) := by decide +kernel
theorem dX9_init_163 : decode cX9_init 163 = .ok (.newarray .int, 2) := by decide +kernel
theorem dX9_init_165 : decode cX9_init 165 = .ok (.putfield 40, 3) := by decide +kernel
theorem dX9_init_168 : decode cX9_init 168 = .ok (.aload_n 0, 1) := by decide +kernel
theorem dX9_init_169 : decode cX9_init 169 = .ok (.bipush 6, 2) := by decide +kernel
theorem dX9_init_171 : decode cX9_init 171 = .ok (.newarray .int, 2) := by decide +kernel
theorem dX9_init_173 : decode cX9_init 173 = .ok (.putfield 43, 3) := by decide +kernel
theorem dX9_init_176 : decode cX9_init 176 = .ok (.aload_n 0, 1) := by decide +kernel
theorem dX9_init_177 : decode cX9_init 177 = .ok (.bipush 6, 2) := by decide +kernel
theorem dX9_init_179 : decode cX9_init 179 = .ok (.newarray .int, 2) := by decide +kernel
theorem dX9_init_181 : decode cX9_init 181 = .ok (.putfield 46, 3) := by decide +kernel
theorem dX9_init_184 : decode cX9_init 184 = .ok (.aload_n 0, 1) := by decide +kernel
theorem dX9_init_185 : decode cX9_init 185 = .ok (.bipush 6, 2) := by decide +kernel
theorem dX9_init_187 : decode cX9_init 187 = .ok (.newarray .int, 2) := by decide +kernel
theorem dX9_init_189 : decode cX9_init 189 = .ok (.putfield 49, 3) := by decide +kernel
theorem dX9_init_192 : decode cX9_init 192 = .ok (.aload_n 0, 1) := by decide +kernel
theorem dX9_init_193 : decode cX9_init 193 = .ok (.iconst 3, 1) := by decide +kernel
theorem dX9_init_194 : decode cX9_init 194 = .ok (.newarray .int, 2) := by decide +kernel
theorem dX9_init_196 : decode cX9_init 196 = .ok (.putfield 52, 3) := by decide +kernel
theorem dX9_init_199 : decode cX9_init 199 = .ok (.aload_n 0, 1) := by decide +kernel
theorem dX9_init_200 : decode cX9_init 200 = .ok (.iconst 3, 1) := by decide +kernel
theorem dX9_init_201 : decode cX9_init 201 = .ok (.newarray .int, 2) := by decide +kernel
theorem dX9_init_203 : decode cX9_init 203 = .ok (.putfield 55, 3) := by decide +kernel
theorem dX9_init_206 : decode cX9_init 206 = .ok (.aload_n 0, 1) := by decide +kernel
theorem dX9_init_207 : decode cX9_init 207 = .ok (.iconst 3, 1) := by decide +kernel
theorem dX9_init_208 : decode cX9_init 208 = .ok (.newarray .int, 2) := by decide +kernel
theorem dX9_init_210 : decode cX9_init 210 = .ok (.putfield 58, 3) := by decide +kernel
theorem dX9_init_213 : decode cX9_init 213 = .ok (.aload_n 0, 1) := by decide +kernel
theorem dX9_init_214 : decode cX9_init 214 = .ok (.sipush 2703, 3) := by decide +kernel
theorem dX9_init_217 : decode cX9_init 217 = .ok (.newarray .int, 2) := by decide +kernel
theorem dX9_init_219 : decode cX9_init 219 = .ok (.putfield 61, 3) := by decide +kernel
theorem dX9_init_222 : decode cX9_init 222 = .ok (.aload_n 0, 1) := by decide +kernel
theorem dX9_init_223 : decode cX9_init 223 = .ok (.bipush 60, 2) := by decide +kernel
theorem dX9_init_225 : decode cX9_init 225 = .ok (.newarray .char, 2) := by decide +kernel
theorem dX9_init_227 : decode cX9_init 227 = .ok (.putfield 64, 3) := by decide +kernel
theorem dX9_init_230 : decode cX9_init 230 = .ok (.aload_n 0, 1) := by decide +kernel
theorem dX9_init_231 : decode cX9_init 231 = .ok (.bipush 30, 2) := by decide +kernel
theorem dX9_init_233 : decode cX9_init 233 = .ok (.newarray .char, 2) := by decide +kernel
theorem dX9_init_235 : decode cX9_init 235 = .ok (.putfield 68, 3) := by decide +kernel
theorem dX9_init_238 : decode cX9_init 238 = .ok (.aload_n 0, 1) := by decide +kernel
theorem dX9_init_239 : decode cX9_init 239 = .ok (.bipush 120, 2) := by decide +kernel
theorem dX9_init_241 : decode cX9_init 241 = .ok (.newarray .int, 2) := by decide +kernel
theorem dX9_init_243 : decode cX9_init 243 = .ok (.putfield 71, 3) := by decide +kernel
theorem dX9_init_246 : decode cX9_init 246 = .ok (.aload_n 0, 1) := by decide +kernel
theorem dX9_init_247 : decode cX9_init 247 = .ok (.iconst (-1), 1) := by decide +kernel
theorem dX9_init_248 : decode cX9_init 248 = .ok (.putfield 74, 3) := by decide +kernel
theorem dX9_init_251 : decode cX9_init 251 = .ok (.aload_n 0, 1) := by decide +kernel
theorem dX9_init_252 : decode cX9_init 252 = .ok (.sipush 23168, 3) := by decide +kernel
theorem dX9_init_255 : decode cX9_init 255 = .ok (.newarray .int, 2) := by decide +kernel
theorem dX9_init_257 : decode cX9_init 257 = .ok (.putfield 78, 3) := by decide +kernel
theorem dX9_init_260 : decode cX9_init 260 = .ok (.aload_n 0, 1) := by decide +kernel
theorem dX9_init_261 : decode cX9_init 261 = .ok (.sipush 2896, 3) := by decide +kernel
theorem dX9_init_264 : decode cX9_init 264 = .ok (.newarray .int, 2) := by decide +kernel
theorem dX9_init_266 : decode cX9_init 266 = .ok (.putfield 81, 3) := by decide +kernel
theorem dX9_init_269 : decode cX9_init 269 = .ok (.aload_n 0, 1) := by decide +kernel
theorem dX9_init_270 : decode cX9_init 270 = .ok (.sipush 2896, 3) := by decide +kernel
theorem dX9_init_273 : decode cX9_init 273 = .ok (.newarray .int, 2) := by decide +kernel
theorem dX9_init_275 : decode cX9_init 275 = .ok (.putfield 84, 3) := by decide +kernel
theorem dX9_init_278 : decode cX9_init 278 = .ok (.return_, 1) := by decide +kernel
theorem dX9_thrown_0 : decode cX9_thrown 0 = .ok (.aload_n 0, 1) := by decide +kernel
theorem dX9_thrown_1 : decode cX9_thrown 1 = .ok (.getfield 87, 3) := by decide +kernel
theorem dX9_thrown_4 : decode cX9_thrown 4 = .ok (.ireturn, 1) := by decide +kernel
theorem dX9_fails_0 : decode cX9_fails 0 = .ok (.aload_n 0, 1) := by decide +kernel
theorem dX9_fails_1 : decode cX9_fails 1 = .ok (.iload_n 1, 1) := by decide +kernel
theorem dX9_fails_2 : decode cX9_fails 2 = .ok (.putfield 87, 3) := by decide +kernel
theorem dX9_fails_5 : decode cX9_fails 5 = .ok (.iconst 0, 1) := by decide +kernel
theorem dX9_fails_6 : decode cX9_fails 6 = .ok (.ireturn, 1) := by decide +kernel
theorem dX9_isBetween_0 : decode cX9_isBetween 0 = .ok (.iload_n 0, 1) := by decide +kernel
theorem dX9_isBetween_1 : decode cX9_isBetween 1 = .ok (.iload_n 1, 1) := by decide +kernel
theorem dX9_isBetween_2 : decode cX9_isBetween 2 = .ok (.if_icmp .lt 12, 3) := by decide +kernel
theorem dX9_isBetween_5 : decode cX9_isBetween 5 = .ok (.iload_n 0, 1) := by decide +kernel
theorem dX9_isBetween_6 : decode cX9_isBetween 6 = .ok (.iload_n 2, 1) := by decide +kernel
theorem dX9_isBetween_7 : decode cX9_isBetween 7 = .ok (.if_icmp .gt 7, 3) := by decide +kernel
theorem dX9_isBetween_10 : decode cX9_isBetween 10 = .ok (.iconst 1, 1) := by decide +kernel
theorem dX9_isBetween_11 : decode cX9_isBetween 11 = .ok (.goto 4, 3) := by decide +kernel
theorem dX9_isBetween_14 : decode cX9_isBetween 14 = .ok (.iconst 0, 1) := by decide +kernel
theorem dX9_isBetween_15 : decode cX9_isBetween 15 = .ok (.ireturn, 1) := by decide +kernel
theorem dX9_isHour_0 : decode cX9_isHour 0 = .ok (.iload_n 0, 1) := by decide +kernel
theorem dX9_isHour_1 : decode cX9_isHour 1 = .ok (.iconst 0, 1) := by decide +kernel
theorem dX9_isHour_2 : decode cX9_isHour 2 = .ok (.sipush 999, 3) := by decide +kernel
theorem dX9_isHour_5 : decode cX9_isHour 5 = .ok (.invokestatic 90, 3) := by decide +kernel
theorem dX9_isHour_8 : decode cX9_isHour 8 = .ok (.ireturn, 1) := by decide +kernel
theorem dX9_bits_0 : decode cX9_bits 0 = .ok (.iconst 0, 1) := by decide +kernel
theorem dX9_bits_1 : decode cX9_bits 1 = .ok (.istore_n 1, 1) := by decide +kernel
theorem dX9_bits_2 : decode cX9_bits 2 = .ok (.iconst 0, 1) := by decide +kernel
theorem dX9_bits_3 : decode cX9_bits 3 = .ok (.istore_n 2, 1) := by decide +kernel
theorem dX9_bits_4 : decode cX9_bits 4 = .ok (.iload_n 2, 1) := by decide +kernel
theorem dX9_bits_5 : decode cX9_bits 5 = .ok (.bipush 6, 2) := by decide +kernel
theorem dX9_bits_7 : decode cX9_bits 7 = .ok (.if_icmp .ge 17, 3) := by decide +kernel
theorem dX9_bits_10 : decode cX9_bits 10 = .ok (.iload_n 1, 1) := by decide +kernel
theorem dX9_bits_11 : decode cX9_bits 11 = .ok (.iload_n 0, 1) := by decide +kernel
theorem dX9_bits_12 : decode cX9_bits 12 = .ok (.iload_n 2, 1) := by decide +kernel
theorem dX9_bits_13 : decode cX9_bits 13 = .ok (.ishr, 1) := by decide +kernel
theorem dX9_bits_14 : decode cX9_bits 14 = .ok (.iconst 1, 1) := by decide +kernel
theorem dX9_bits_15 : decode cX9_bits 15 = .ok (.iand, 1) := by decide +kernel
theorem dX9_bits_16 : decode cX9_bits 16 = .ok (.iadd, 1) := by decide +kernel
theorem dX9_bits_17 : decode cX9_bits 17 = .ok (.istore_n 1, 1) := by decide +kernel
theorem dX9_bits_18 : decode cX9_bits 18 = .ok (.iinc 2 1, 3) := by decide +kernel
theorem dX9_bits_21 : decode cX9_bits 21 = .ok (.goto (-17), 3) := by decide +kernel
theorem dX9_bits_24 : decode cX9_bits 24 = .ok (.iload_n 1, 1) := by decide +kernel
theorem dX9_bits_25 : decode cX9_bits 25 = .ok (.ireturn, 1) := by decide +kernel
theorem dX9_isPilot_0 : decode cX9_isPilot 0 = .ok (.iload_n 1, 1) := by decide +kernel
theorem dX9_isPilot_1 : decode cX9_isPilot 1 = .ok (.ifCond .lt 15, 3) := by decide +kernel
theorem dX9_isPilot_4 : decode cX9_isPilot 4 = .ok (.iload_n 1, 1) := by decide +kernel
theorem dX9_isPilot_5 : decode cX9_isPilot 5 = .ok (.aload_n 0, 1) := by decide +kernel
theorem dX9_isPilot_6 : decode cX9_isPilot 6 = .ok (.getfield 94, 3) := by decide +kernel
theorem dX9_isPilot_9 : decode cX9_isPilot 9 = .ok (.if_icmp .ge 7, 3) := by decide +kernel
theorem dX9_isPilot_12 : decode cX9_isPilot 12 = .ok (.iconst 1, 1) := by decide +kernel
theorem dX9_isPilot_13 : decode cX9_isPilot 13 = .ok (.goto 4, 3) := by decide +kernel
theorem dX9_isPilot_16 : decode cX9_isPilot 16 = .ok (.iconst 0, 1) := by decide +kernel
theorem dX9_isPilot_17 : decode cX9_isPilot 17 = .ok (.ireturn, 1) := by decide +kernel
theorem dX9_isBoat_0 : decode cX9_isBoat 0 = .ok (.iload_n 1, 1) := by decide +kernel
theorem dX9_isBoat_1 : decode cX9_isBoat 1 = .ok (.ifCond .lt 15, 3) := by decide +kernel
theorem dX9_isBoat_4 : decode cX9_isBoat 4 = .ok (.iload_n 1, 1) := by decide +kernel
theorem dX9_isBoat_5 : decode cX9_isBoat 5 = .ok (.aload_n 0, 1) := by decide +kernel
theorem dX9_isBoat_6 : decode cX9_isBoat 6 = .ok (.getfield 97, 3) := by decide +kernel
theorem dX9_isBoat_9 : decode cX9_isBoat 9 = .ok (.if_icmp .ge 7, 3) := by decide +kernel
theorem dX9_isBoat_12 : decode cX9_isBoat 12 = .ok (.iconst 1, 1) := by decide +kernel
theorem dX9_isBoat_13 : decode cX9_isBoat 13 = .ok (.goto 4, 3) := by decide +kernel
theorem dX9_isBoat_16 : decode cX9_isBoat 16 = .ok (.iconst 0, 1) := by decide +kernel
theorem dX9_isBoat_17 : decode cX9_isBoat 17 = .ok (.ireturn, 1) := by decide +kernel
theorem dX9_isOrder_0 : decode cX9_isOrder 0 = .ok (.iload_n 1, 1) := by decide +kernel
theorem dX9_isOrder_1 : decode cX9_isOrder 1 = .ok (.ifCond .lt 15, 3) := by decide +kernel
theorem dX9_isOrder_4 : decode cX9_isOrder 4 = .ok (.iload_n 1, 1) := by decide +kernel
theorem dX9_isOrder_5 : decode cX9_isOrder 5 = .ok (.aload_n 0, 1) := by decide +kernel
theorem dX9_isOrder_6 : decode cX9_isOrder 6 = .ok (.getfield 100, 3) := by decide +kernel
theorem dX9_isOrder_9 : decode cX9_isOrder 9 = .ok (.if_icmp .ge 7, 3) := by decide +kernel
theorem dX9_isOrder_12 : decode cX9_isOrder 12 = .ok (.iconst 1, 1) := by decide +kernel
theorem dX9_isOrder_13 : decode cX9_isOrder 13 = .ok (.goto 4, 3) := by decide +kernel
theorem dX9_isOrder_16 : decode cX9_isOrder 16 = .ok (.iconst 0, 1) := by decide +kernel
theorem dX9_isOrder_17 : decode cX9_isOrder 17 = .ok (.ireturn, 1) := by decide +kernel
theorem dX9_packed_0 : decode cX9_packed 0 = .ok (.iload_n 0, 1) := by decide +kernel
theorem dX9_packed_1 : decode cX9_packed 1 = .ok (.iload_n 1, 1) := by decide +kernel
theorem dX9_packed_2 : decode cX9_packed 2 = .ok (.bipush 10, 2) := by decide +kernel
theorem dX9_packed_4 : decode cX9_packed 4 = .ok (.ishl, 1) := by decide +kernel
theorem dX9_packed_5 : decode cX9_packed 5 = .ok (.ior, 1) := by decide +kernel
theorem dX9_packed_6 : decode cX9_packed 6 = .ok (.iload_n 2, 1) := by decide +kernel
theorem dX9_packed_7 : decode cX9_packed 7 = .ok (.bipush 13, 2) := by decide +kernel
theorem dX9_packed_9 : decode cX9_packed 9 = .ok (.ishl, 1) := by decide +kernel
theorem dX9_packed_10 : decode cX9_packed 10 = .ok (.ior, 1) := by decide +kernel
theorem dX9_packed_11 : decode cX9_packed 11 = .ok (.iload_n 3, 1) := by decide +kernel
theorem dX9_packed_12 : decode cX9_packed 12 = .ok (.bipush 19, 2) := by decide +kernel
theorem dX9_packed_14 : decode cX9_packed 14 = .ok (.ishl, 1) := by decide +kernel
theorem dX9_packed_15 : decode cX9_packed 15 = .ok (.ior, 1) := by decide +kernel
theorem dX9_packed_16 : decode cX9_packed 16 = .ok (.iload 4, 2) := by decide +kernel
theorem dX9_packed_18 : decode cX9_packed 18 = .ok (.bipush 20, 2) := by decide +kernel
theorem dX9_packed_20 : decode cX9_packed 20 = .ok (.ishl, 1) := by decide +kernel
theorem dX9_packed_21 : decode cX9_packed 21 = .ok (.ior, 1) := by decide +kernel
theorem dX9_packed_22 : decode cX9_packed 22 = .ok (.ireturn, 1) := by decide +kernel
theorem dX9_hourOf_0 : decode cX9_hourOf 0 = .ok (.iload_n 0, 1) := by decide +kernel
theorem dX9_hourOf_1 : decode cX9_hourOf 1 = .ok (.sipush 1023, 3) := by decide +kernel
theorem dX9_hourOf_4 : decode cX9_hourOf 4 = .ok (.iand, 1) := by decide +kernel
theorem dX9_hourOf_5 : decode cX9_hourOf 5 = .ok (.ireturn, 1) := by decide +kernel
theorem dX9_endOf_0 : decode cX9_endOf 0 = .ok (.iload_n 0, 1) := by decide +kernel
theorem dX9_endOf_1 : decode cX9_endOf 1 = .ok (.sipush 1023, 3) := by decide +kernel
theorem dX9_endOf_4 : decode cX9_endOf 4 = .ok (.iand, 1) := by decide +kernel
theorem dX9_endOf_5 : decode cX9_endOf 5 = .ok (.iload_n 0, 1) := by decide +kernel
theorem dX9_endOf_6 : decode cX9_endOf 6 = .ok (.bipush 10, 2) := by decide +kernel
theorem dX9_endOf_8 : decode cX9_endOf 8 = .ok (.ishr, 1) := by decide +kernel
theorem dX9_endOf_9 : decode cX9_endOf 9 = .ok (.bipush 7, 2) := by decide +kernel
theorem dX9_endOf_11 : decode cX9_endOf 11 = .ok (.iand, 1) := by decide +kernel
theorem dX9_endOf_12 : decode cX9_endOf 12 = .ok (.iadd, 1) := by decide +kernel
theorem dX9_endOf_13 : decode cX9_endOf 13 = .ok (.ireturn, 1) := by decide +kernel
theorem dX9_has_0 : decode cX9_has 0 = .ok (.iload_n 0, 1) := by decide +kernel
theorem dX9_has_1 : decode cX9_has 1 = .ok (.bipush 13, 2) := by decide +kernel
theorem dX9_has_3 : decode cX9_has 3 = .ok (.iload_n 1, 1) := by decide +kernel
theorem dX9_has_4 : decode cX9_has 4 = .ok (.iadd, 1) := by decide +kernel
theorem dX9_has_5 : decode cX9_has 5 = .ok (.ishr, 1) := by decide +kernel
theorem dX9_has_6 : decode cX9_has 6 = .ok (.iconst 1, 1) := by decide +kernel
theorem dX9_has_7 : decode cX9_has 7 = .ok (.iand, 1) := by decide +kernel
theorem dX9_has_8 : decode cX9_has 8 = .ok (.iconst 1, 1) := by decide +kernel
theorem dX9_has_9 : decode cX9_has 9 = .ok (.if_icmp .ne 7, 3) := by decide +kernel
theorem dX9_has_12 : decode cX9_has 12 = .ok (.iconst 1, 1) := by decide +kernel
theorem dX9_has_13 : decode cX9_has 13 = .ok (.goto 4, 3) := by decide +kernel
theorem dX9_has_16 : decode cX9_has 16 = .ok (.iconst 0, 1) := by decide +kernel
theorem dX9_has_17 : decode cX9_has 17 = .ok (.ireturn, 1) := by decide +kernel
theorem dX9_toOf_0 : decode cX9_toOf 0 = .ok (.iload_n 0, 1) := by decide +kernel
theorem dX9_toOf_1 : decode cX9_toOf 1 = .ok (.bipush 19, 2) := by decide +kernel
theorem dX9_toOf_3 : decode cX9_toOf 3 = .ok (.ishr, 1) := by decide +kernel
theorem dX9_toOf_4 : decode cX9_toOf 4 = .ok (.iconst 1, 1) := by decide +kernel
theorem dX9_toOf_5 : decode cX9_toOf 5 = .ok (.iand, 1) := by decide +kernel
theorem dX9_toOf_6 : decode cX9_toOf 6 = .ok (.ireturn, 1) := by decide +kernel
theorem dX9_boatOf_0 : decode cX9_boatOf 0 = .ok (.iload_n 0, 1) := by decide +kernel
theorem dX9_boatOf_1 : decode cX9_boatOf 1 = .ok (.bipush 20, 2) := by decide +kernel
theorem dX9_boatOf_3 : decode cX9_boatOf 3 = .ok (.ishr, 1) := by decide +kernel
theorem dX9_boatOf_4 : decode cX9_boatOf 4 = .ok (.ireturn, 1) := by decide +kernel
theorem dX9_length_0 : decode cX9_length 0 = .ok (.aload_n 0, 1) := by decide +kernel
theorem dX9_length_1 : decode cX9_length 1 = .ok (.getfield 16, 3) := by decide +kernel
theorem dX9_length_4 : decode cX9_length 4 = .ok (.iload_n 1, 1) := by decide +kernel
theorem dX9_length_5 : decode cX9_length 5 = .ok (.iaload, 1) := by decide +kernel
theorem dX9_length_6 : decode cX9_length 6 = .ok (.iconst 2, 1) := by decide +kernel
theorem dX9_length_7 : decode cX9_length 7 = .ok (.iadd, 1) := by decide +kernel
theorem dX9_length_8 : decode cX9_length 8 = .ok (.ireturn, 1) := by decide +kernel
theorem dX9_end_0 : decode cX9_end 0 = .ok (.aload_n 0, 1) := by decide +kernel
theorem dX9_end_1 : decode cX9_end 1 = .ok (.getfield 37, 3) := by decide +kernel
theorem dX9_end_4 : decode cX9_end 4 = .ok (.iload_n 1, 1) := by decide +kernel
theorem dX9_end_5 : decode cX9_end 5 = .ok (.iaload, 1) := by decide +kernel
theorem dX9_end_6 : decode cX9_end 6 = .ok (.aload_n 0, 1) := by decide +kernel
theorem dX9_end_7 : decode cX9_end 7 = .ok (.iload_n 1, 1) := by decide +kernel
theorem dX9_end_8 : decode cX9_end 8 = .ok (.invokevirtual 103, 3) := by decide +kernel
theorem dX9_end_11 : decode cX9_end 11 = .ok (.iadd, 1) := by decide +kernel
theorem dX9_end_12 : decode cX9_end 12 = .ok (.ireturn, 1) := by decide +kernel
theorem dX9_hasTrip_0 : decode cX9_hasTrip 0 = .ok (.aload_n 0, 1) := by decide +kernel
theorem dX9_hasTrip_1 : decode cX9_hasTrip 1 = .ok (.getfield 31, 3) := by decide +kernel
theorem dX9_hasTrip_4 : decode cX9_hasTrip 4 = .ok (.iload_n 1, 1) := by decide +kernel
theorem dX9_hasTrip_5 : decode cX9_hasTrip 5 = .ok (.iaload, 1) := by decide +kernel
theorem dX9_hasTrip_6 : decode cX9_hasTrip 6 = .ok (.iconst 1, 1) := by decide +kernel
theorem dX9_hasTrip_7 : decode cX9_hasTrip 7 = .ok (.if_icmp .eq 13, 3) := by decide +kernel
theorem dX9_hasTrip_10 : decode cX9_hasTrip 10 = .ok (.aload_n 0, 1) := by decide +kernel
theorem dX9_hasTrip_11 : decode cX9_hasTrip 11 = .ok (.getfield 31, 3) := by decide +kernel
theorem dX9_hasTrip_14 : decode cX9_hasTrip 14 = .ok (.iload_n 1, 1) := by decide +kernel
theorem dX9_hasTrip_15 : decode cX9_hasTrip 15 = .ok (.iaload, 1) := by decide +kernel
theorem dX9_hasTrip_16 : decode cX9_hasTrip 16 = .ok (.iconst 2, 1) := by decide +kernel
theorem dX9_hasTrip_17 : decode cX9_hasTrip 17 = .ok (.if_icmp .ne 7, 3) := by decide +kernel
theorem dX9_hasTrip_20 : decode cX9_hasTrip 20 = .ok (.iconst 1, 1) := by decide +kernel
theorem dX9_hasTrip_21 : decode cX9_hasTrip 21 = .ok (.goto 4, 3) := by decide +kernel
theorem dX9_hasTrip_24 : decode cX9_hasTrip 24 = .ok (.iconst 0, 1) := by decide +kernel
theorem dX9_hasTrip_25 : decode cX9_hasTrip 25 = .ok (.ireturn, 1) := by decide +kernel
theorem dX9_isTripOf_0 : decode cX9_isTripOf 0 = .ok (.aload_n 0, 1) := by decide +kernel
theorem dX9_isTripOf_1 : decode cX9_isTripOf 1 = .ok (.iload_n 1, 1) := by decide +kernel
theorem dX9_isTripOf_2 : decode cX9_isTripOf 2 = .ok (.invokevirtual 107, 3) := by decide +kernel
theorem dX9_isTripOf_5 : decode cX9_isTripOf 5 = .ok (.ifCond .eq 17, 3) := by decide +kernel
theorem dX9_isTripOf_8 : decode cX9_isTripOf 8 = .ok (.aload_n 0, 1) := by decide +kernel
theorem dX9_isTripOf_9 : decode cX9_isTripOf 9 = .ok (.getfield 34, 3) := by decide +kernel
theorem dX9_isTripOf_12 : decode cX9_isTripOf 12 = .ok (.iload_n 1, 1) := by decide +kernel
theorem dX9_isTripOf_13 : decode cX9_isTripOf 13 = .ok (.iaload, 1) := by decide +kernel
theorem dX9_isTripOf_14 : decode cX9_isTripOf 14 = .ok (.iload_n 2, 1) := by decide +kernel
theorem dX9_isTripOf_15 : decode cX9_isTripOf 15 = .ok (.if_icmp .ne 7, 3) := by decide +kernel
theorem dX9_isTripOf_18 : decode cX9_isTripOf 18 = .ok (.iconst 1, 1) := by decide +kernel
theorem dX9_isTripOf_19 : decode cX9_isTripOf 19 = .ok (.goto 4, 3) := by decide +kernel
theorem dX9_isTripOf_22 : decode cX9_isTripOf 22 = .ok (.iconst 0, 1) := by decide +kernel
theorem dX9_isTripOf_23 : decode cX9_isTripOf 23 = .ok (.ireturn, 1) := by decide +kernel
theorem dX9_startOf_0 : decode cX9_startOf 0 = .ok (.aload_n 0, 1) := by decide +kernel
theorem dX9_startOf_1 : decode cX9_startOf 1 = .ok (.getfield 19, 3) := by decide +kernel
theorem dX9_startOf_4 : decode cX9_startOf 4 = .ok (.iload_n 1, 1) := by decide +kernel
theorem dX9_startOf_5 : decode cX9_startOf 5 = .ok (.iaload, 1) := by decide +kernel
theorem dX9_startOf_6 : decode cX9_startOf 6 = .ok (.iconst 1, 1) := by decide +kernel
theorem dX9_startOf_7 : decode cX9_startOf 7 = .ok (.if_icmp .ne 7, 3) := by decide +kernel
theorem dX9_startOf_10 : decode cX9_startOf 10 = .ok (.iconst 0, 1) := by decide +kernel
theorem dX9_startOf_11 : decode cX9_startOf 11 = .ok (.goto 4, 3) := by decide +kernel
theorem dX9_startOf_14 : decode cX9_startOf 14 = .ok (.iconst 1, 1) := by decide +kernel
theorem dX9_startOf_15 : decode cX9_startOf 15 = .ok (.ireturn, 1) := by decide +kernel
theorem dX9_goalOf_0 : decode cX9_goalOf 0 = .ok (.aload_n 0, 1) := by decide +kernel
theorem dX9_goalOf_1 : decode cX9_goalOf 1 = .ok (.getfield 19, 3) := by decide +kernel
theorem dX9_goalOf_4 : decode cX9_goalOf 4 = .ok (.iload_n 1, 1) := by decide +kernel
theorem dX9_goalOf_5 : decode cX9_goalOf 5 = .ok (.iaload, 1) := by decide +kernel
theorem dX9_goalOf_6 : decode cX9_goalOf 6 = .ok (.ireturn, 1) := by decide +kernel
theorem dX9_depthAt_0 : decode cX9_depthAt 0 = .ok (.aload_n 0, 1) := by decide +kernel
theorem dX9_depthAt_1 : decode cX9_depthAt 1 = .ok (.getfield 7, 3) := by decide +kernel
theorem dX9_depthAt_4 : decode cX9_depthAt 4 = .ok (.iconst 3, 1) := by decide +kernel
theorem dX9_depthAt_5 : decode cX9_depthAt 5 = .ok (.iaload, 1) := by decide +kernel
theorem dX9_depthAt_6 : decode cX9_depthAt 6 = .ok (.aload_n 0, 1) := by decide +kernel
theorem dX9_depthAt_7 : decode cX9_depthAt 7 = .ok (.getfield 13, 3) := by decide +kernel
theorem dX9_depthAt_10 : decode cX9_depthAt 10 = .ok (.iload_n 1, 1) := by decide +kernel
theorem dX9_depthAt_11 : decode cX9_depthAt 11 = .ok (.bipush 12, 2) := by decide +kernel
theorem dX9_depthAt_13 : decode cX9_depthAt 13 = .ok (.irem, 1) := by decide +kernel
theorem dX9_depthAt_14 : decode cX9_depthAt 14 = .ok (.iaload, 1) := by decide +kernel
theorem dX9_depthAt_15 : decode cX9_depthAt 15 = .ok (.iadd, 1) := by decide +kernel
theorem dX9_depthAt_16 : decode cX9_depthAt 16 = .ok (.ireturn, 1) := by decide +kernel
theorem dX9_isDeep_0 : decode cX9_isDeep 0 = .ok (.iconst 0, 1) := by decide +kernel
theorem dX9_isDeep_1 : decode cX9_isDeep 1 = .ok (.istore_n 3, 1) := by decide +kernel
theorem dX9_isDeep_2 : decode cX9_isDeep 2 = .ok (.iload_n 3, 1) := by decide +kernel
theorem dX9_isDeep_3 : decode cX9_isDeep 3 = .ok (.aload_n 0, 1) := by decide +kernel
theorem dX9_isDeep_4 : decode cX9_isDeep 4 = .ok (.iload_n 1, 1) := by decide +kernel
theorem dX9_isDeep_5 : decode cX9_isDeep 5 = .ok (.invokevirtual 103, 3) := by decide +kernel
theorem dX9_isDeep_8 : decode cX9_isDeep 8 = .ok (.if_icmp .ge 27, 3) := by decide +kernel
theorem dX9_isDeep_11 : decode cX9_isDeep 11 = .ok (.aload_n 0, 1) := by decide +kernel
theorem dX9_isDeep_12 : decode cX9_isDeep 12 = .ok (.iload_n 2, 1) := by decide +kernel
theorem dX9_isDeep_13 : decode cX9_isDeep 13 = .ok (.iload_n 3, 1) := by decide +kernel
theorem dX9_isDeep_14 : decode cX9_isDeep 14 = .ok (.iadd, 1) := by decide +kernel
theorem dX9_isDeep_15 : decode cX9_isDeep 15 = .ok (.invokevirtual 111, 3) := by decide +kernel
theorem dX9_isDeep_18 : decode cX9_isDeep 18 = .ok (.aload_n 0, 1) := by decide +kernel
theorem dX9_isDeep_19 : decode cX9_isDeep 19 = .ok (.getfield 22, 3) := by decide +kernel
theorem dX9_isDeep_22 : decode cX9_isDeep 22 = .ok (.iload_n 1, 1) := by decide +kernel
theorem dX9_isDeep_23 : decode cX9_isDeep 23 = .ok (.iaload, 1) := by decide +kernel
theorem dX9_isDeep_24 : decode cX9_isDeep 24 = .ok (.if_icmp .ge 5, 3) := by decide +kernel
theorem dX9_isDeep_27 : decode cX9_isDeep 27 = .ok (.iconst 0, 1) := by decide +kernel
theorem dX9_isDeep_28 : decode cX9_isDeep 28 = .ok (.ireturn, 1) := by decide +kernel
theorem dX9_isDeep_29 : decode cX9_isDeep 29 = .ok (.iinc 3 1, 3) := by decide +kernel
theorem dX9_isDeep_32 : decode cX9_isDeep 32 = .ok (.goto (-30), 3) := by decide +kernel
theorem dX9_isDeep_35 : decode cX9_isDeep 35 = .ok (.iconst 1, 1) := by decide +kernel
theorem dX9_isDeep_36 : decode cX9_isDeep 36 = .ok (.ireturn, 1) := by decide +kernel
theorem dX9_looks_0 : decode cX9_looks 0 = .ok (.iload_n 1, 1) := by decide +kernel
theorem dX9_looks_1 : decode cX9_looks 1 = .ok (.aload_n 0, 1) := by decide +kernel
theorem dX9_looks_2 : decode cX9_looks 2 = .ok (.getfield 118, 3) := by decide +kernel
theorem dX9_looks_5 : decode cX9_looks 5 = .ok (.if_icmp .gt 4, 3) := by decide +kernel
theorem dX9_looks_8 : decode cX9_looks 8 = .ok (.return_, 1) := by decide +kernel
theorem dX9_looks_9 : decode cX9_looks 9 = .ok (.aload_n 0, 1) := by decide +kernel
theorem dX9_looks_10 : decode cX9_looks 10 = .ok (.iload_n 1, 1) := by decide +kernel
theorem dX9_looks_11 : decode cX9_looks 11 = .ok (.putfield 118, 3) := by decide +kernel
theorem dX9_looks_14 : decode cX9_looks 14 = .ok (.aload_n 0, 1) := by decide +kernel
theorem dX9_looks_15 : decode cX9_looks 15 = .ok (.iload_n 2, 1) := by decide +kernel
theorem dX9_looks_16 : decode cX9_looks 16 = .ok (.putfield 121, 3) := by decide +kernel
theorem dX9_looks_19 : decode cX9_looks 19 = .ok (.return_, 1) := by decide +kernel
theorem dX9_findLast_0 : decode cX9_findLast 0 = .ok (.aload_n 0, 1) := by decide +kernel
theorem dX9_findLast_1 : decode cX9_findLast 1 = .ok (.iconst 0, 1) := by decide +kernel
theorem dX9_findLast_2 : decode cX9_findLast 2 = .ok (.putfield 118, 3) := by decide +kernel
theorem dX9_findLast_5 : decode cX9_findLast 5 = .ok (.aload_n 0, 1) := by decide +kernel
theorem dX9_findLast_6 : decode cX9_findLast 6 = .ok (.iconst 0, 1) := by decide +kernel
theorem dX9_findLast_7 : decode cX9_findLast 7 = .ok (.putfield 121, 3) := by decide +kernel
theorem dX9_findLast_10 : decode cX9_findLast 10 = .ok (.iconst 0, 1) := by decide +kernel
theorem dX9_findLast_11 : decode cX9_findLast 11 = .ok (.istore_n 2, 1) := by decide +kernel
theorem dX9_findLast_12 : decode cX9_findLast 12 = .ok (.iload_n 2, 1) := by decide +kernel
theorem dX9_findLast_13 : decode cX9_findLast 13 = .ok (.aload_n 0, 1) := by decide +kernel
theorem dX9_findLast_14 : decode cX9_findLast 14 = .ok (.getfield 100, 3) := by decide +kernel
theorem dX9_findLast_17 : decode cX9_findLast 17 = .ok (.if_icmp .ge 32, 3) := by decide +kernel
theorem dX9_findLast_20 : decode cX9_findLast 20 = .ok (.aload_n 0, 1) := by decide +kernel
theorem dX9_findLast_21 : decode cX9_findLast 21 = .ok (.iload_n 2, 1) := by decide +kernel
theorem dX9_findLast_22 : decode cX9_findLast 22 = .ok (.iload_n 1, 1) := by decide +kernel
theorem dX9_findLast_23 : decode cX9_findLast 23 = .ok (.invokevirtual 124, 3) := by decide +kernel
theorem dX9_findLast_26 : decode cX9_findLast 26 = .ok (.ifCond .eq 17, 3) := by decide +kernel
theorem dX9_findLast_29 : decode cX9_findLast 29 = .ok (.aload_n 0, 1) := by decide +kernel
theorem dX9_findLast_30 : decode cX9_findLast 30 = .ok (.aload_n 0, 1) := by decide +kernel
theorem dX9_findLast_31 : decode cX9_findLast 31 = .ok (.iload_n 2, 1) := by decide +kernel
theorem dX9_findLast_32 : decode cX9_findLast 32 = .ok (.invokevirtual 127, 3) := by decide +kernel
theorem dX9_findLast_35 : decode cX9_findLast 35 = .ok (.aload_n 0, 1) := by decide +kernel
theorem dX9_findLast_36 : decode cX9_findLast 36 = .ok (.iload_n 2, 1) := by decide +kernel
theorem dX9_findLast_37 : decode cX9_findLast 37 = .ok (.invokevirtual 130, 3) := by decide +kernel
theorem dX9_findLast_40 : decode cX9_findLast 40 = .ok (.invokevirtual 133, 3) := by decide +kernel
theorem dX9_findLast_43 : decode cX9_findLast 43 = .ok (.iinc 2 1, 3) := by decide +kernel
theorem dX9_findLast_46 : decode cX9_findLast 46 = .ok (.goto (-34), 3) := by decide +kernel
theorem dX9_findLast_49 : decode cX9_findLast 49 = .ok (.iconst 0, 1) := by decide +kernel
theorem dX9_findLast_50 : decode cX9_findLast 50 = .ok (.istore_n 2, 1) := by decide +kernel
theorem dX9_findLast_51 : decode cX9_findLast 51 = .ok (.iload_n 2, 1) := by decide +kernel
theorem dX9_findLast_52 : decode cX9_findLast 52 = .ok (.aload_n 0, 1) := by decide +kernel
theorem dX9_findLast_53 : decode cX9_findLast 53 = .ok (.getfield 137, 3) := by decide +kernel
theorem dX9_findLast_56 : decode cX9_findLast 56 = .ok (.if_icmp .ge 44, 3) := by decide +kernel
theorem dX9_findLast_59 : decode cX9_findLast 59 = .ok (.aload_n 0, 1) := by decide +kernel
theorem dX9_findLast_60 : decode cX9_findLast 60 = .ok (.getfield 61, 3) := by decide +kernel
theorem dX9_findLast_63 : decode cX9_findLast 63 = .ok (.iload_n 2, 1) := by decide +kernel
theorem dX9_findLast_64 : decode cX9_findLast 64 = .ok (.iaload, 1) := by decide +kernel
theorem dX9_findLast_65 : decode cX9_findLast 65 = .ok (.iload_n 1, 1) := by decide +kernel
theorem dX9_findLast_66 : decode cX9_findLast 66 = .ok (.invokestatic 140, 3) := by decide +kernel
theorem dX9_findLast_69 : decode cX9_findLast 69 = .ok (.ifCond .eq 25, 3) := by decide +kernel
theorem dX9_findLast_72 : decode cX9_findLast 72 = .ok (.aload_n 0, 1) := by decide +kernel
theorem dX9_findLast_73 : decode cX9_findLast 73 = .ok (.aload_n 0, 1) := by decide +kernel
theorem dX9_findLast_74 : decode cX9_findLast 74 = .ok (.getfield 61, 3) := by decide +kernel
theorem dX9_findLast_77 : decode cX9_findLast 77 = .ok (.iload_n 2, 1) := by decide +kernel
theorem dX9_findLast_78 : decode cX9_findLast 78 = .ok (.iaload, 1) := by decide +kernel
theorem dX9_findLast_79 : decode cX9_findLast 79 = .ok (.invokestatic 143, 3) := by decide +kernel
theorem dX9_findLast_82 : decode cX9_findLast 82 = .ok (.aload_n 0, 1) := by decide +kernel
theorem dX9_findLast_83 : decode cX9_findLast 83 = .ok (.getfield 61, 3) := by decide +kernel
theorem dX9_findLast_86 : decode cX9_findLast 86 = .ok (.iload_n 2, 1) := by decide +kernel
theorem dX9_findLast_87 : decode cX9_findLast 87 = .ok (.iaload, 1) := by decide +kernel
theorem dX9_findLast_88 : decode cX9_findLast 88 = .ok (.invokestatic 146, 3) := by decide +kernel
theorem dX9_findLast_91 : decode cX9_findLast 91 = .ok (.invokevirtual 133, 3) := by decide +kernel
theorem dX9_findLast_94 : decode cX9_findLast 94 = .ok (.iinc 2 1, 3) := by decide +kernel
theorem dX9_findLast_97 : decode cX9_findLast 97 = .ok (.goto (-46), 3) := by decide +kernel
theorem dX9_findLast_100 : decode cX9_findLast 100 = .ok (.return_, 1) := by decide +kernel
theorem dX9_isNight_0 : decode cX9_isNight 0 = .ok (.iload_n 0, 1) := by decide +kernel
theorem dX9_isNight_1 : decode cX9_isNight 1 = .ok (.bipush 24, 2) := by decide +kernel
theorem dX9_isNight_3 : decode cX9_isNight 3 = .ok (.irem, 1) := by decide +kernel
theorem dX9_isNight_4 : decode cX9_isNight 4 = .ok (.bipush 6, 2) := by decide +kernel
theorem dX9_isNight_6 : decode cX9_isNight 6 = .ok (.if_icmp .ge 7, 3) := by decide +kernel
theorem dX9_isNight_9 : decode cX9_isNight 9 = .ok (.iconst 1, 1) := by decide +kernel
theorem dX9_isNight_10 : decode cX9_isNight 10 = .ok (.goto 4, 3) := by decide +kernel
theorem dX9_isNight_13 : decode cX9_isNight 13 = .ok (.iconst 0, 1) := by decide +kernel
theorem dX9_isNight_14 : decode cX9_isNight 14 = .ok (.ireturn, 1) := by decide +kernel
theorem dX9_isInNight_0 : decode cX9_isInNight 0 = .ok (.aload_n 0, 1) := by decide +kernel
theorem dX9_isInNight_1 : decode cX9_isInNight 1 = .ok (.getfield 37, 3) := by decide +kernel
theorem dX9_isInNight_4 : decode cX9_isInNight 4 = .ok (.iload_n 1, 1) := by decide +kernel
theorem dX9_isInNight_5 : decode cX9_isInNight 5 = .ok (.iaload, 1) := by decide +kernel
theorem dX9_isInNight_6 : decode cX9_isInNight 6 = .ok (.istore_n 2, 1) := by decide +kernel
theorem dX9_isInNight_7 : decode cX9_isInNight 7 = .ok (.iload_n 2, 1) := by decide +kernel
theorem dX9_isInNight_8 : decode cX9_isInNight 8 = .ok (.aload_n 0, 1) := by decide +kernel
theorem dX9_isInNight_9 : decode cX9_isInNight 9 = .ok (.iload_n 1, 1) := by decide +kernel
theorem dX9_isInNight_10 : decode cX9_isInNight 10 = .ok (.invokevirtual 127, 3) := by decide +kernel
theorem dX9_isInNight_13 : decode cX9_isInNight 13 = .ok (.if_icmp .ge 18, 3) := by decide +kernel
theorem dX9_isInNight_16 : decode cX9_isInNight 16 = .ok (.iload_n 2, 1) := by decide +kernel
theorem dX9_isInNight_17 : decode cX9_isInNight 17 = .ok (.invokestatic 149, 3) := by decide +kernel
theorem dX9_isInNight_20 : decode cX9_isInNight 20 = .ok (.ifCond .eq 5, 3) := by decide +kernel
theorem dX9_isInNight_23 : decode cX9_isInNight 23 = .ok (.iconst 1, 1) := by decide +kernel
theorem dX9_isInNight_24 : decode cX9_isInNight 24 = .ok (.ireturn, 1) := by decide +kernel
theorem dX9_isInNight_25 : decode cX9_isInNight 25 = .ok (.iinc 2 1, 3) := by decide +kernel
theorem dX9_isInNight_28 : decode cX9_isInNight 28 = .ok (.goto (-21), 3) := by decide +kernel
theorem dX9_isInNight_31 : decode cX9_isInNight 31 = .ok (.iconst 0, 1) := by decide +kernel
theorem dX9_isInNight_32 : decode cX9_isInNight 32 = .ok (.ireturn, 1) := by decide +kernel
theorem dX9_restedFrom_0 : decode cX9_restedFrom 0 = .ok (.iconst (-1), 1) := by decide +kernel
theorem dX9_restedFrom_1 : decode cX9_restedFrom 1 = .ok (.istore_n 2, 1) := by decide +kernel
theorem dX9_restedFrom_2 : decode cX9_restedFrom 2 = .ok (.iconst 0, 1) := by decide +kernel
theorem dX9_restedFrom_3 : decode cX9_restedFrom 3 = .ok (.istore_n 3, 1) := by decide +kernel
theorem dX9_restedFrom_4 : decode cX9_restedFrom 4 = .ok (.iload_n 3, 1) := by decide +kernel
theorem dX9_restedFrom_5 : decode cX9_restedFrom 5 = .ok (.aload_n 0, 1) := by decide +kernel
theorem dX9_restedFrom_6 : decode cX9_restedFrom 6 = .ok (.getfield 100, 3) := by decide +kernel
theorem dX9_restedFrom_9 : decode cX9_restedFrom 9 = .ok (.if_icmp .ge 39, 3) := by decide +kernel
theorem dX9_restedFrom_12 : decode cX9_restedFrom 12 = .ok (.aload_n 0, 1) := by decide +kernel
theorem dX9_restedFrom_13 : decode cX9_restedFrom 13 = .ok (.iload_n 3, 1) := by decide +kernel
