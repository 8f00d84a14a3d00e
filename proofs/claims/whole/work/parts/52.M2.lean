theorem kf_Mod_183 : Cond.fieldLink R_Mod 183 "PatternDeskModel" "members" "I" ∈ g_TB := g_mem (List.mem_append_right _ (List.mem_append_right _ (List.mem_append_right _ (List.mem_append_left _ (List.mem_of_getElem? (i := 217) (by decide +kernel)))))) rfl
theorem kf_Mod_53 : Cond.fieldLink R_Mod 53 "PatternDeskModel" "high" "[I" ∈ g_TB := g_mem (List.mem_append_right _ (List.mem_append_right _ (List.mem_append_right _ (List.mem_append_left _ (List.mem_of_getElem? (i := 219) (by decide +kernel)))))) rfl
theorem kf_Mod_50 : Cond.fieldLink R_Mod 50 "PatternDeskModel" "low" "[I" ∈ g_TB := g_mem (List.mem_append_right _ (List.mem_append_right _ (List.mem_append_right _ (List.mem_append_left _ (List.mem_of_getElem? (i := 218) (by decide +kernel)))))) rfl
theorem kc_Mod_186 : g_okV R_Mod 186 y_Mod_member c_Mod_member 1 (some .int) 0 := ⟨g_mem (List.mem_append_right _ (List.mem_append_right _ (List.mem_append_right _ (List.mem_append_right _ (List.mem_append_left _ (List.mem_of_getElem? (i := 207) rfl)))))) rfl, g_mem (List.mem_append_right _ (List.mem_append_left _ (List.mem_of_getElem? (i := 5) (by decide +kernel)))) rfl, g_mem (List.mem_append_right _ (List.mem_append_right _ (List.mem_append_right _ (List.mem_append_right _ (List.mem_append_left _ (List.mem_of_getElem? (i := 204) (by decide +kernel))))))) rfl, g_mem (List.mem_append_right _ (List.mem_append_right _ (List.mem_append_right _ (List.mem_append_right _ (List.mem_append_left _ (List.mem_of_getElem? (i := 206) (by decide +kernel))))))) rfl, g_mem (List.mem_append_left _ (List.mem_of_getElem? (i := 63) (by decide +kernel))) rfl, by decide +kernel, by decide +kernel, by decide +kernel⟩
theorem d_Mod_aClass_0 : decode c_Mod_aClass 0 = .ok (.aload_n 0, 1) := by decide +kernel
theorem d_Mod_aClass_1 : decode c_Mod_aClass 1 = .ok (.iconst 0, 1) := by decide +kernel
theorem d_Mod_aClass_2 : decode c_Mod_aClass 2 = .ok (.invokevirtual 158, 3) := by decide +kernel
theorem d_Mod_aClass_5 : decode c_Mod_aClass 5 = .ok (.bipush 94, 2) := by decide +kernel
theorem d_Mod_aClass_7 : decode c_Mod_aClass 7 = .ok (.if_icmp .ne 7, 3) := by decide +kernel
theorem d_Mod_aClass_10 : decode c_Mod_aClass 10 = .ok (.iconst 1, 1) := by decide +kernel
theorem d_Mod_aClass_11 : decode c_Mod_aClass 11 = .ok (.goto 4, 3) := by decide +kernel
theorem d_Mod_aClass_14 : decode c_Mod_aClass 14 = .ok (.iconst 0, 1) := by decide +kernel
theorem d_Mod_aClass_15 : decode c_Mod_aClass 15 = .ok (.istore_n 1, 1) := by decide +kernel
theorem d_Mod_aClass_16 : decode c_Mod_aClass 16 = .ok (.iload_n 1, 1) := by decide +kernel
theorem d_Mod_aClass_17 : decode c_Mod_aClass 17 = .ok (.ifCond .eq 13, 3) := by decide +kernel
theorem d_Mod_aClass_20 : decode c_Mod_aClass 20 = .ok (.aload_n 0, 1) := by decide +kernel
theorem d_Mod_aClass_21 : decode c_Mod_aClass 21 = .ok (.dup, 1) := by decide +kernel
theorem d_Mod_aClass_22 : decode c_Mod_aClass 22 = .ok (.getfield 129, 3) := by decide +kernel
theorem d_Mod_aClass_25 : decode c_Mod_aClass 25 = .ok (.iconst 1, 1) := by decide +kernel
theorem d_Mod_aClass_26 : decode c_Mod_aClass 26 = .ok (.iadd, 1) := by decide +kernel
theorem d_Mod_aClass_27 : decode c_Mod_aClass 27 = .ok (.putfield 129, 3) := by decide +kernel
theorem d_Mod_aClass_30 : decode c_Mod_aClass 30 = .ok (.aload_n 0, 1) := by decide +kernel
theorem d_Mod_aClass_31 : decode c_Mod_aClass 31 = .ok (.bipush 6, 2) := by decide +kernel
theorem d_Mod_aClass_33 : decode c_Mod_aClass 33 = .ok (.aload_n 0, 1) := by decide +kernel
theorem d_Mod_aClass_34 : decode c_Mod_aClass 34 = .ok (.getfield 183, 3) := by decide +kernel
theorem d_Mod_aClass_37 : decode c_Mod_aClass 37 = .ok (.iconst 0, 1) := by decide +kernel
theorem d_Mod_aClass_38 : decode c_Mod_aClass 38 = .ok (.iload_n 1, 1) := by decide +kernel
theorem d_Mod_aClass_39 : decode c_Mod_aClass 39 = .ok (.ifCond .eq 7, 3) := by decide +kernel
theorem d_Mod_aClass_42 : decode c_Mod_aClass 42 = .ok (.iconst 1, 1) := by decide +kernel
theorem d_Mod_aClass_43 : decode c_Mod_aClass 43 = .ok (.goto 4, 3) := by decide +kernel
theorem d_Mod_aClass_46 : decode c_Mod_aClass 46 = .ok (.iconst 0, 1) := by decide +kernel
theorem d_Mod_aClass_47 : decode c_Mod_aClass 47 = .ok (.invokevirtual 147, 3) := by decide +kernel
theorem d_Mod_aClass_50 : decode c_Mod_aClass 50 = .ok (.istore_n 2, 1) := by decide +kernel
theorem d_Mod_aClass_51 : decode c_Mod_aClass 51 = .ok (.aload_n 0, 1) := by decide +kernel
theorem d_Mod_aClass_52 : decode c_Mod_aClass 52 = .ok (.iconst 0, 1) := by decide +kernel
theorem d_Mod_aClass_53 : decode c_Mod_aClass 53 = .ok (.invokevirtual 158, 3) := by decide +kernel
theorem d_Mod_aClass_56 : decode c_Mod_aClass 56 = .ok (.bipush 93, 2) := by decide +kernel
theorem d_Mod_aClass_58 : decode c_Mod_aClass 58 = .ok (.if_icmp .eq 204, 3) := by decide +kernel
theorem d_Mod_aClass_61 : decode c_Mod_aClass 61 = .ok (.aload_n 0, 1) := by decide +kernel
theorem d_Mod_aClass_62 : decode c_Mod_aClass 62 = .ok (.getfield 135, 3) := by decide +kernel
theorem d_Mod_aClass_65 : decode c_Mod_aClass 65 = .ok (.ifCond .ge 197, 3) := by decide +kernel
theorem d_Mod_aClass_68 : decode c_Mod_aClass 68 = .ok (.aload_n 0, 1) := by decide +kernel
theorem d_Mod_aClass_69 : decode c_Mod_aClass 69 = .ok (.invokevirtual 186, 3) := by decide +kernel
theorem d_Mod_aClass_72 : decode c_Mod_aClass 72 = .ok (.istore_n 3, 1) := by decide +kernel
theorem d_Mod_aClass_73 : decode c_Mod_aClass 73 = .ok (.aload_n 0, 1) := by decide +kernel
theorem d_Mod_aClass_74 : decode c_Mod_aClass 74 = .ok (.getfield 50, 3) := by decide +kernel
theorem d_Mod_aClass_77 : decode c_Mod_aClass 77 = .ok (.aload_n 0, 1) := by decide +kernel
theorem d_Mod_aClass_78 : decode c_Mod_aClass 78 = .ok (.getfield 183, 3) := by decide +kernel
theorem d_Mod_aClass_81 : decode c_Mod_aClass 81 = .ok (.aload_n 0, 1) := by decide +kernel
theorem d_Mod_aClass_82 : decode c_Mod_aClass 82 = .ok (.getfield 169, 3) := by decide +kernel
theorem d_Mod_aClass_85 : decode c_Mod_aClass 85 = .ok (.iastore, 1) := by decide +kernel
theorem d_Mod_aClass_86 : decode c_Mod_aClass 86 = .ok (.aload_n 0, 1) := by decide +kernel
theorem d_Mod_aClass_87 : decode c_Mod_aClass 87 = .ok (.getfield 53, 3) := by decide +kernel
theorem d_Mod_aClass_90 : decode c_Mod_aClass 90 = .ok (.aload_n 0, 1) := by decide +kernel
theorem d_Mod_aClass_91 : decode c_Mod_aClass 91 = .ok (.getfield 183, 3) := by decide +kernel
theorem d_Mod_aClass_94 : decode c_Mod_aClass 94 = .ok (.iload_n 3, 1) := by decide +kernel
theorem d_Mod_aClass_95 : decode c_Mod_aClass 95 = .ok (.iconst 1, 1) := by decide +kernel
theorem d_Mod_aClass_96 : decode c_Mod_aClass 96 = .ok (.if_icmp .ne 7, 3) := by decide +kernel
theorem d_Mod_aClass_99 : decode c_Mod_aClass 99 = .ok (.iconst (-1), 1) := by decide +kernel
theorem d_Mod_aClass_100 : decode c_Mod_aClass 100 = .ok (.goto 7, 3) := by decide +kernel
theorem d_Mod_aClass_103 : decode c_Mod_aClass 103 = .ok (.aload_n 0, 1) := by decide +kernel
theorem d_Mod_aClass_104 : decode c_Mod_aClass 104 = .ok (.getfield 169, 3) := by decide +kernel
theorem d_Mod_aClass_107 : decode c_Mod_aClass 107 = .ok (.iastore, 1) := by decide +kernel
theorem d_Mod_aClass_108 : decode c_Mod_aClass 108 = .ok (.aload_n 0, 1) := by decide +kernel
theorem d_Mod_aClass_109 : decode c_Mod_aClass 109 = .ok (.iconst 0, 1) := by decide +kernel
theorem d_Mod_aClass_110 : decode c_Mod_aClass 110 = .ok (.invokevirtual 158, 3) := by decide +kernel
theorem d_Mod_aClass_113 : decode c_Mod_aClass 113 = .ok (.bipush 45, 2) := by decide +kernel
theorem d_Mod_aClass_115 : decode c_Mod_aClass 115 = .ok (.if_icmp .ne 17, 3) := by decide +kernel
theorem d_Mod_aClass_118 : decode c_Mod_aClass 118 = .ok (.aload_n 0, 1) := by decide +kernel
theorem d_Mod_aClass_119 : decode c_Mod_aClass 119 = .ok (.iconst 1, 1) := by decide +kernel
theorem d_Mod_aClass_120 : decode c_Mod_aClass 120 = .ok (.invokevirtual 158, 3) := by decide +kernel
theorem d_Mod_aClass_123 : decode c_Mod_aClass 123 = .ok (.bipush 93, 2) := by decide +kernel
theorem d_Mod_aClass_125 : decode c_Mod_aClass 125 = .ok (.if_icmp .eq 7, 3) := by decide +kernel
theorem d_Mod_aClass_128 : decode c_Mod_aClass 128 = .ok (.iconst 1, 1) := by decide +kernel
theorem d_Mod_aClass_129 : decode c_Mod_aClass 129 = .ok (.goto 4, 3) := by decide +kernel
theorem d_Mod_aClass_132 : decode c_Mod_aClass 132 = .ok (.iconst 0, 1) := by decide +kernel
theorem d_Mod_aClass_133 : decode c_Mod_aClass 133 = .ok (.istore 4, 2) := by decide +kernel
theorem d_Mod_aClass_135 : decode c_Mod_aClass 135 = .ok (.iload 4, 2) := by decide +kernel
theorem d_Mod_aClass_137 : decode c_Mod_aClass 137 = .ok (.ifCond .eq 19, 3) := by decide +kernel
theorem d_Mod_aClass_140 : decode c_Mod_aClass 140 = .ok (.aload_n 0, 1) := by decide +kernel
theorem d_Mod_aClass_141 : decode c_Mod_aClass 141 = .ok (.iconst 1, 1) := by decide +kernel
theorem d_Mod_aClass_142 : decode c_Mod_aClass 142 = .ok (.invokevirtual 158, 3) := by decide +kernel
theorem d_Mod_aClass_145 : decode c_Mod_aClass 145 = .ok (.ifCond .ge 11, 3) := by decide +kernel
theorem d_Mod_aClass_148 : decode c_Mod_aClass 148 = .ok (.aload_n 0, 1) := by decide +kernel
theorem d_Mod_aClass_149 : decode c_Mod_aClass 149 = .ok (.aload_n 0, 1) := by decide +kernel
theorem d_Mod_aClass_150 : decode c_Mod_aClass 150 = .ok (.getfield 132, 3) := by decide +kernel
theorem d_Mod_aClass_153 : decode c_Mod_aClass 153 = .ok (.invokevirtual 165, 3) := by decide +kernel
theorem d_Mod_aClass_156 : decode c_Mod_aClass 156 = .ok (.iload 4, 2) := by decide +kernel
theorem d_Mod_aClass_158 : decode c_Mod_aClass 158 = .ok (.ifCond .eq 16, 3) := by decide +kernel
theorem d_Mod_aClass_161 : decode c_Mod_aClass 161 = .ok (.iload_n 3, 1) := by decide +kernel
theorem d_Mod_aClass_162 : decode c_Mod_aClass 162 = .ok (.iconst 1, 1) := by decide +kernel
theorem d_Mod_aClass_163 : decode c_Mod_aClass 163 = .ok (.if_icmp .ne 11, 3) := by decide +kernel
theorem d_Mod_aClass_166 : decode c_Mod_aClass 166 = .ok (.aload_n 0, 1) := by decide +kernel
theorem d_Mod_aClass_167 : decode c_Mod_aClass 167 = .ok (.aload_n 0, 1) := by decide +kernel
theorem d_Mod_aClass_168 : decode c_Mod_aClass 168 = .ok (.getfield 129, 3) := by decide +kernel
theorem d_Mod_aClass_171 : decode c_Mod_aClass 171 = .ok (.invokevirtual 165, 3) := by decide +kernel
theorem d_Mod_aClass_174 : decode c_Mod_aClass 174 = .ok (.iload 4, 2) := by decide +kernel
theorem d_Mod_aClass_176 : decode c_Mod_aClass 176 = .ok (.ifCond .eq 73, 3) := by decide +kernel
theorem d_Mod_aClass_179 : decode c_Mod_aClass 179 = .ok (.aload_n 0, 1) := by decide +kernel
theorem d_Mod_aClass_180 : decode c_Mod_aClass 180 = .ok (.getfield 135, 3) := by decide +kernel
theorem d_Mod_aClass_183 : decode c_Mod_aClass 183 = .ok (.ifCond .ge 66, 3) := by decide +kernel
theorem d_Mod_aClass_186 : decode c_Mod_aClass 186 = .ok (.aload_n 0, 1) := by decide +kernel
theorem d_Mod_aClass_187 : decode c_Mod_aClass 187 = .ok (.dup, 1) := by decide +kernel
theorem d_Mod_aClass_188 : decode c_Mod_aClass 188 = .ok (.getfield 129, 3) := by decide +kernel
theorem d_Mod_aClass_191 : decode c_Mod_aClass 191 = .ok (.iconst 1, 1) := by decide +kernel
theorem d_Mod_aClass_192 : decode c_Mod_aClass 192 = .ok (.iadd, 1) := by decide +kernel
theorem d_Mod_aClass_193 : decode c_Mod_aClass 193 = .ok (.putfield 129, 3) := by decide +kernel
theorem d_Mod_aClass_196 : decode c_Mod_aClass 196 = .ok (.aload_n 0, 1) := by decide +kernel
theorem d_Mod_aClass_197 : decode c_Mod_aClass 197 = .ok (.getfield 129, 3) := by decide +kernel
theorem d_Mod_aClass_200 : decode c_Mod_aClass 200 = .ok (.istore 5, 2) := by decide +kernel
theorem d_Mod_aClass_202 : decode c_Mod_aClass 202 = .ok (.aload_n 0, 1) := by decide +kernel
theorem d_Mod_aClass_203 : decode c_Mod_aClass 203 = .ok (.invokevirtual 186, 3) := by decide +kernel
theorem d_Mod_aClass_206 : decode c_Mod_aClass 206 = .ok (.istore 6, 2) := by decide +kernel
theorem d_Mod_aClass_208 : decode c_Mod_aClass 208 = .ok (.iload 6, 2) := by decide +kernel
theorem d_Mod_aClass_210 : decode c_Mod_aClass 210 = .ok (.iconst 1, 1) := by decide +kernel
theorem d_Mod_aClass_211 : decode c_Mod_aClass 211 = .ok (.if_icmp .eq 19, 3) := by decide +kernel
theorem d_Mod_aClass_214 : decode c_Mod_aClass 214 = .ok (.aload_n 0, 1) := by decide +kernel
theorem d_Mod_aClass_215 : decode c_Mod_aClass 215 = .ok (.getfield 169, 3) := by decide +kernel
theorem d_Mod_aClass_218 : decode c_Mod_aClass 218 = .ok (.aload_n 0, 1) := by decide +kernel
theorem d_Mod_aClass_219 : decode c_Mod_aClass 219 = .ok (.getfield 50, 3) := by decide +kernel
theorem d_Mod_aClass_222 : decode c_Mod_aClass 222 = .ok (.aload_n 0, 1) := by decide +kernel
theorem d_Mod_aClass_223 : decode c_Mod_aClass 223 = .ok (.getfield 183, 3) := by decide +kernel
theorem d_Mod_aClass_226 : decode c_Mod_aClass 226 = .ok (.iaload, 1) := by decide +kernel
theorem d_Mod_aClass_227 : decode c_Mod_aClass 227 = .ok (.if_icmp .ge 9, 3) := by decide +kernel
theorem d_Mod_aClass_230 : decode c_Mod_aClass 230 = .ok (.aload_n 0, 1) := by decide +kernel
theorem d_Mod_aClass_231 : decode c_Mod_aClass 231 = .ok (.iload 5, 2) := by decide +kernel
theorem d_Mod_aClass_233 : decode c_Mod_aClass 233 = .ok (.invokevirtual 165, 3) := by decide +kernel
theorem d_Mod_aClass_236 : decode c_Mod_aClass 236 = .ok (.aload_n 0, 1) := by decide +kernel
theorem d_Mod_aClass_237 : decode c_Mod_aClass 237 = .ok (.getfield 53, 3) := by decide +kernel
theorem d_Mod_aClass_240 : decode c_Mod_aClass 240 = .ok (.aload_n 0, 1) := by decide +kernel
theorem d_Mod_aClass_241 : decode c_Mod_aClass 241 = .ok (.getfield 183, 3) := by decide +kernel
theorem d_Mod_aClass_244 : decode c_Mod_aClass 244 = .ok (.aload_n 0, 1) := by decide +kernel
theorem d_Mod_aClass_245 : decode c_Mod_aClass 245 = .ok (.getfield 169, 3) := by decide +kernel
theorem d_Mod_aClass_248 : decode c_Mod_aClass 248 = .ok (.iastore, 1) := by decide +kernel
theorem d_Mod_aClass_249 : decode c_Mod_aClass 249 = .ok (.aload_n 0, 1) := by decide +kernel
theorem d_Mod_aClass_250 : decode c_Mod_aClass 250 = .ok (.dup, 1) := by decide +kernel
theorem d_Mod_aClass_251 : decode c_Mod_aClass 251 = .ok (.getfield 183, 3) := by decide +kernel
theorem d_Mod_aClass_254 : decode c_Mod_aClass 254 = .ok (.iconst 1, 1) := by decide +kernel
theorem d_Mod_aClass_255 : decode c_Mod_aClass 255 = .ok (.iadd, 1) := by decide +kernel
theorem d_Mod_aClass_256 : decode c_Mod_aClass 256 = .ok (.putfield 183, 3) := by decide +kernel
theorem d_Mod_aClass_259 : decode c_Mod_aClass 259 = .ok (.goto (-208), 3) := by decide +kernel
theorem d_Mod_aClass_262 : decode c_Mod_aClass 262 = .ok (.aload_n 0, 1) := by decide +kernel
theorem d_Mod_aClass_263 : decode c_Mod_aClass 263 = .ok (.dup, 1) := by decide +kernel
theorem d_Mod_aClass_264 : decode c_Mod_aClass 264 = .ok (.getfield 129, 3) := by decide +kernel
theorem d_Mod_aClass_267 : decode c_Mod_aClass 267 = .ok (.iconst 1, 1) := by decide +kernel
theorem d_Mod_aClass_268 : decode c_Mod_aClass 268 = .ok (.iadd, 1) := by decide +kernel
theorem d_Mod_aClass_269 : decode c_Mod_aClass 269 = .ok (.putfield 129, 3) := by decide +kernel
theorem d_Mod_aClass_272 : decode c_Mod_aClass 272 = .ok (.aload_n 0, 1) := by decide +kernel
theorem d_Mod_aClass_273 : decode c_Mod_aClass 273 = .ok (.getfield 29, 3) := by decide +kernel
theorem d_Mod_aClass_276 : decode c_Mod_aClass 276 = .ok (.iload_n 2, 1) := by decide +kernel
theorem d_Mod_aClass_277 : decode c_Mod_aClass 277 = .ok (.aload_n 0, 1) := by decide +kernel
theorem d_Mod_aClass_278 : decode c_Mod_aClass 278 = .ok (.getfield 183, 3) := by decide +kernel
theorem d_Mod_aClass_281 : decode c_Mod_aClass 281 = .ok (.iastore, 1) := by decide +kernel
theorem d_Mod_aClass_282 : decode c_Mod_aClass 282 = .ok (.iload_n 2, 1) := by decide +kernel
theorem d_Mod_aClass_283 : decode c_Mod_aClass 283 = .ok (.ireturn, 1) := by decide +kernel
theorem d_Mod_isAbove_0 : decode c_Mod_isAbove 0 = .ok (.iload_n 1, 1) := by decide +kernel
theorem d_Mod_isAbove_1 : decode c_Mod_isAbove 1 = .ok (.istore 5, 2) := by decide +kernel
theorem d_Mod_isAbove_3 : decode c_Mod_isAbove 3 = .ok (.iload_n 3, 1) := by decide +kernel
theorem d_Mod_isAbove_4 : decode c_Mod_isAbove 4 = .ok (.istore 6, 2) := by decide +kernel
theorem d_Mod_isAbove_6 : decode c_Mod_isAbove 6 = .ok (.iload 5, 2) := by decide +kernel
theorem d_Mod_isAbove_8 : decode c_Mod_isAbove 8 = .ok (.iload_n 2, 1) := by decide +kernel
theorem d_Mod_isAbove_9 : decode c_Mod_isAbove 9 = .ok (.iconst 1, 1) := by decide +kernel
theorem d_Mod_isAbove_10 : decode c_Mod_isAbove 10 = .ok (.isub, 1) := by decide +kernel
theorem d_Mod_isAbove_11 : decode c_Mod_isAbove 11 = .ok (.if_icmp .ge 21, 3) := by decide +kernel
theorem d_Mod_isAbove_14 : decode c_Mod_isAbove 14 = .ok (.aload_n 0, 1) := by decide +kernel
theorem d_Mod_isAbove_15 : decode c_Mod_isAbove 15 = .ok (.getfield 13, 3) := by decide +kernel
theorem d_Mod_isAbove_18 : decode c_Mod_isAbove 18 = .ok (.iload 5, 2) := by decide +kernel
theorem d_Mod_isAbove_20 : decode c_Mod_isAbove 20 = .ok (.iaload, 1) := by decide +kernel
theorem d_Mod_isAbove_21 : decode c_Mod_isAbove 21 = .ok (.bipush 48, 2) := by decide +kernel
theorem d_Mod_isAbove_23 : decode c_Mod_isAbove 23 = .ok (.if_icmp .ne 9, 3) := by decide +kernel
theorem d_Mod_isAbove_26 : decode c_Mod_isAbove 26 = .ok (.iinc 5 1, 3) := by decide +kernel
theorem d_Mod_isAbove_29 : decode c_Mod_isAbove 29 = .ok (.goto (-23), 3) := by decide +kernel
theorem d_Mod_isAbove_32 : decode c_Mod_isAbove 32 = .ok (.iload 6, 2) := by decide +kernel
theorem d_Mod_isAbove_34 : decode c_Mod_isAbove 34 = .ok (.iload 4, 2) := by decide +kernel
theorem d_Mod_isAbove_36 : decode c_Mod_isAbove 36 = .ok (.iconst 1, 1) := by decide +kernel
theorem d_Mod_isAbove_37 : decode c_Mod_isAbove 37 = .ok (.isub, 1) := by decide +kernel
theorem d_Mod_isAbove_38 : decode c_Mod_isAbove 38 = .ok (.if_icmp .ge 21, 3) := by decide +kernel
theorem d_Mod_isAbove_41 : decode c_Mod_isAbove 41 = .ok (.aload_n 0, 1) := by decide +kernel
theorem d_Mod_isAbove_42 : decode c_Mod_isAbove 42 = .ok (.getfield 13, 3) := by decide +kernel
theorem d_Mod_isAbove_45 : decode c_Mod_isAbove 45 = .ok (.iload 6, 2) := by decide +kernel
theorem d_Mod_isAbove_47 : decode c_Mod_isAbove 47 = .ok (.iaload, 1) := by decide +kernel
theorem d_Mod_isAbove_48 : decode c_Mod_isAbove 48 = .ok (.bipush 48, 2) := by decide +kernel
theorem d_Mod_isAbove_50 : decode c_Mod_isAbove 50 = .ok (.if_icmp .ne 9, 3) := by decide +kernel
theorem d_Mod_isAbove_53 : decode c_Mod_isAbove 53 = .ok (.iinc 6 1, 3) := by decide +kernel
theorem d_Mod_isAbove_56 : decode c_Mod_isAbove 56 = .ok (.goto (-24), 3) := by decide +kernel
theorem d_Mod_isAbove_59 : decode c_Mod_isAbove 59 = .ok (.iload_n 2, 1) := by decide +kernel
theorem d_Mod_isAbove_60 : decode c_Mod_isAbove 60 = .ok (.iload 5, 2) := by decide +kernel
theorem d_Mod_isAbove_62 : decode c_Mod_isAbove 62 = .ok (.isub, 1) := by decide +kernel
theorem d_Mod_isAbove_63 : decode c_Mod_isAbove 63 = .ok (.iload 4, 2) := by decide +kernel
theorem d_Mod_isAbove_65 : decode c_Mod_isAbove 65 = .ok (.iload 6, 2) := by decide +kernel
theorem d_Mod_isAbove_67 : decode c_Mod_isAbove 67 = .ok (.isub, 1) := by decide +kernel
theorem d_Mod_isAbove_68 : decode c_Mod_isAbove 68 = .ok (.if_icmp .eq 21, 3) := by decide +kernel
theorem d_Mod_isAbove_71 : decode c_Mod_isAbove 71 = .ok (.iload_n 2, 1) := by decide +kernel
theorem d_Mod_isAbove_72 : decode c_Mod_isAbove 72 = .ok (.iload 5, 2) := by decide +kernel
theorem d_Mod_isAbove_74 : decode c_Mod_isAbove 74 = .ok (.isub, 1) := by decide +kernel
theorem d_Mod_isAbove_75 : decode c_Mod_isAbove 75 = .ok (.iload 4, 2) := by decide +kernel
theorem d_Mod_isAbove_77 : decode c_Mod_isAbove 77 = .ok (.iload 6, 2) := by decide +kernel
theorem d_Mod_isAbove_79 : decode c_Mod_isAbove 79 = .ok (.isub, 1) := by decide +kernel
theorem d_Mod_isAbove_80 : decode c_Mod_isAbove 80 = .ok (.if_icmp .le 7, 3) := by decide +kernel
theorem d_Mod_isAbove_83 : decode c_Mod_isAbove 83 = .ok (.iconst 1, 1) := by decide +kernel
theorem d_Mod_isAbove_84 : decode c_Mod_isAbove 84 = .ok (.goto 4, 3) := by decide +kernel
theorem d_Mod_isAbove_87 : decode c_Mod_isAbove 87 = .ok (.iconst 0, 1) := by decide +kernel
theorem d_Mod_isAbove_88 : decode c_Mod_isAbove 88 = .ok (.ireturn, 1) := by decide +kernel
theorem d_Mod_isAbove_89 : decode c_Mod_isAbove 89 = .ok (.iload 5, 2) := by decide +kernel
theorem d_Mod_isAbove_91 : decode c_Mod_isAbove 91 = .ok (.iload_n 2, 1) := by decide +kernel
theorem d_Mod_isAbove_92 : decode c_Mod_isAbove 92 = .ok (.iconst 1, 1) := by decide +kernel
theorem d_Mod_isAbove_93 : decode c_Mod_isAbove 93 = .ok (.isub, 1) := by decide +kernel
theorem d_Mod_isAbove_94 : decode c_Mod_isAbove 94 = .ok (.if_icmp .ge 29, 3) := by decide +kernel
theorem d_Mod_isAbove_97 : decode c_Mod_isAbove 97 = .ok (.aload_n 0, 1) := by decide +kernel
theorem d_Mod_isAbove_98 : decode c_Mod_isAbove 98 = .ok (.getfield 13, 3) := by decide +kernel
theorem d_Mod_isAbove_101 : decode c_Mod_isAbove 101 = .ok (.iload 5, 2) := by decide +kernel
theorem d_Mod_isAbove_103 : decode c_Mod_isAbove 103 = .ok (.iaload, 1) := by decide +kernel
theorem d_Mod_isAbove_104 : decode c_Mod_isAbove 104 = .ok (.aload_n 0, 1) := by decide +kernel
theorem d_Mod_isAbove_105 : decode c_Mod_isAbove 105 = .ok (.getfield 13, 3) := by decide +kernel
theorem d_Mod_isAbove_108 : decode c_Mod_isAbove 108 = .ok (.iload 6, 2) := by decide +kernel
theorem d_Mod_isAbove_110 : decode c_Mod_isAbove 110 = .ok (.iaload, 1) := by decide +kernel
theorem d_Mod_isAbove_111 : decode c_Mod_isAbove 111 = .ok (.if_icmp .ne 12, 3) := by decide +kernel
theorem d_Mod_isAbove_114 : decode c_Mod_isAbove 114 = .ok (.iinc 5 1, 3) := by decide +kernel
theorem d_Mod_isAbove_117 : decode c_Mod_isAbove 117 = .ok (.iinc 6 1, 3) := by decide +kernel
theorem d_Mod_isAbove_120 : decode c_Mod_isAbove 120 = .ok (.goto (-31), 3) := by decide +kernel
theorem d_Mod_isAbove_123 : decode c_Mod_isAbove 123 = .ok (.aload_n 0, 1) := by decide +kernel
theorem d_Mod_isAbove_124 : decode c_Mod_isAbove 124 = .ok (.getfield 13, 3) := by decide +kernel
theorem d_Mod_isAbove_127 : decode c_Mod_isAbove 127 = .ok (.iload 5, 2) := by decide +kernel
theorem d_Mod_isAbove_129 : decode c_Mod_isAbove 129 = .ok (.iaload, 1) := by decide +kernel
theorem d_Mod_isAbove_130 : decode c_Mod_isAbove 130 = .ok (.aload_n 0, 1) := by decide +kernel
theorem d_Mod_isAbove_131 : decode c_Mod_isAbove 131 = .ok (.getfield 13, 3) := by decide +kernel
theorem d_Mod_isAbove_134 : decode c_Mod_isAbove 134 = .ok (.iload 6, 2) := by decide +kernel
theorem d_Mod_isAbove_136 : decode c_Mod_isAbove 136 = .ok (.iaload, 1) := by decide +kernel
theorem d_Mod_isAbove_137 : decode c_Mod_isAbove 137 = .ok (.if_icmp .le 7, 3) := by decide +kernel
theorem d_Mod_isAbove_140 : decode c_Mod_isAbove 140 = .ok (.iconst 1, 1) := by decide +kernel
theorem d_Mod_isAbove_141 : decode c_Mod_isAbove 141 = .ok (.goto 4, 3) := by decide +kernel
theorem d_Mod_isAbove_144 : decode c_Mod_isAbove 144 = .ok (.iconst 0, 1) := by decide +kernel
theorem d_Mod_isAbove_145 : decode c_Mod_isAbove 145 = .ok (.ireturn, 1) := by decide +kernel
theorem d_Mod_number_0 : decode c_Mod_number 0 = .ok (.iconst 0, 1) := by decide +kernel
theorem d_Mod_number_1 : decode c_Mod_number 1 = .ok (.istore_n 1, 1) := by decide +kernel
theorem d_Mod_number_2 : decode c_Mod_number 2 = .ok (.aload_n 0, 1) := by decide +kernel
theorem d_Mod_number_3 : decode c_Mod_number 3 = .ok (.iconst 0, 1) := by decide +kernel
theorem d_Mod_number_4 : decode c_Mod_number 4 = .ok (.invokevirtual 158, 3) := by decide +kernel
theorem d_Mod_number_7 : decode c_Mod_number 7 = .ok (.invokestatic 116, 3) := by decide +kernel
theorem d_Mod_number_10 : decode c_Mod_number 10 = .ok (.ifCond .ne 29, 3) := by decide +kernel
theorem d_Mod_number_13 : decode c_Mod_number 13 = .ok (.aload_n 0, 1) := by decide +kernel
theorem d_Mod_number_14 : decode c_Mod_number 14 = .ok (.aload_n 0, 1) := by decide +kernel
theorem d_Mod_number_15 : decode c_Mod_number 15 = .ok (.getfield 129, 3) := by decide +kernel
theorem d_Mod_number_18 : decode c_Mod_number 18 = .ok (.aload_n 0, 1) := by decide +kernel
theorem d_Mod_number_19 : decode c_Mod_number 19 = .ok (.getfield 132, 3) := by decide +kernel
theorem d_Mod_number_22 : decode c_Mod_number 22 = .ok (.if_icmp .ge 10, 3) := by decide +kernel
theorem d_Mod_number_25 : decode c_Mod_number 25 = .ok (.aload_n 0, 1) := by decide +kernel
theorem d_Mod_number_26 : decode c_Mod_number 26 = .ok (.getfield 129, 3) := by decide +kernel
theorem d_Mod_number_29 : decode c_Mod_number 29 = .ok (.goto 7, 3) := by decide +kernel
theorem d_Mod_number_32 : decode c_Mod_number 32 = .ok (.aload_n 0, 1) := by decide +kernel
theorem d_Mod_number_33 : decode c_Mod_number 33 = .ok (.getfield 132, 3) := by decide +kernel
theorem d_Mod_number_36 : decode c_Mod_number 36 = .ok (.invokevirtual 165, 3) := by decide +kernel
theorem d_Mod_number_39 : decode c_Mod_number 39 = .ok (.aload_n 0, 1) := by decide +kernel
theorem d_Mod_number_40 : decode c_Mod_number 40 = .ok (.iconst 0, 1) := by decide +kernel
theorem d_Mod_number_41 : decode c_Mod_number 41 = .ok (.invokevirtual 158, 3) := by decide +kernel
theorem d_Mod_number_44 : decode c_Mod_number 44 = .ok (.invokestatic 116, 3) := by decide +kernel
theorem d_Mod_number_47 : decode c_Mod_number 47 = .ok (.ifCond .eq 41, 3) := by decide +kernel
theorem d_Mod_number_50 : decode c_Mod_number 50 = .ok (.iload_n 1, 1) := by decide +kernel
theorem d_Mod_number_51 : decode c_Mod_number 51 = .ok (.sipush 10000, 3) := by decide +kernel
theorem d_Mod_number_54 : decode c_Mod_number 54 = .ok (.if_icmp .le 7, 3) := by decide +kernel
theorem d_Mod_number_57 : decode c_Mod_number 57 = .ok (.iload_n 1, 1) := by decide +kernel
theorem d_Mod_number_58 : decode c_Mod_number 58 = .ok (.goto 16, 3) := by decide +kernel
theorem d_Mod_number_61 : decode c_Mod_number 61 = .ok (.bipush 10, 2) := by decide +kernel
theorem d_Mod_number_63 : decode c_Mod_number 63 = .ok (.iload_n 1, 1) := by decide +kernel
theorem d_Mod_number_64 : decode c_Mod_number 64 = .ok (.imul, 1) := by decide +kernel
theorem d_Mod_number_65 : decode c_Mod_number 65 = .ok (.aload_n 0, 1) := by decide +kernel
theorem d_Mod_number_66 : decode c_Mod_number 66 = .ok (.iconst 0, 1) := by decide +kernel
theorem d_Mod_number_67 : decode c_Mod_number 67 = .ok (.invokevirtual 158, 3) := by decide +kernel
theorem d_Mod_number_70 : decode c_Mod_number 70 = .ok (.iadd, 1) := by decide +kernel
theorem d_Mod_number_71 : decode c_Mod_number 71 = .ok (.bipush 48, 2) := by decide +kernel
theorem d_Mod_number_73 : decode c_Mod_number 73 = .ok (.isub, 1) := by decide +kernel
theorem d_Mod_number_74 : decode c_Mod_number 74 = .ok (.istore_n 1, 1) := by decide +kernel
theorem d_Mod_number_75 : decode c_Mod_number 75 = .ok (.aload_n 0, 1) := by decide +kernel
theorem d_Mod_number_76 : decode c_Mod_number 76 = .ok (.dup, 1) := by decide +kernel
theorem d_Mod_number_77 : decode c_Mod_number 77 = .ok (.getfield 129, 3) := by decide +kernel
theorem d_Mod_number_80 : decode c_Mod_number 80 = .ok (.iconst 1, 1) := by decide +kernel
theorem d_Mod_number_81 : decode c_Mod_number 81 = .ok (.iadd, 1) := by decide +kernel
theorem d_Mod_number_82 : decode c_Mod_number 82 = .ok (.putfield 129, 3) := by decide +kernel
theorem d_Mod_number_85 : decode c_Mod_number 85 = .ok (.goto (-46), 3) := by decide +kernel
theorem d_Mod_number_88 : decode c_Mod_number 88 = .ok (.iload_n 1, 1) := by decide +kernel
theorem d_Mod_number_89 : decode c_Mod_number 89 = .ok (.ireturn, 1) := by decide +kernel
def Mod_aClass_b262 (N : Nat) (x2 : Int32) (σ : g_S) : Option (Int32 × g_S) := if gIn x2 1300 = true then some (x2, (gA (gF σ 11 ((σ.1 11) + 1)) 5 (x2).toNatClampNeg (σ.1 10))) else none
theorem Mod_aClass_p262 (ao aa : Nat → Nat) {X : g_X} (hC : gC X c_Mod_aClass R_Mod 6 130 7 (some .int)) (N : Nat) (x2 : Int32) (σ : g_S) (r : Int32) (σe : g_S) (hf : Mod_aClass_b262 N x2 σ = some (r, σe)) : gw X (.inl (some (.int r))) (LM ao aa X.2.2.1 σe) (LM ao aa X.2.2.1 σ) [(0, .ref (ao 0)), (2, .int x2)] 262 [] := by
  unfold Mod_aClass_b262 at hf
  refine gw_aload_n hC 0 d_Mod_aClass_262 rfl rfl ?_
  refine gw_dup hC d_Mod_aClass_263 rfl ?_
  refine Mg11 hC kf_Mod_129 d_Mod_aClass_264 (σ.1 11) rfl ?_
  refine gw_iconst hC 1 d_Mod_aClass_267 (by decide) ?_
  refine gw_iadd hC d_Mod_aClass_268 ?_
  refine Mp11 hC kf_Mod_129 d_Mod_aClass_269 ?_
  refine gw_aload_n hC 0 d_Mod_aClass_272 rfl rfl ?_
  refine Mr_Mod_b hC kf_Mod_29 d_Mod_aClass_273 ?_
  refine gw_iload_n hC 1 d_Mod_aClass_276 rfl rfl ?_
  refine gw_aload_n hC 0 d_Mod_aClass_277 rfl rfl ?_
  refine Mg10 hC kf_Mod_183 d_Mod_aClass_278 (σ.1 10) rfl ?_
  obtain ⟨hg281, hf⟩ := g_guard hf
  refine Mast (j := 5) hC (by decide) hg281 d_Mod_aClass_281 ?_
  refine gw_iload_n hC 1 d_Mod_aClass_282 rfl rfl ?_
  cases hf
  exact gw_iret hC d_Mod_aClass_283
def Mod_aClass_b249 (N : Nat) (k51 : Int32 → g_S → Option (Int32 × g_S)) (x2 : Int32) (σ : g_S) : Option (Int32 × g_S) := k51 x2 (gF σ 10 ((σ.1 10) + 1))
theorem Mod_aClass_p249 (ao aa : Nat → Nat) {X : g_X} (hC : gC X c_Mod_aClass R_Mod 6 130 7 (some .int)) (N : Nat) (k51 : Int32 → g_S → Option (Int32 × g_S)) (hk51 : ∀ (x2 : Int32) (σ : g_S) (r : Int32) (σe : g_S), k51 x2 σ = some (r, σe) → gw X (.inl (some (.int r))) (LM ao aa X.2.2.1 σe) (LM ao aa X.2.2.1 σ) [(0, .ref (ao 0)), (2, .int x2)] 51 []) (x2 : Int32) (σ : g_S) (r : Int32) (σe : g_S) (hf : Mod_aClass_b249 N k51 x2 σ = some (r, σe)) : gw X (.inl (some (.int r))) (LM ao aa X.2.2.1 σe) (LM ao aa X.2.2.1 σ) [(0, .ref (ao 0)), (2, .int x2)] 249 [] := by
  unfold Mod_aClass_b249 at hf
  refine gw_aload_n hC 0 d_Mod_aClass_249 rfl rfl ?_
  refine gw_dup hC d_Mod_aClass_250 rfl ?_
  refine Mg10 hC kf_Mod_183 d_Mod_aClass_251 (σ.1 10) rfl ?_
  refine gw_iconst hC 1 d_Mod_aClass_254 (by decide) ?_
  refine gw_iadd hC d_Mod_aClass_255 ?_
  refine Mp10 hC kf_Mod_183 d_Mod_aClass_256 ?_
  refine gw_goto hC 51 d_Mod_aClass_259 (by decide) ?_
  exact hk51 _ _ _ _ hf
def Mod_aClass_b236 (N : Nat) (k51 : Int32 → g_S → Option (Int32 × g_S)) (x2 : Int32) (σ : g_S) : Option (Int32 × g_S) := if gIn (σ.1 10) 200 = true then Mod_aClass_b249 N k51 x2 (gA σ 13 ((σ.1 10)).toNatClampNeg (σ.1 13)) else none
theorem Mod_aClass_p236 (ao aa : Nat → Nat) {X : g_X} (hC : gC X c_Mod_aClass R_Mod 6 130 7 (some .int)) (N : Nat) (k51 : Int32 → g_S → Option (Int32 × g_S)) (hk51 : ∀ (x2 : Int32) (σ : g_S) (r : Int32) (σe : g_S), k51 x2 σ = some (r, σe) → gw X (.inl (some (.int r))) (LM ao aa X.2.2.1 σe) (LM ao aa X.2.2.1 σ) [(0, .ref (ao 0)), (2, .int x2)] 51 []) (x2 : Int32) (σ : g_S) (r : Int32) (σe : g_S) (hf : Mod_aClass_b236 N k51 x2 σ = some (r, σe)) : gw X (.inl (some (.int r))) (LM ao aa X.2.2.1 σe) (LM ao aa X.2.2.1 σ) [(0, .ref (ao 0)), (2, .int x2)] 236 [] := by
  unfold Mod_aClass_b236 at hf
  refine gw_aload_n hC 0 d_Mod_aClass_236 rfl rfl ?_
  refine Mr_Mod_high hC kf_Mod_53 d_Mod_aClass_237 ?_
  refine gw_aload_n hC 0 d_Mod_aClass_240 rfl rfl ?_
  refine Mg10 hC kf_Mod_183 d_Mod_aClass_241 (σ.1 10) rfl ?_
  refine gw_aload_n hC 0 d_Mod_aClass_244 rfl rfl ?_
  refine Mg13 hC kf_Mod_169 d_Mod_aClass_245 (σ.1 13) rfl ?_
  obtain ⟨hg248, hf⟩ := g_guard hf
  refine Mast (j := 13) hC (by decide) hg248 d_Mod_aClass_248 ?_
  exact Mod_aClass_p249 ao aa hC N _ hk51 _ _ _ _ hf
def Mod_aClass_b230 (N : Nat) (k51 : Int32 → g_S → Option (Int32 × g_S)) (x2 : Int32) (x5 : Int32) (σ : g_S) : Option (Int32 × g_S) := (Mod_fail N x5 σ).bind fun q233 => Mod_aClass_b236 N k51 x2 q233.2
theorem Mod_aClass_p230 (ao aa : Nat → Nat) {X : g_X} (hC : gC X c_Mod_aClass R_Mod 6 130 7 (some .int)) (N : Nat) (k51 : Int32 → g_S → Option (Int32 × g_S)) (hk51 : ∀ (x2 : Int32) (σ : g_S) (r : Int32) (σe : g_S), k51 x2 σ = some (r, σe) → gw X (.inl (some (.int r))) (LM ao aa X.2.2.1 σe) (LM ao aa X.2.2.1 σ) [(0, .ref (ao 0)), (2, .int x2)] 51 []) (x2 : Int32) (x5 : Int32) (σ : g_S) (r : Int32) (σe : g_S) (hf : Mod_aClass_b230 N k51 x2 x5 σ = some (r, σe)) : gw X (.inl (some (.int r))) (LM ao aa X.2.2.1 σe) (LM ao aa X.2.2.1 σ) [(0, .ref (ao 0)), (2, .int x2), (5, .int x5)] 230 [] := by
  unfold Mod_aClass_b230 at hf
  refine gw_aload_n hC 0 d_Mod_aClass_230 rfl rfl ?_
  refine gw_iload hC 2 d_Mod_aClass_231 rfl ?_
  obtain ⟨q233, hq233, hf⟩ := g_bind hf
  refine gw_callV hC [.int x5] [] (Mod_fail_m _ _ _ ao aa N _ _ _ _ hq233) kc_Mod_165 0 (g_lay_obj rfl) rfl rfl ⟨by decide, by decide⟩ (Nat.le_of_ble_eq_true rfl) [.int x5, .ref (ao 0)] [] rfl rfl d_Mod_aClass_233 ?_
  refine gw_lv [0, 1] rfl ?_
  exact Mod_aClass_p236 ao aa hC N _ hk51 _ _ _ _ hf
def Mod_aClass_b214 (N : Nat) (k51 : Int32 → g_S → Option (Int32 × g_S)) (x2 : Int32) (x5 : Int32) (σ : g_S) : Option (Int32 × g_S) := if gIn (σ.1 10) 200 = true then if (σ.2 12 ((σ.1 10)).toNatClampNeg) ≤ (σ.1 13) then Mod_aClass_b236 N k51 x2 σ else Mod_aClass_b230 N k51 x2 x5 σ else none
theorem Mod_aClass_p214 (ao aa : Nat → Nat) {X : g_X} (hC : gC X c_Mod_aClass R_Mod 6 130 7 (some .int)) (N : Nat) (k51 : Int32 → g_S → Option (Int32 × g_S)) (hk51 : ∀ (x2 : Int32) (σ : g_S) (r : Int32) (σe : g_S), k51 x2 σ = some (r, σe) → gw X (.inl (some (.int r))) (LM ao aa X.2.2.1 σe) (LM ao aa X.2.2.1 σ) [(0, .ref (ao 0)), (2, .int x2)] 51 []) (x2 : Int32) (x5 : Int32) (σ : g_S) (r : Int32) (σe : g_S) (hf : Mod_aClass_b214 N k51 x2 x5 σ = some (r, σe)) : gw X (.inl (some (.int r))) (LM ao aa X.2.2.1 σe) (LM ao aa X.2.2.1 σ) [(0, .ref (ao 0)), (2, .int x2), (5, .int x5)] 214 [] := by
  unfold Mod_aClass_b214 at hf
  refine gw_aload_n hC 0 d_Mod_aClass_214 rfl rfl ?_
  refine Mg13 hC kf_Mod_169 d_Mod_aClass_215 (σ.1 13) rfl ?_
  refine gw_aload_n hC 0 d_Mod_aClass_218 rfl rfl ?_
  refine Mr_Mod_low hC kf_Mod_50 d_Mod_aClass_219 ?_
  refine gw_aload_n hC 0 d_Mod_aClass_222 rfl rfl ?_
  refine Mg10 hC kf_Mod_183 d_Mod_aClass_223 (σ.1 10) rfl ?_
  obtain ⟨hg226, hf⟩ := g_guard hf
  refine Mald (j := 12) hC (by decide) hg226 d_Mod_aClass_226 (σ.2 12 ((σ.1 10)).toNatClampNeg) rfl ?_
  refine gw_icmp_ge hC 236 d_Mod_aClass_227 (by decide) (fun hh => ?_) (fun hh => ?_)
  · rw [if_pos hh] at hf
    refine gw_lv [0, 1] rfl ?_
    exact Mod_aClass_p236 ao aa hC N _ hk51 _ _ _ _ hf
  · rw [if_neg hh] at hf
    exact Mod_aClass_p230 ao aa hC N _ hk51 _ _ _ _ _ hf
def Mod_aClass_b186 (N : Nat) (k51 : Int32 → g_S → Option (Int32 × g_S)) (x2 : Int32) (σ : g_S) : Option (Int32 × g_S) := (Mod_member N (gF σ 11 ((σ.1 11) + 1))).bind fun q203 => if q203.1 = 1 then Mod_aClass_b230 N k51 x2 ((σ.1 11) + 1) q203.2 else Mod_aClass_b214 N k51 x2 ((σ.1 11) + 1) q203.2
theorem Mod_aClass_p186 (ao aa : Nat → Nat) {X : g_X} (hC : gC X c_Mod_aClass R_Mod 6 130 7 (some .int)) (N : Nat) (k51 : Int32 → g_S → Option (Int32 × g_S)) (hk51 : ∀ (x2 : Int32) (σ : g_S) (r : Int32) (σe : g_S), k51 x2 σ = some (r, σe) → gw X (.inl (some (.int r))) (LM ao aa X.2.2.1 σe) (LM ao aa X.2.2.1 σ) [(0, .ref (ao 0)), (2, .int x2)] 51 []) (x2 : Int32) (σ : g_S) (r : Int32) (σe : g_S) (hf : Mod_aClass_b186 N k51 x2 σ = some (r, σe)) : gw X (.inl (some (.int r))) (LM ao aa X.2.2.1 σe) (LM ao aa X.2.2.1 σ) [(0, .ref (ao 0)), (2, .int x2)] 186 [] := by
  unfold Mod_aClass_b186 at hf
  refine gw_aload_n hC 0 d_Mod_aClass_186 rfl rfl ?_
  refine gw_dup hC d_Mod_aClass_187 rfl ?_
  refine Mg11 hC kf_Mod_129 d_Mod_aClass_188 (σ.1 11) rfl ?_
  refine gw_iconst hC 1 d_Mod_aClass_191 (by decide) ?_
  refine gw_iadd hC d_Mod_aClass_192 ?_
  refine Mp11 hC kf_Mod_129 d_Mod_aClass_193 ?_
  refine gw_aload_n hC 0 d_Mod_aClass_196 rfl rfl ?_
  refine Mg11 hC kf_Mod_129 d_Mod_aClass_197 ((σ.1 11) + 1) rfl ?_
  refine gw_istore hC [(5, .int ((σ.1 11) + 1)), (0, .ref (ao 0)), (2, .int x2)] d_Mod_aClass_200 (by decide) rfl ?_
  refine gw_aload_n hC 1 d_Mod_aClass_202 rfl rfl ?_
  obtain ⟨q203, hq203, hf⟩ := g_bind hf
  refine gw_callV hC [] [] (Mod_member_m _ _ _ ao aa N _ _ _ hq203) kc_Mod_186 0 (g_lay_obj rfl) rfl rfl ⟨by decide, by decide⟩ (Nat.le_of_ble_eq_true rfl) [.ref (ao 0)] [.int q203.1] rfl rfl d_Mod_aClass_203 ?_
  refine gw_istore hC [(6, .int q203.1), (5, .int ((σ.1 11) + 1)), (0, .ref (ao 0)), (2, .int x2)] d_Mod_aClass_206 (by decide) rfl ?_
  refine gw_iload hC 0 d_Mod_aClass_208 rfl ?_
  refine gw_iconst hC 1 d_Mod_aClass_210 (by decide) ?_
  refine gw_icmp_eq hC 230 d_Mod_aClass_211 (by decide) (fun hh => ?_) (fun hh => ?_)
  · rw [if_pos hh] at hf
    refine gw_lv [2, 3, 1] rfl ?_
    exact Mod_aClass_p230 ao aa hC N _ hk51 _ _ _ _ _ hf
  · rw [if_neg hh] at hf
    refine gw_lv [2, 3, 1] rfl ?_
    exact Mod_aClass_p214 ao aa hC N _ hk51 _ _ _ _ _ hf
def Mod_aClass_b179 (N : Nat) (k51 : Int32 → g_S → Option (Int32 × g_S)) (x2 : Int32) (σ : g_S) : Option (Int32 × g_S) := if 0 ≤ (σ.1 12) then Mod_aClass_b249 N k51 x2 σ else Mod_aClass_b186 N k51 x2 σ
theorem Mod_aClass_p179 (ao aa : Nat → Nat) {X : g_X} (hC : gC X c_Mod_aClass R_Mod 6 130 7 (some .int)) (N : Nat) (k51 : Int32 → g_S → Option (Int32 × g_S)) (hk51 : ∀ (x2 : Int32) (σ : g_S) (r : Int32) (σe : g_S), k51 x2 σ = some (r, σe) → gw X (.inl (some (.int r))) (LM ao aa X.2.2.1 σe) (LM ao aa X.2.2.1 σ) [(0, .ref (ao 0)), (2, .int x2)] 51 []) (x2 : Int32) (σ : g_S) (r : Int32) (σe : g_S) (hf : Mod_aClass_b179 N k51 x2 σ = some (r, σe)) : gw X (.inl (some (.int r))) (LM ao aa X.2.2.1 σe) (LM ao aa X.2.2.1 σ) [(0, .ref (ao 0)), (2, .int x2)] 179 [] := by
  unfold Mod_aClass_b179 at hf
  refine gw_aload_n hC 0 d_Mod_aClass_179 rfl rfl ?_
  refine Mg12 hC kf_Mod_135 d_Mod_aClass_180 (σ.1 12) rfl ?_
  refine gw_if_ge hC 249 d_Mod_aClass_183 (by decide) (fun hh => ?_) (fun hh => ?_)
  · rw [if_pos hh] at hf
    exact Mod_aClass_p249 ao aa hC N _ hk51 _ _ _ _ hf
  · rw [if_neg hh] at hf
    exact Mod_aClass_p186 ao aa hC N _ hk51 _ _ _ _ hf
def Mod_aClass_b174 (N : Nat) (k51 : Int32 → g_S → Option (Int32 × g_S)) (x2 : Int32) (x4 : Int32) (σ : g_S) : Option (Int32 × g_S) := if x4 = 0 then Mod_aClass_b249 N k51 x2 σ else Mod_aClass_b179 N k51 x2 σ
theorem Mod_aClass_p174 (ao aa : Nat → Nat) {X : g_X} (hC : gC X c_Mod_aClass R_Mod 6 130 7 (some .int)) (N : Nat) (k51 : Int32 → g_S → Option (Int32 × g_S)) (hk51 : ∀ (x2 : Int32) (σ : g_S) (r : Int32) (σe : g_S), k51 x2 σ = some (r, σe) → gw X (.inl (some (.int r))) (LM ao aa X.2.2.1 σe) (LM ao aa X.2.2.1 σ) [(0, .ref (ao 0)), (2, .int x2)] 51 []) (x2 : Int32) (x4 : Int32) (σ : g_S) (r : Int32) (σe : g_S) (hf : Mod_aClass_b174 N k51 x2 x4 σ = some (r, σe)) : gw X (.inl (some (.int r))) (LM ao aa X.2.2.1 σe) (LM ao aa X.2.2.1 σ) [(0, .ref (ao 0)), (2, .int x2), (4, .int x4)] 174 [] := by
  unfold Mod_aClass_b174 at hf
  refine gw_iload hC 2 d_Mod_aClass_174 rfl ?_
  refine gw_if_eq hC 249 d_Mod_aClass_176 (by decide) (fun hh => ?_) (fun hh => ?_)
  · rw [if_pos hh] at hf
    refine gw_lv [0, 1] rfl ?_
    exact Mod_aClass_p249 ao aa hC N _ hk51 _ _ _ _ hf
  · rw [if_neg hh] at hf
    refine gw_lv [0, 1] rfl ?_
    exact Mod_aClass_p179 ao aa hC N _ hk51 _ _ _ _ hf
def Mod_aClass_b166 (N : Nat) (k51 : Int32 → g_S → Option (Int32 × g_S)) (x2 : Int32) (x4 : Int32) (σ : g_S) : Option (Int32 × g_S) := (Mod_fail N (σ.1 11) σ).bind fun q171 => Mod_aClass_b174 N k51 x2 x4 q171.2
theorem Mod_aClass_p166 (ao aa : Nat → Nat) {X : g_X} (hC : gC X c_Mod_aClass R_Mod 6 130 7 (some .int)) (N : Nat) (k51 : Int32 → g_S → Option (Int32 × g_S)) (hk51 : ∀ (x2 : Int32) (σ : g_S) (r : Int32) (σe : g_S), k51 x2 σ = some (r, σe) → gw X (.inl (some (.int r))) (LM ao aa X.2.2.1 σe) (LM ao aa X.2.2.1 σ) [(0, .ref (ao 0)), (2, .int x2)] 51 []) (x2 : Int32) (x4 : Int32) (σ : g_S) (r : Int32) (σe : g_S) (hf : Mod_aClass_b166 N k51 x2 x4 σ = some (r, σe)) : gw X (.inl (some (.int r))) (LM ao aa X.2.2.1 σe) (LM ao aa X.2.2.1 σ) [(0, .ref (ao 0)), (2, .int x2), (4, .int x4)] 166 [] := by
  unfold Mod_aClass_b166 at hf
  refine gw_aload_n hC 0 d_Mod_aClass_166 rfl rfl ?_
  refine gw_aload_n hC 0 d_Mod_aClass_167 rfl rfl ?_
  refine Mg11 hC kf_Mod_129 d_Mod_aClass_168 (σ.1 11) rfl ?_
  obtain ⟨q171, hq171, hf⟩ := g_bind hf
  refine gw_callV hC [.int (σ.1 11)] [] (Mod_fail_m _ _ _ ao aa N _ _ _ _ hq171) kc_Mod_165 0 (g_lay_obj rfl) rfl rfl ⟨by decide, by decide⟩ (Nat.le_of_ble_eq_true rfl) [.int (σ.1 11), .ref (ao 0)] [] rfl rfl d_Mod_aClass_171 ?_
  exact Mod_aClass_p174 ao aa hC N _ hk51 _ _ _ _ _ hf
def Mod_aClass_b161 (N : Nat) (k51 : Int32 → g_S → Option (Int32 × g_S)) (x2 : Int32) (x3 : Int32) (x4 : Int32) (σ : g_S) : Option (Int32 × g_S) := if x3 = 1 then Mod_aClass_b166 N k51 x2 x4 σ else Mod_aClass_b174 N k51 x2 x4 σ
theorem Mod_aClass_p161 (ao aa : Nat → Nat) {X : g_X} (hC : gC X c_Mod_aClass R_Mod 6 130 7 (some .int)) (N : Nat) (k51 : Int32 → g_S → Option (Int32 × g_S)) (hk51 : ∀ (x2 : Int32) (σ : g_S) (r : Int32) (σe : g_S), k51 x2 σ = some (r, σe) → gw X (.inl (some (.int r))) (LM ao aa X.2.2.1 σe) (LM ao aa X.2.2.1 σ) [(0, .ref (ao 0)), (2, .int x2)] 51 []) (x2 : Int32) (x3 : Int32) (x4 : Int32) (σ : g_S) (r : Int32) (σe : g_S) (hf : Mod_aClass_b161 N k51 x2 x3 x4 σ = some (r, σe)) : gw X (.inl (some (.int r))) (LM ao aa X.2.2.1 σe) (LM ao aa X.2.2.1 σ) [(0, .ref (ao 0)), (2, .int x2), (3, .int x3), (4, .int x4)] 161 [] := by
  unfold Mod_aClass_b161 at hf
  refine gw_iload_n hC 2 d_Mod_aClass_161 rfl rfl ?_
  refine gw_iconst hC 1 d_Mod_aClass_162 (by decide) ?_
  refine gw_icmp_ne hC 174 d_Mod_aClass_163 (by decide) (fun hh => ?_) (fun hh => ?_)
  · rw [if_neg hh] at hf
    refine gw_lv [0, 1, 3] rfl ?_
    exact Mod_aClass_p174 ao aa hC N _ hk51 _ _ _ _ _ hf
  · rw [if_pos hh] at hf
    refine gw_lv [0, 1, 3] rfl ?_
    exact Mod_aClass_p166 ao aa hC N _ hk51 _ _ _ _ _ hf
def Mod_aClass_b156 (N : Nat) (k51 : Int32 → g_S → Option (Int32 × g_S)) (x2 : Int32) (x3 : Int32) (x4 : Int32) (σ : g_S) : Option (Int32 × g_S) := if x4 = 0 then Mod_aClass_b174 N k51 x2 x4 σ else Mod_aClass_b161 N k51 x2 x3 x4 σ
theorem Mod_aClass_p156 (ao aa : Nat → Nat) {X : g_X} (hC : gC X c_Mod_aClass R_Mod 6 130 7 (some .int)) (N : Nat) (k51 : Int32 → g_S → Option (Int32 × g_S)) (hk51 : ∀ (x2 : Int32) (σ : g_S) (r : Int32) (σe : g_S), k51 x2 σ = some (r, σe) → gw X (.inl (some (.int r))) (LM ao aa X.2.2.1 σe) (LM ao aa X.2.2.1 σ) [(0, .ref (ao 0)), (2, .int x2)] 51 []) (x2 : Int32) (x3 : Int32) (x4 : Int32) (σ : g_S) (r : Int32) (σe : g_S) (hf : Mod_aClass_b156 N k51 x2 x3 x4 σ = some (r, σe)) : gw X (.inl (some (.int r))) (LM ao aa X.2.2.1 σe) (LM ao aa X.2.2.1 σ) [(0, .ref (ao 0)), (2, .int x2), (3, .int x3), (4, .int x4)] 156 [] := by
  unfold Mod_aClass_b156 at hf
  refine gw_iload hC 3 d_Mod_aClass_156 rfl ?_
  refine gw_if_eq hC 174 d_Mod_aClass_158 (by decide) (fun hh => ?_) (fun hh => ?_)
  · rw [if_pos hh] at hf
    refine gw_lv [0, 1, 3] rfl ?_
    exact Mod_aClass_p174 ao aa hC N _ hk51 _ _ _ _ _ hf
  · rw [if_neg hh] at hf
    exact Mod_aClass_p161 ao aa hC N _ hk51 _ _ _ _ _ _ hf
def Mod_aClass_b148 (N : Nat) (k51 : Int32 → g_S → Option (Int32 × g_S)) (x2 : Int32) (x3 : Int32) (x4 : Int32) (σ : g_S) : Option (Int32 × g_S) := (Mod_fail N (σ.1 2) σ).bind fun q153 => Mod_aClass_b156 N k51 x2 x3 x4 q153.2
theorem Mod_aClass_p148 (ao aa : Nat → Nat) {X : g_X} (hC : gC X c_Mod_aClass R_Mod 6 130 7 (some .int)) (N : Nat) (k51 : Int32 → g_S → Option (Int32 × g_S)) (hk51 : ∀ (x2 : Int32) (σ : g_S) (r : Int32) (σe : g_S), k51 x2 σ = some (r, σe) → gw X (.inl (some (.int r))) (LM ao aa X.2.2.1 σe) (LM ao aa X.2.2.1 σ) [(0, .ref (ao 0)), (2, .int x2)] 51 []) (x2 : Int32) (x3 : Int32) (x4 : Int32) (σ : g_S) (r : Int32) (σe : g_S) (hf : Mod_aClass_b148 N k51 x2 x3 x4 σ = some (r, σe)) : gw X (.inl (some (.int r))) (LM ao aa X.2.2.1 σe) (LM ao aa X.2.2.1 σ) [(0, .ref (ao 0)), (2, .int x2), (3, .int x3), (4, .int x4)] 148 [] := by
  unfold Mod_aClass_b148 at hf
  refine gw_aload_n hC 0 d_Mod_aClass_148 rfl rfl ?_
  refine gw_aload_n hC 0 d_Mod_aClass_149 rfl rfl ?_
  refine Mg2 hC kf_Mod_132 d_Mod_aClass_150 (σ.1 2) rfl ?_
  obtain ⟨q153, hq153, hf⟩ := g_bind hf
  refine gw_callV hC [.int (σ.1 2)] [] (Mod_fail_m _ _ _ ao aa N _ _ _ _ hq153) kc_Mod_165 0 (g_lay_obj rfl) rfl rfl ⟨by decide, by decide⟩ (Nat.le_of_ble_eq_true rfl) [.int (σ.1 2), .ref (ao 0)] [] rfl rfl d_Mod_aClass_153 ?_
  exact Mod_aClass_p156 ao aa hC N _ hk51 _ _ _ _ _ _ hf
def Mod_aClass_b140 (N : Nat) (k51 : Int32 → g_S → Option (Int32 × g_S)) (x2 : Int32) (x3 : Int32) (x4 : Int32) (σ : g_S) : Option (Int32 × g_S) := (Mod_see N 1 σ).bind fun q142 => if 0 ≤ q142.1 then Mod_aClass_b156 N k51 x2 x3 x4 q142.2 else Mod_aClass_b148 N k51 x2 x3 x4 q142.2
theorem Mod_aClass_p140 (ao aa : Nat → Nat) {X : g_X} (hC : gC X c_Mod_aClass R_Mod 6 130 7 (some .int)) (N : Nat) (k51 : Int32 → g_S → Option (Int32 × g_S)) (hk51 : ∀ (x2 : Int32) (σ : g_S) (r : Int32) (σe : g_S), k51 x2 σ = some (r, σe) → gw X (.inl (some (.int r))) (LM ao aa X.2.2.1 σe) (LM ao aa X.2.2.1 σ) [(0, .ref (ao 0)), (2, .int x2)] 51 []) (x2 : Int32) (x3 : Int32) (x4 : Int32) (σ : g_S) (r : Int32) (σe : g_S) (hf : Mod_aClass_b140 N k51 x2 x3 x4 σ = some (r, σe)) : gw X (.inl (some (.int r))) (LM ao aa X.2.2.1 σe) (LM ao aa X.2.2.1 σ) [(0, .ref (ao 0)), (2, .int x2), (3, .int x3), (4, .int x4)] 140 [] := by
  unfold Mod_aClass_b140 at hf
  refine gw_aload_n hC 0 d_Mod_aClass_140 rfl rfl ?_
  refine gw_iconst hC 1 d_Mod_aClass_141 (by decide) ?_
  obtain ⟨q142, hq142, hf⟩ := g_bind hf
  refine gw_callV hC [.int 1] [] (Mod_see_m _ _ _ ao aa N _ _ _ _ hq142) kc_Mod_158 0 (g_lay_obj rfl) rfl rfl ⟨by decide, by decide⟩ (Nat.le_of_ble_eq_true rfl) [.int 1, .ref (ao 0)] [.int q142.1] rfl rfl d_Mod_aClass_142 ?_
  refine gw_if_ge hC 156 d_Mod_aClass_145 (by decide) (fun hh => ?_) (fun hh => ?_)
  · rw [if_pos hh] at hf
    exact Mod_aClass_p156 ao aa hC N _ hk51 _ _ _ _ _ _ hf
  · rw [if_neg hh] at hf
    exact Mod_aClass_p148 ao aa hC N _ hk51 _ _ _ _ _ _ hf
def Mod_aClass_b133 (N : Nat) (k51 : Int32 → g_S → Option (Int32 × g_S)) (x2 : Int32) (x3 : Int32) (s0 : Int32) (σ : g_S) : Option (Int32 × g_S) := if s0 = 0 then Mod_aClass_b156 N k51 x2 x3 s0 σ else Mod_aClass_b140 N k51 x2 x3 s0 σ
theorem Mod_aClass_p133 (ao aa : Nat → Nat) {X : g_X} (hC : gC X c_Mod_aClass R_Mod 6 130 7 (some .int)) (N : Nat) (k51 : Int32 → g_S → Option (Int32 × g_S)) (hk51 : ∀ (x2 : Int32) (σ : g_S) (r : Int32) (σe : g_S), k51 x2 σ = some (r, σe) → gw X (.inl (some (.int r))) (LM ao aa X.2.2.1 σe) (LM ao aa X.2.2.1 σ) [(0, .ref (ao 0)), (2, .int x2)] 51 []) (x2 : Int32) (x3 : Int32) (s0 : Int32) (σ : g_S) (r : Int32) (σe : g_S) (hf : Mod_aClass_b133 N k51 x2 x3 s0 σ = some (r, σe)) : gw X (.inl (some (.int r))) (LM ao aa X.2.2.1 σe) (LM ao aa X.2.2.1 σ) [(0, .ref (ao 0)), (2, .int x2), (3, .int x3)] 133 [.int s0] := by
  unfold Mod_aClass_b133 at hf
  refine gw_istore hC [(4, .int s0), (0, .ref (ao 0)), (2, .int x2), (3, .int x3)] d_Mod_aClass_133 (by decide) rfl ?_
  refine gw_iload hC 0 d_Mod_aClass_135 rfl ?_
  refine gw_if_eq hC 156 d_Mod_aClass_137 (by decide) (fun hh => ?_) (fun hh => ?_)
  · rw [if_pos hh] at hf
    refine gw_lv [1, 2, 3, 0] rfl ?_
    exact Mod_aClass_p156 ao aa hC N _ hk51 _ _ _ _ _ _ hf
  · rw [if_neg hh] at hf
    refine gw_lv [1, 2, 3, 0] rfl ?_
    exact Mod_aClass_p140 ao aa hC N _ hk51 _ _ _ _ _ _ hf
def Mod_aClass_b132 (N : Nat) (k51 : Int32 → g_S → Option (Int32 × g_S)) (x2 : Int32) (x3 : Int32) (σ : g_S) : Option (Int32 × g_S) := Mod_aClass_b133 N k51 x2 x3 0 σ
theorem Mod_aClass_p132 (ao aa : Nat → Nat) {X : g_X} (hC : gC X c_Mod_aClass R_Mod 6 130 7 (some .int)) (N : Nat) (k51 : Int32 → g_S → Option (Int32 × g_S)) (hk51 : ∀ (x2 : Int32) (σ : g_S) (r : Int32) (σe : g_S), k51 x2 σ = some (r, σe) → gw X (.inl (some (.int r))) (LM ao aa X.2.2.1 σe) (LM ao aa X.2.2.1 σ) [(0, .ref (ao 0)), (2, .int x2)] 51 []) (x2 : Int32) (x3 : Int32) (σ : g_S) (r : Int32) (σe : g_S) (hf : Mod_aClass_b132 N k51 x2 x3 σ = some (r, σe)) : gw X (.inl (some (.int r))) (LM ao aa X.2.2.1 σe) (LM ao aa X.2.2.1 σ) [(0, .ref (ao 0)), (2, .int x2), (3, .int x3)] 132 [] := by
  unfold Mod_aClass_b132 at hf
  refine gw_iconst hC 0 d_Mod_aClass_132 (by decide) ?_
  exact Mod_aClass_p133 ao aa hC N _ hk51 _ _ _ _ _ _ hf
def Mod_aClass_b128 (N : Nat) (k51 : Int32 → g_S → Option (Int32 × g_S)) (x2 : Int32) (x3 : Int32) (σ : g_S) : Option (Int32 × g_S) := Mod_aClass_b133 N k51 x2 x3 1 σ
theorem Mod_aClass_p128 (ao aa : Nat → Nat) {X : g_X} (hC : gC X c_Mod_aClass R_Mod 6 130 7 (some .int)) (N : Nat) (k51 : Int32 → g_S → Option (Int32 × g_S)) (hk51 : ∀ (x2 : Int32) (σ : g_S) (r : Int32) (σe : g_S), k51 x2 σ = some (r, σe) → gw X (.inl (some (.int r))) (LM ao aa X.2.2.1 σe) (LM ao aa X.2.2.1 σ) [(0, .ref (ao 0)), (2, .int x2)] 51 []) (x2 : Int32) (x3 : Int32) (σ : g_S) (r : Int32) (σe : g_S) (hf : Mod_aClass_b128 N k51 x2 x3 σ = some (r, σe)) : gw X (.inl (some (.int r))) (LM ao aa X.2.2.1 σe) (LM ao aa X.2.2.1 σ) [(0, .ref (ao 0)), (2, .int x2), (3, .int x3)] 128 [] := by
  unfold Mod_aClass_b128 at hf
  refine gw_iconst hC 1 d_Mod_aClass_128 (by decide) ?_
  refine gw_goto hC 133 d_Mod_aClass_129 (by decide) ?_
  exact Mod_aClass_p133 ao aa hC N _ hk51 _ _ _ _ _ _ hf
def Mod_aClass_b118 (N : Nat) (k51 : Int32 → g_S → Option (Int32 × g_S)) (x2 : Int32) (x3 : Int32) (σ : g_S) : Option (Int32 × g_S) := (Mod_see N 1 σ).bind fun q120 => if q120.1 = 93 then Mod_aClass_b132 N k51 x2 x3 q120.2 else Mod_aClass_b128 N k51 x2 x3 q120.2
theorem Mod_aClass_p118 (ao aa : Nat → Nat) {X : g_X} (hC : gC X c_Mod_aClass R_Mod 6 130 7 (some .int)) (N : Nat) (k51 : Int32 → g_S → Option (Int32 × g_S)) (hk51 : ∀ (x2 : Int32) (σ : g_S) (r : Int32) (σe : g_S), k51 x2 σ = some (r, σe) → gw X (.inl (some (.int r))) (LM ao aa X.2.2.1 σe) (LM ao aa X.2.2.1 σ) [(0, .ref (ao 0)), (2, .int x2)] 51 []) (x2 : Int32) (x3 : Int32) (σ : g_S) (r : Int32) (σe : g_S) (hf : Mod_aClass_b118 N k51 x2 x3 σ = some (r, σe)) : gw X (.inl (some (.int r))) (LM ao aa X.2.2.1 σe) (LM ao aa X.2.2.1 σ) [(0, .ref (ao 0)), (2, .int x2), (3, .int x3)] 118 [] := by
  unfold Mod_aClass_b118 at hf
  refine gw_aload_n hC 0 d_Mod_aClass_118 rfl rfl ?_
  refine gw_iconst hC 1 d_Mod_aClass_119 (by decide) ?_
  obtain ⟨q120, hq120, hf⟩ := g_bind hf
  refine gw_callV hC [.int 1] [] (Mod_see_m _ _ _ ao aa N _ _ _ _ hq120) kc_Mod_158 0 (g_lay_obj rfl) rfl rfl ⟨by decide, by decide⟩ (Nat.le_of_ble_eq_true rfl) [.int 1, .ref (ao 0)] [.int q120.1] rfl rfl d_Mod_aClass_120 ?_
  refine gw_bipush hC 93 d_Mod_aClass_123 (by decide) ?_
  refine gw_icmp_eq hC 132 d_Mod_aClass_125 (by decide) (fun hh => ?_) (fun hh => ?_)
  · rw [if_pos hh] at hf
    exact Mod_aClass_p132 ao aa hC N _ hk51 _ _ _ _ _ hf
  · rw [if_neg hh] at hf
    exact Mod_aClass_p128 ao aa hC N _ hk51 _ _ _ _ _ hf
def Mod_aClass_b107 (N : Nat) (k51 : Int32 → g_S → Option (Int32 × g_S)) (x2 : Int32) (x3 : Int32) (s1 : Int32) (s2 : Int32) (σ : g_S) : Option (Int32 × g_S) := if gIn s1 200 = true then (Mod_see N 0 (gA σ 13 (s1).toNatClampNeg s2)).bind fun q110 => if q110.1 = 45 then Mod_aClass_b118 N k51 x2 x3 q110.2 else Mod_aClass_b132 N k51 x2 x3 q110.2 else none
theorem Mod_aClass_p107 (ao aa : Nat → Nat) {X : g_X} (hC : gC X c_Mod_aClass R_Mod 6 130 7 (some .int)) (N : Nat) (k51 : Int32 → g_S → Option (Int32 × g_S)) (hk51 : ∀ (x2 : Int32) (σ : g_S) (r : Int32) (σe : g_S), k51 x2 σ = some (r, σe) → gw X (.inl (some (.int r))) (LM ao aa X.2.2.1 σe) (LM ao aa X.2.2.1 σ) [(0, .ref (ao 0)), (2, .int x2)] 51 []) (x2 : Int32) (x3 : Int32) (s1 : Int32) (s2 : Int32) (σ : g_S) (r : Int32) (σe : g_S) (hf : Mod_aClass_b107 N k51 x2 x3 s1 s2 σ = some (r, σe)) : gw X (.inl (some (.int r))) (LM ao aa X.2.2.1 σe) (LM ao aa X.2.2.1 σ) [(0, .ref (ao 0)), (2, .int x2), (3, .int x3)] 107 [.int s2, .int s1, .ref (aa 13)] := by
  unfold Mod_aClass_b107 at hf
  obtain ⟨hg107, hf⟩ := g_guard hf
  refine Mast (j := 13) hC (by decide) hg107 d_Mod_aClass_107 ?_
  refine gw_aload_n hC 0 d_Mod_aClass_108 rfl rfl ?_
  refine gw_iconst hC 0 d_Mod_aClass_109 (by decide) ?_
  obtain ⟨q110, hq110, hf⟩ := g_bind hf
  refine gw_callV hC [.int 0] [] (Mod_see_m _ _ _ ao aa N _ _ _ _ hq110) kc_Mod_158 0 (g_lay_obj rfl) rfl rfl ⟨by decide, by decide⟩ (Nat.le_of_ble_eq_true rfl) [.int 0, .ref (ao 0)] [.int q110.1] rfl rfl d_Mod_aClass_110 ?_
  refine gw_bipush hC 45 d_Mod_aClass_113 (by decide) ?_
  refine gw_icmp_ne hC 132 d_Mod_aClass_115 (by decide) (fun hh => ?_) (fun hh => ?_)
  · rw [if_neg hh] at hf
    exact Mod_aClass_p132 ao aa hC N _ hk51 _ _ _ _ _ hf
  · rw [if_pos hh] at hf
    exact Mod_aClass_p118 ao aa hC N _ hk51 _ _ _ _ _ hf
def Mod_aClass_b103 (N : Nat) (k51 : Int32 → g_S → Option (Int32 × g_S)) (x2 : Int32) (x3 : Int32) (s1 : Int32) (σ : g_S) : Option (Int32 × g_S) := Mod_aClass_b107 N k51 x2 x3 s1 (σ.1 13) σ
theorem Mod_aClass_p103 (ao aa : Nat → Nat) {X : g_X} (hC : gC X c_Mod_aClass R_Mod 6 130 7 (some .int)) (N : Nat) (k51 : Int32 → g_S → Option (Int32 × g_S)) (hk51 : ∀ (x2 : Int32) (σ : g_S) (r : Int32) (σe : g_S), k51 x2 σ = some (r, σe) → gw X (.inl (some (.int r))) (LM ao aa X.2.2.1 σe) (LM ao aa X.2.2.1 σ) [(0, .ref (ao 0)), (2, .int x2)] 51 []) (x2 : Int32) (x3 : Int32) (s1 : Int32) (σ : g_S) (r : Int32) (σe : g_S) (hf : Mod_aClass_b103 N k51 x2 x3 s1 σ = some (r, σe)) : gw X (.inl (some (.int r))) (LM ao aa X.2.2.1 σe) (LM ao aa X.2.2.1 σ) [(0, .ref (ao 0)), (2, .int x2), (3, .int x3)] 103 [.int s1, .ref (aa 13)] := by
  unfold Mod_aClass_b103 at hf
  refine gw_aload_n hC 0 d_Mod_aClass_103 rfl rfl ?_
  refine Mg13 hC kf_Mod_169 d_Mod_aClass_104 (σ.1 13) rfl ?_
  exact Mod_aClass_p107 ao aa hC N _ hk51 _ _ _ _ _ _ _ hf
def Mod_aClass_b99 (N : Nat) (k51 : Int32 → g_S → Option (Int32 × g_S)) (x2 : Int32) (x3 : Int32) (s1 : Int32) (σ : g_S) : Option (Int32 × g_S) := Mod_aClass_b107 N k51 x2 x3 s1 (-1) σ
theorem Mod_aClass_p99 (ao aa : Nat → Nat) {X : g_X} (hC : gC X c_Mod_aClass R_Mod 6 130 7 (some .int)) (N : Nat) (k51 : Int32 → g_S → Option (Int32 × g_S)) (hk51 : ∀ (x2 : Int32) (σ : g_S) (r : Int32) (σe : g_S), k51 x2 σ = some (r, σe) → gw X (.inl (some (.int r))) (LM ao aa X.2.2.1 σe) (LM ao aa X.2.2.1 σ) [(0, .ref (ao 0)), (2, .int x2)] 51 []) (x2 : Int32) (x3 : Int32) (s1 : Int32) (σ : g_S) (r : Int32) (σe : g_S) (hf : Mod_aClass_b99 N k51 x2 x3 s1 σ = some (r, σe)) : gw X (.inl (some (.int r))) (LM ao aa X.2.2.1 σe) (LM ao aa X.2.2.1 σ) [(0, .ref (ao 0)), (2, .int x2), (3, .int x3)] 99 [.int s1, .ref (aa 13)] := by
  unfold Mod_aClass_b99 at hf
  refine gw_iconst hC (-1) d_Mod_aClass_99 (by decide) ?_
  refine gw_goto hC 107 d_Mod_aClass_100 (by decide) ?_
  exact Mod_aClass_p107 ao aa hC N _ hk51 _ _ _ _ _ _ _ hf
def Mod_aClass_b68 (N : Nat) (k51 : Int32 → g_S → Option (Int32 × g_S)) (x2 : Int32) (σ : g_S) : Option (Int32 × g_S) := (Mod_member N σ).bind fun q69 => if gIn (q69.2.1 10) 200 = true then if q69.1 = 1 then Mod_aClass_b99 N k51 x2 q69.1 (q69.2.1 10) (gA q69.2 12 ((q69.2.1 10)).toNatClampNeg (q69.2.1 13)) else Mod_aClass_b103 N k51 x2 q69.1 (q69.2.1 10) (gA q69.2 12 ((q69.2.1 10)).toNatClampNeg (q69.2.1 13)) else none
theorem Mod_aClass_p68 (ao aa : Nat → Nat) {X : g_X} (hC : gC X c_Mod_aClass R_Mod 6 130 7 (some .int)) (N : Nat) (k51 : Int32 → g_S → Option (Int32 × g_S)) (hk51 : ∀ (x2 : Int32) (σ : g_S) (r : Int32) (σe : g_S), k51 x2 σ = some (r, σe) → gw X (.inl (some (.int r))) (LM ao aa X.2.2.1 σe) (LM ao aa X.2.2.1 σ) [(0, .ref (ao 0)), (2, .int x2)] 51 []) (x2 : Int32) (σ : g_S) (r : Int32) (σe : g_S) (hf : Mod_aClass_b68 N k51 x2 σ = some (r, σe)) : gw X (.inl (some (.int r))) (LM ao aa X.2.2.1 σe) (LM ao aa X.2.2.1 σ) [(0, .ref (ao 0)), (2, .int x2)] 68 [] := by
  unfold Mod_aClass_b68 at hf
  refine gw_aload_n hC 0 d_Mod_aClass_68 rfl rfl ?_
  obtain ⟨q69, hq69, hf⟩ := g_bind hf
  refine gw_callV hC [] [] (Mod_member_m _ _ _ ao aa N _ _ _ hq69) kc_Mod_186 0 (g_lay_obj rfl) rfl rfl ⟨by decide, by decide⟩ (Nat.le_of_ble_eq_true rfl) [.ref (ao 0)] [.int q69.1] rfl rfl d_Mod_aClass_69 ?_
  refine gw_istore_n hC [(3, .int q69.1), (0, .ref (ao 0)), (2, .int x2)] d_Mod_aClass_72 rfl (by decide) rfl ?_
  refine gw_aload_n hC 1 d_Mod_aClass_73 rfl rfl ?_
  refine Mr_Mod_low hC kf_Mod_50 d_Mod_aClass_74 ?_
  refine gw_aload_n hC 1 d_Mod_aClass_77 rfl rfl ?_
  refine Mg10 hC kf_Mod_183 d_Mod_aClass_78 (q69.2.1 10) rfl ?_
  refine gw_aload_n hC 1 d_Mod_aClass_81 rfl rfl ?_
  refine Mg13 hC kf_Mod_169 d_Mod_aClass_82 (q69.2.1 13) rfl ?_
  obtain ⟨hg85, hf⟩ := g_guard hf
  refine Mast (j := 12) hC (by decide) hg85 d_Mod_aClass_85 ?_
  refine gw_aload_n hC 1 d_Mod_aClass_86 rfl rfl ?_
  refine Mr_Mod_high hC kf_Mod_53 d_Mod_aClass_87 ?_
  refine gw_aload_n hC 1 d_Mod_aClass_90 rfl rfl ?_
  refine Mg10 hC kf_Mod_183 d_Mod_aClass_91 (q69.2.1 10) rfl ?_
  refine gw_iload_n hC 0 d_Mod_aClass_94 rfl rfl ?_
  refine gw_iconst hC 1 d_Mod_aClass_95 (by decide) ?_
  refine gw_icmp_ne hC 103 d_Mod_aClass_96 (by decide) (fun hh => ?_) (fun hh => ?_)
  · rw [if_neg hh] at hf
    refine gw_lv [1, 2, 0] rfl ?_
    exact Mod_aClass_p103 ao aa hC N _ hk51 _ _ _ _ _ _ hf
  · rw [if_pos hh] at hf
    refine gw_lv [1, 2, 0] rfl ?_
    exact Mod_aClass_p99 ao aa hC N _ hk51 _ _ _ _ _ _ hf
def Mod_aClass_b61 (N : Nat) (k51 : Int32 → g_S → Option (Int32 × g_S)) (x2 : Int32) (σ : g_S) : Option (Int32 × g_S) := if 0 ≤ (σ.1 12) then Mod_aClass_b262 N x2 σ else Mod_aClass_b68 N k51 x2 σ
theorem Mod_aClass_p61 (ao aa : Nat → Nat) {X : g_X} (hC : gC X c_Mod_aClass R_Mod 6 130 7 (some .int)) (N : Nat) (k51 : Int32 → g_S → Option (Int32 × g_S)) (hk51 : ∀ (x2 : Int32) (σ : g_S) (r : Int32) (σe : g_S), k51 x2 σ = some (r, σe) → gw X (.inl (some (.int r))) (LM ao aa X.2.2.1 σe) (LM ao aa X.2.2.1 σ) [(0, .ref (ao 0)), (2, .int x2)] 51 []) (x2 : Int32) (σ : g_S) (r : Int32) (σe : g_S) (hf : Mod_aClass_b61 N k51 x2 σ = some (r, σe)) : gw X (.inl (some (.int r))) (LM ao aa X.2.2.1 σe) (LM ao aa X.2.2.1 σ) [(0, .ref (ao 0)), (2, .int x2)] 61 [] := by
  unfold Mod_aClass_b61 at hf
  refine gw_aload_n hC 0 d_Mod_aClass_61 rfl rfl ?_
  refine Mg12 hC kf_Mod_135 d_Mod_aClass_62 (σ.1 12) rfl ?_
  refine gw_if_ge hC 262 d_Mod_aClass_65 (by decide) (fun hh => ?_) (fun hh => ?_)
  · rw [if_pos hh] at hf
    exact Mod_aClass_p262 ao aa hC N _ _ _ _ hf
  · rw [if_neg hh] at hf
    exact Mod_aClass_p68 ao aa hC N _ hk51 _ _ _ _ hf
def Mod_aClass_b51 (N : Nat) (k51 : Int32 → g_S → Option (Int32 × g_S)) (x2 : Int32) (σ : g_S) : Option (Int32 × g_S) := (Mod_see N 0 σ).bind fun q53 => if q53.1 = 93 then Mod_aClass_b262 N x2 q53.2 else Mod_aClass_b61 N k51 x2 q53.2
theorem Mod_aClass_p51 (ao aa : Nat → Nat) {X : g_X} (hC : gC X c_Mod_aClass R_Mod 6 130 7 (some .int)) (N : Nat) (k51 : Int32 → g_S → Option (Int32 × g_S)) (hk51 : ∀ (x2 : Int32) (σ : g_S) (r : Int32) (σe : g_S), k51 x2 σ = some (r, σe) → gw X (.inl (some (.int r))) (LM ao aa X.2.2.1 σe) (LM ao aa X.2.2.1 σ) [(0, .ref (ao 0)), (2, .int x2)] 51 []) (x2 : Int32) (σ : g_S) (r : Int32) (σe : g_S) (hf : Mod_aClass_b51 N k51 x2 σ = some (r, σe)) : gw X (.inl (some (.int r))) (LM ao aa X.2.2.1 σe) (LM ao aa X.2.2.1 σ) [(0, .ref (ao 0)), (2, .int x2)] 51 [] := by
  unfold Mod_aClass_b51 at hf
  refine gw_aload_n hC 0 d_Mod_aClass_51 rfl rfl ?_
  refine gw_iconst hC 0 d_Mod_aClass_52 (by decide) ?_
  obtain ⟨q53, hq53, hf⟩ := g_bind hf
  refine gw_callV hC [.int 0] [] (Mod_see_m _ _ _ ao aa N _ _ _ _ hq53) kc_Mod_158 0 (g_lay_obj rfl) rfl rfl ⟨by decide, by decide⟩ (Nat.le_of_ble_eq_true rfl) [.int 0, .ref (ao 0)] [.int q53.1] rfl rfl d_Mod_aClass_53 ?_
  refine gw_bipush hC 93 d_Mod_aClass_56 (by decide) ?_
  refine gw_icmp_eq hC 262 d_Mod_aClass_58 (by decide) (fun hh => ?_) (fun hh => ?_)
  · rw [if_pos hh] at hf
    exact Mod_aClass_p262 ao aa hC N _ _ _ _ hf
  · rw [if_neg hh] at hf
    exact Mod_aClass_p61 ao aa hC N _ hk51 _ _ _ _ hf
def Mod_aClass_l51 (N : Nat) : Nat → Int32 → g_S → Option (Int32 × g_S)
  | 0 => fun _ _ => none
  | n + 1 => fun x2 σ => Mod_aClass_b51 N (Mod_aClass_l51 N n) x2 σ
theorem Mod_aClass_q51 (ao aa : Nat → Nat) {X : g_X} (hC : gC X c_Mod_aClass R_Mod 6 130 7 (some .int)) (N : Nat) (n : Nat) : ∀ (x2 : Int32) (σ : g_S) (r : Int32) (σe : g_S), Mod_aClass_l51 N n x2 σ = some (r, σe) → gw X (.inl (some (.int r))) (LM ao aa X.2.2.1 σe) (LM ao aa X.2.2.1 σ) [(0, .ref (ao 0)), (2, .int x2)] 51 [] := by
  induction n with
  | zero => intro x2 σ r σe hf; cases hf
  | succ n ih => intro x2 σ r σe hf; exact Mod_aClass_p51 ao aa hC N _ (fun x2 σ r2 σ2 h2 => ih x2 σ r2 σ2 h2) x2 σ r σe hf
def Mod_aClass_b47 (N : Nat) (s1 : Int32) (s2 : Int32) (s3 : Int32) (s4 : Int32) (σ : g_S) : Option (Int32 × g_S) := (Mod_node N s1 s2 s3 s4 σ).bind fun q47 => Mod_aClass_l51 N N q47.1 q47.2
theorem Mod_aClass_p47 (ao aa : Nat → Nat) {X : g_X} (hC : gC X c_Mod_aClass R_Mod 6 130 7 (some .int)) (N : Nat) (s1 : Int32) (s2 : Int32) (s3 : Int32) (s4 : Int32) (σ : g_S) (r : Int32) (σe : g_S) (hf : Mod_aClass_b47 N s1 s2 s3 s4 σ = some (r, σe)) : gw X (.inl (some (.int r))) (LM ao aa X.2.2.1 σe) (LM ao aa X.2.2.1 σ) [(0, .ref (ao 0))] 47 [.int s4, .int s3, .int s2, .int s1, .ref (ao 0)] := by
  unfold Mod_aClass_b47 at hf
  obtain ⟨q47, hq47, hf⟩ := g_bind hf
  refine gw_callV hC [.int s1, .int s2, .int s3, .int s4] [] (Mod_node_m _ _ _ ao aa N _ _ _ _ _ _ _ hq47) kc_Mod_147 0 (g_lay_obj rfl) rfl rfl ⟨by decide, by decide⟩ (Nat.le_of_ble_eq_true rfl) [.int s4, .int s3, .int s2, .int s1, .ref (ao 0)] [.int q47.1] rfl rfl d_Mod_aClass_47 ?_
  refine gw_istore_n hC [(2, .int q47.1), (0, .ref (ao 0))] d_Mod_aClass_50 rfl (by decide) rfl ?_
  refine gw_lv [1, 0] rfl ?_
  exact Mod_aClass_q51 ao aa hC N N _ _ _ _ hf
def Mod_aClass_b46 (N : Nat) (s1 : Int32) (s2 : Int32) (s3 : Int32) (σ : g_S) : Option (Int32 × g_S) := Mod_aClass_b47 N s1 s2 s3 0 σ
theorem Mod_aClass_p46 (ao aa : Nat → Nat) {X : g_X} (hC : gC X c_Mod_aClass R_Mod 6 130 7 (some .int)) (N : Nat) (s1 : Int32) (s2 : Int32) (s3 : Int32) (σ : g_S) (r : Int32) (σe : g_S) (hf : Mod_aClass_b46 N s1 s2 s3 σ = some (r, σe)) : gw X (.inl (some (.int r))) (LM ao aa X.2.2.1 σe) (LM ao aa X.2.2.1 σ) [(0, .ref (ao 0))] 46 [.int s3, .int s2, .int s1, .ref (ao 0)] := by
  unfold Mod_aClass_b46 at hf
  refine gw_iconst hC 0 d_Mod_aClass_46 (by decide) ?_
  exact Mod_aClass_p47 ao aa hC N _ _ _ _ _ _ _ hf
def Mod_aClass_b42 (N : Nat) (s1 : Int32) (s2 : Int32) (s3 : Int32) (σ : g_S) : Option (Int32 × g_S) := Mod_aClass_b47 N s1 s2 s3 1 σ
theorem Mod_aClass_p42 (ao aa : Nat → Nat) {X : g_X} (hC : gC X c_Mod_aClass R_Mod 6 130 7 (some .int)) (N : Nat) (s1 : Int32) (s2 : Int32) (s3 : Int32) (σ : g_S) (r : Int32) (σe : g_S) (hf : Mod_aClass_b42 N s1 s2 s3 σ = some (r, σe)) : gw X (.inl (some (.int r))) (LM ao aa X.2.2.1 σe) (LM ao aa X.2.2.1 σ) [(0, .ref (ao 0))] 42 [.int s3, .int s2, .int s1, .ref (ao 0)] := by
  unfold Mod_aClass_b42 at hf
  refine gw_iconst hC 1 d_Mod_aClass_42 (by decide) ?_
  refine gw_goto hC 47 d_Mod_aClass_43 (by decide) ?_
  exact Mod_aClass_p47 ao aa hC N _ _ _ _ _ _ _ hf
def Mod_aClass_b30 (N : Nat) (x1 : Int32) (σ : g_S) : Option (Int32 × g_S) := if x1 = 0 then Mod_aClass_b46 N 6 (σ.1 10) 0 σ else Mod_aClass_b42 N 6 (σ.1 10) 0 σ
theorem Mod_aClass_p30 (ao aa : Nat → Nat) {X : g_X} (hC : gC X c_Mod_aClass R_Mod 6 130 7 (some .int)) (N : Nat) (x1 : Int32) (σ : g_S) (r : Int32) (σe : g_S) (hf : Mod_aClass_b30 N x1 σ = some (r, σe)) : gw X (.inl (some (.int r))) (LM ao aa X.2.2.1 σe) (LM ao aa X.2.2.1 σ) [(0, .ref (ao 0)), (1, .int x1)] 30 [] := by
  unfold Mod_aClass_b30 at hf
  refine gw_aload_n hC 0 d_Mod_aClass_30 rfl rfl ?_
  refine gw_bipush hC 6 d_Mod_aClass_31 (by decide) ?_
  refine gw_aload_n hC 0 d_Mod_aClass_33 rfl rfl ?_
  refine Mg10 hC kf_Mod_183 d_Mod_aClass_34 (σ.1 10) rfl ?_
  refine gw_iconst hC 0 d_Mod_aClass_37 (by decide) ?_
  refine gw_iload_n hC 1 d_Mod_aClass_38 rfl rfl ?_
  refine gw_if_eq hC 46 d_Mod_aClass_39 (by decide) (fun hh => ?_) (fun hh => ?_)
  · rw [if_pos hh] at hf
    refine gw_lv [0] rfl ?_
    exact Mod_aClass_p46 ao aa hC N _ _ _ _ _ _ hf
  · rw [if_neg hh] at hf
    refine gw_lv [0] rfl ?_
    exact Mod_aClass_p42 ao aa hC N _ _ _ _ _ _ hf
def Mod_aClass_b20 (N : Nat) (x1 : Int32) (σ : g_S) : Option (Int32 × g_S) := Mod_aClass_b30 N x1 (gF σ 11 ((σ.1 11) + 1))
theorem Mod_aClass_p20 (ao aa : Nat → Nat) {X : g_X} (hC : gC X c_Mod_aClass R_Mod 6 130 7 (some .int)) (N : Nat) (x1 : Int32) (σ : g_S) (r : Int32) (σe : g_S) (hf : Mod_aClass_b20 N x1 σ = some (r, σe)) : gw X (.inl (some (.int r))) (LM ao aa X.2.2.1 σe) (LM ao aa X.2.2.1 σ) [(0, .ref (ao 0)), (1, .int x1)] 20 [] := by
  unfold Mod_aClass_b20 at hf
  refine gw_aload_n hC 0 d_Mod_aClass_20 rfl rfl ?_
  refine gw_dup hC d_Mod_aClass_21 rfl ?_
  refine Mg11 hC kf_Mod_129 d_Mod_aClass_22 (σ.1 11) rfl ?_
  refine gw_iconst hC 1 d_Mod_aClass_25 (by decide) ?_
  refine gw_iadd hC d_Mod_aClass_26 ?_
  refine Mp11 hC kf_Mod_129 d_Mod_aClass_27 ?_
  exact Mod_aClass_p30 ao aa hC N _ _ _ _ hf
def Mod_aClass_b15 (N : Nat) (s0 : Int32) (σ : g_S) : Option (Int32 × g_S) := if s0 = 0 then Mod_aClass_b30 N s0 σ else Mod_aClass_b20 N s0 σ
theorem Mod_aClass_p15 (ao aa : Nat → Nat) {X : g_X} (hC : gC X c_Mod_aClass R_Mod 6 130 7 (some .int)) (N : Nat) (s0 : Int32) (σ : g_S) (r : Int32) (σe : g_S) (hf : Mod_aClass_b15 N s0 σ = some (r, σe)) : gw X (.inl (some (.int r))) (LM ao aa X.2.2.1 σe) (LM ao aa X.2.2.1 σ) [(0, .ref (ao 0))] 15 [.int s0] := by
  unfold Mod_aClass_b15 at hf
  refine gw_istore_n hC [(1, .int s0), (0, .ref (ao 0))] d_Mod_aClass_15 rfl (by decide) rfl ?_
  refine gw_iload_n hC 0 d_Mod_aClass_16 rfl rfl ?_
  refine gw_if_eq hC 30 d_Mod_aClass_17 (by decide) (fun hh => ?_) (fun hh => ?_)
  · rw [if_pos hh] at hf
    refine gw_lv [1, 0] rfl ?_
    exact Mod_aClass_p30 ao aa hC N _ _ _ _ hf
  · rw [if_neg hh] at hf
    refine gw_lv [1, 0] rfl ?_
    exact Mod_aClass_p20 ao aa hC N _ _ _ _ hf
def Mod_aClass_b14 (N : Nat) (σ : g_S) : Option (Int32 × g_S) := Mod_aClass_b15 N 0 σ
theorem Mod_aClass_p14 (ao aa : Nat → Nat) {X : g_X} (hC : gC X c_Mod_aClass R_Mod 6 130 7 (some .int)) (N : Nat) (σ : g_S) (r : Int32) (σe : g_S) (hf : Mod_aClass_b14 N σ = some (r, σe)) : gw X (.inl (some (.int r))) (LM ao aa X.2.2.1 σe) (LM ao aa X.2.2.1 σ) [(0, .ref (ao 0))] 14 [] := by
  unfold Mod_aClass_b14 at hf
  refine gw_iconst hC 0 d_Mod_aClass_14 (by decide) ?_
  exact Mod_aClass_p15 ao aa hC N _ _ _ _ hf
def Mod_aClass_b10 (N : Nat) (σ : g_S) : Option (Int32 × g_S) := Mod_aClass_b15 N 1 σ
theorem Mod_aClass_p10 (ao aa : Nat → Nat) {X : g_X} (hC : gC X c_Mod_aClass R_Mod 6 130 7 (some .int)) (N : Nat) (σ : g_S) (r : Int32) (σe : g_S) (hf : Mod_aClass_b10 N σ = some (r, σe)) : gw X (.inl (some (.int r))) (LM ao aa X.2.2.1 σe) (LM ao aa X.2.2.1 σ) [(0, .ref (ao 0))] 10 [] := by
  unfold Mod_aClass_b10 at hf
  refine gw_iconst hC 1 d_Mod_aClass_10 (by decide) ?_
  refine gw_goto hC 15 d_Mod_aClass_11 (by decide) ?_
  exact Mod_aClass_p15 ao aa hC N _ _ _ _ hf
def Mod_aClass_b0 (N : Nat) (σ : g_S) : Option (Int32 × g_S) := (Mod_see N 0 σ).bind fun q2 => if q2.1 = 94 then Mod_aClass_b10 N q2.2 else Mod_aClass_b14 N q2.2
theorem Mod_aClass_p0 (ao aa : Nat → Nat) {X : g_X} (hC : gC X c_Mod_aClass R_Mod 6 130 7 (some .int)) (N : Nat) (σ : g_S) (r : Int32) (σe : g_S) (hf : Mod_aClass_b0 N σ = some (r, σe)) : gw X (.inl (some (.int r))) (LM ao aa X.2.2.1 σe) (LM ao aa X.2.2.1 σ) [(0, .ref (ao 0))] 0 [] := by
  unfold Mod_aClass_b0 at hf
  refine gw_aload_n hC 0 d_Mod_aClass_0 rfl rfl ?_
  refine gw_iconst hC 0 d_Mod_aClass_1 (by decide) ?_
  obtain ⟨q2, hq2, hf⟩ := g_bind hf
  refine gw_callV hC [.int 0] [] (Mod_see_m _ _ _ ao aa N _ _ _ _ hq2) kc_Mod_158 0 (g_lay_obj rfl) rfl rfl ⟨by decide, by decide⟩ (Nat.le_of_ble_eq_true rfl) [.int 0, .ref (ao 0)] [.int q2.1] rfl rfl d_Mod_aClass_2 ?_
  refine gw_bipush hC 94 d_Mod_aClass_5 (by decide) ?_
  refine gw_icmp_ne hC 14 d_Mod_aClass_7 (by decide) (fun hh => ?_) (fun hh => ?_)
  · rw [if_neg hh] at hf
    exact Mod_aClass_p14 ao aa hC N _ _ _ hf
  · rw [if_pos hh] at hf
    exact Mod_aClass_p10 ao aa hC N _ _ _ hf
def Mod_aClass (N : Nat) (σ : g_S) : Option (Int32 × g_S) := Mod_aClass_b0 N  σ
theorem Mod_aClass_m (l : Launch) (D : va_G) (cA : ClassId) (ao aa : Nat → Nat) (N : Nat) (σ : g_S) (r : Int32) (σe : g_S) (hf : Mod_aClass N σ = some (r, σe)) : Mt l D cA y_Mod_aClass c_Mod_aClass 7 (some .int) 6 130 [.ref (ao 0)] (LM ao aa cA σ) (some (.int r)) (LM ao aa cA σe) := by
  refine g_met (by decide +kernel) (by simp [lg_sl, Value.category]) (fun X e1 e2 e3 hC => ?_)
  subst e1 e2 e3
  refine gw_lv [0] rfl ?_
  exact Mod_aClass_p0 ao aa hC N _ (r) _ hf
def Mod_isAbove_b145 (N : Nat) (s0 : Int32) (σ : g_S) : Option (Int32 × g_S) := if gB s0 = true then some (s0, σ) else none
theorem Mod_isAbove_p145 (ao aa : Nat → Nat) {X : g_X} (hC : gC X c_Mod_isAbove R_Mod 0 0 7 (some .boolean)) (N : Nat) (s0 : Int32) (σ : g_S) (r : Int32) (σe : g_S) (hf : Mod_isAbove_b145 N s0 σ = some (r, σe)) : gw X (.inl (some (.int r))) (LM ao aa X.2.2.1 σe) (LM ao aa X.2.2.1 σ) [(0, .ref (ao 0))] 145 [.int s0] := by
  unfold Mod_isAbove_b145 at hf
  obtain ⟨hg145, hf⟩ := g_guard hf
  cases hf
  exact gw_zret hC hg145 d_Mod_isAbove_145
def Mod_isAbove_b144 (N : Nat) (σ : g_S) : Option (Int32 × g_S) := Mod_isAbove_b145 N 0 σ
theorem Mod_isAbove_p144 (ao aa : Nat → Nat) {X : g_X} (hC : gC X c_Mod_isAbove R_Mod 0 0 7 (some .boolean)) (N : Nat) (σ : g_S) (r : Int32) (σe : g_S) (hf : Mod_isAbove_b144 N σ = some (r, σe)) : gw X (.inl (some (.int r))) (LM ao aa X.2.2.1 σe) (LM ao aa X.2.2.1 σ) [(0, .ref (ao 0))] 144 [] := by
  unfold Mod_isAbove_b144 at hf
  refine gw_iconst hC 0 d_Mod_isAbove_144 (by decide) ?_
  exact Mod_isAbove_p145 ao aa hC N _ _ _ _ hf
def Mod_isAbove_b140 (N : Nat) (σ : g_S) : Option (Int32 × g_S) := Mod_isAbove_b145 N 1 σ
theorem Mod_isAbove_p140 (ao aa : Nat → Nat) {X : g_X} (hC : gC X c_Mod_isAbove R_Mod 0 0 7 (some .boolean)) (N : Nat) (σ : g_S) (r : Int32) (σe : g_S) (hf : Mod_isAbove_b140 N σ = some (r, σe)) : gw X (.inl (some (.int r))) (LM ao aa X.2.2.1 σe) (LM ao aa X.2.2.1 σ) [(0, .ref (ao 0))] 140 [] := by
  unfold Mod_isAbove_b140 at hf
  refine gw_iconst hC 1 d_Mod_isAbove_140 (by decide) ?_
  refine gw_goto hC 145 d_Mod_isAbove_141 (by decide) ?_
  exact Mod_isAbove_p145 ao aa hC N _ _ _ _ hf
def Mod_isAbove_b123 (N : Nat) (x5 : Int32) (x6 : Int32) (σ : g_S) : Option (Int32 × g_S) := if gIn x5 200 = true then if gIn x6 200 = true then if (σ.2 1 (x5).toNatClampNeg) ≤ (σ.2 1 (x6).toNatClampNeg) then Mod_isAbove_b144 N σ else Mod_isAbove_b140 N σ else none else none
theorem Mod_isAbove_p123 (ao aa : Nat → Nat) {X : g_X} (hC : gC X c_Mod_isAbove R_Mod 0 0 7 (some .boolean)) (N : Nat) (x5 : Int32) (x6 : Int32) (σ : g_S) (r : Int32) (σe : g_S) (hf : Mod_isAbove_b123 N x5 x6 σ = some (r, σe)) : gw X (.inl (some (.int r))) (LM ao aa X.2.2.1 σe) (LM ao aa X.2.2.1 σ) [(0, .ref (ao 0)), (5, .int x5), (6, .int x6)] 123 [] := by
  unfold Mod_isAbove_b123 at hf
  refine gw_aload_n hC 0 d_Mod_isAbove_123 rfl rfl ?_
  refine Mr_Mod_pattern hC kf_Mod_13 d_Mod_isAbove_124 ?_
  refine gw_iload hC 1 d_Mod_isAbove_127 rfl ?_
  obtain ⟨hg129, hf⟩ := g_guard hf
  refine Mald (j := 1) hC (by decide) hg129 d_Mod_isAbove_129 (σ.2 1 (x5).toNatClampNeg) rfl ?_
  refine gw_aload_n hC 0 d_Mod_isAbove_130 rfl rfl ?_
  refine Mr_Mod_pattern hC kf_Mod_13 d_Mod_isAbove_131 ?_
  refine gw_iload hC 2 d_Mod_isAbove_134 rfl ?_
  obtain ⟨hg136, hf⟩ := g_guard hf
  refine Mald (j := 1) hC (by decide) hg136 d_Mod_isAbove_136 (σ.2 1 (x6).toNatClampNeg) rfl ?_
  refine gw_icmp_le hC 144 d_Mod_isAbove_137 (by decide) (fun hh => ?_) (fun hh => ?_)
  · rw [if_pos hh] at hf
    refine gw_lv [0] rfl ?_
    exact Mod_isAbove_p144 ao aa hC N _ _ _ hf
  · rw [if_neg hh] at hf
    refine gw_lv [0] rfl ?_
    exact Mod_isAbove_p140 ao aa hC N _ _ _ hf
def Mod_isAbove_b114 (N : Nat) (k89 : Int32 → Int32 → Int32 → g_S → Option (Int32 × g_S)) (x2 : Int32) (x5 : Int32) (x6 : Int32) (σ : g_S) : Option (Int32 × g_S) := k89 x2 (x5 + 1) (x6 + 1) σ
theorem Mod_isAbove_p114 (ao aa : Nat → Nat) {X : g_X} (hC : gC X c_Mod_isAbove R_Mod 0 0 7 (some .boolean)) (N : Nat) (k89 : Int32 → Int32 → Int32 → g_S → Option (Int32 × g_S)) (hk89 : ∀ (x2 : Int32) (x5 : Int32) (x6 : Int32) (σ : g_S) (r : Int32) (σe : g_S), k89 x2 x5 x6 σ = some (r, σe) → gw X (.inl (some (.int r))) (LM ao aa X.2.2.1 σe) (LM ao aa X.2.2.1 σ) [(0, .ref (ao 0)), (2, .int x2), (5, .int x5), (6, .int x6)] 89 []) (x2 : Int32) (x5 : Int32) (x6 : Int32) (σ : g_S) (r : Int32) (σe : g_S) (hf : Mod_isAbove_b114 N k89 x2 x5 x6 σ = some (r, σe)) : gw X (.inl (some (.int r))) (LM ao aa X.2.2.1 σe) (LM ao aa X.2.2.1 σ) [(0, .ref (ao 0)), (2, .int x2), (5, .int x5), (6, .int x6)] 114 [] := by
  unfold Mod_isAbove_b114 at hf
  refine gw_iinc hC (x5 + 1) 2 [(5, .int (x5 + 1)), (0, .ref (ao 0)), (2, .int x2), (6, .int x6)] d_Mod_isAbove_114 rfl rfl (by decide) rfl ?_
  refine gw_iinc hC (x6 + 1) 3 [(6, .int (x6 + 1)), (5, .int (x5 + 1)), (0, .ref (ao 0)), (2, .int x2)] d_Mod_isAbove_117 rfl rfl (by decide) rfl ?_
  refine gw_goto hC 89 d_Mod_isAbove_120 (by decide) ?_
  refine gw_lv [2, 3, 1, 0] rfl ?_
  exact hk89 _ _ _ _ _ _ hf
def Mod_isAbove_b97 (N : Nat) (k89 : Int32 → Int32 → Int32 → g_S → Option (Int32 × g_S)) (x2 : Int32) (x5 : Int32) (x6 : Int32) (σ : g_S) : Option (Int32 × g_S) := if gIn x5 200 = true then if gIn x6 200 = true then if (σ.2 1 (x5).toNatClampNeg) = (σ.2 1 (x6).toNatClampNeg) then Mod_isAbove_b114 N k89 x2 x5 x6 σ else Mod_isAbove_b123 N x5 x6 σ else none else none
theorem Mod_isAbove_p97 (ao aa : Nat → Nat) {X : g_X} (hC : gC X c_Mod_isAbove R_Mod 0 0 7 (some .boolean)) (N : Nat) (k89 : Int32 → Int32 → Int32 → g_S → Option (Int32 × g_S)) (hk89 : ∀ (x2 : Int32) (x5 : Int32) (x6 : Int32) (σ : g_S) (r : Int32) (σe : g_S), k89 x2 x5 x6 σ = some (r, σe) → gw X (.inl (some (.int r))) (LM ao aa X.2.2.1 σe) (LM ao aa X.2.2.1 σ) [(0, .ref (ao 0)), (2, .int x2), (5, .int x5), (6, .int x6)] 89 []) (x2 : Int32) (x5 : Int32) (x6 : Int32) (σ : g_S) (r : Int32) (σe : g_S) (hf : Mod_isAbove_b97 N k89 x2 x5 x6 σ = some (r, σe)) : gw X (.inl (some (.int r))) (LM ao aa X.2.2.1 σe) (LM ao aa X.2.2.1 σ) [(0, .ref (ao 0)), (2, .int x2), (5, .int x5), (6, .int x6)] 97 [] := by
  unfold Mod_isAbove_b97 at hf
  refine gw_aload_n hC 0 d_Mod_isAbove_97 rfl rfl ?_
  refine Mr_Mod_pattern hC kf_Mod_13 d_Mod_isAbove_98 ?_
  refine gw_iload hC 2 d_Mod_isAbove_101 rfl ?_
  obtain ⟨hg103, hf⟩ := g_guard hf
  refine Mald (j := 1) hC (by decide) hg103 d_Mod_isAbove_103 (σ.2 1 (x5).toNatClampNeg) rfl ?_
  refine gw_aload_n hC 0 d_Mod_isAbove_104 rfl rfl ?_
  refine Mr_Mod_pattern hC kf_Mod_13 d_Mod_isAbove_105 ?_
  refine gw_iload hC 3 d_Mod_isAbove_108 rfl ?_
  obtain ⟨hg110, hf⟩ := g_guard hf
  refine Mald (j := 1) hC (by decide) hg110 d_Mod_isAbove_110 (σ.2 1 (x6).toNatClampNeg) rfl ?_
  refine gw_icmp_ne hC 123 d_Mod_isAbove_111 (by decide) (fun hh => ?_) (fun hh => ?_)
  · rw [if_neg hh] at hf
    refine gw_lv [0, 2, 3] rfl ?_
    exact Mod_isAbove_p123 ao aa hC N _ _ _ _ _ hf
  · rw [if_pos hh] at hf
    exact Mod_isAbove_p114 ao aa hC N _ hk89 _ _ _ _ _ _ hf
def Mod_isAbove_b89 (N : Nat) (k89 : Int32 → Int32 → Int32 → g_S → Option (Int32 × g_S)) (x2 : Int32) (x5 : Int32) (x6 : Int32) (σ : g_S) : Option (Int32 × g_S) := if (x2 - 1) ≤ x5 then Mod_isAbove_b123 N x5 x6 σ else Mod_isAbove_b97 N k89 x2 x5 x6 σ
theorem Mod_isAbove_p89 (ao aa : Nat → Nat) {X : g_X} (hC : gC X c_Mod_isAbove R_Mod 0 0 7 (some .boolean)) (N : Nat) (k89 : Int32 → Int32 → Int32 → g_S → Option (Int32 × g_S)) (hk89 : ∀ (x2 : Int32) (x5 : Int32) (x6 : Int32) (σ : g_S) (r : Int32) (σe : g_S), k89 x2 x5 x6 σ = some (r, σe) → gw X (.inl (some (.int r))) (LM ao aa X.2.2.1 σe) (LM ao aa X.2.2.1 σ) [(0, .ref (ao 0)), (2, .int x2), (5, .int x5), (6, .int x6)] 89 []) (x2 : Int32) (x5 : Int32) (x6 : Int32) (σ : g_S) (r : Int32) (σe : g_S) (hf : Mod_isAbove_b89 N k89 x2 x5 x6 σ = some (r, σe)) : gw X (.inl (some (.int r))) (LM ao aa X.2.2.1 σe) (LM ao aa X.2.2.1 σ) [(0, .ref (ao 0)), (2, .int x2), (5, .int x5), (6, .int x6)] 89 [] := by
  unfold Mod_isAbove_b89 at hf
  refine gw_iload hC 2 d_Mod_isAbove_89 rfl ?_
  refine gw_iload_n hC 1 d_Mod_isAbove_91 rfl rfl ?_
  refine gw_iconst hC 1 d_Mod_isAbove_92 (by decide) ?_
  refine gw_isub hC d_Mod_isAbove_93 ?_
  refine gw_icmp_ge hC 123 d_Mod_isAbove_94 (by decide) (fun hh => ?_) (fun hh => ?_)
  · rw [if_pos hh] at hf
    refine gw_lv [0, 2, 3] rfl ?_
    exact Mod_isAbove_p123 ao aa hC N _ _ _ _ _ hf
  · rw [if_neg hh] at hf
    exact Mod_isAbove_p97 ao aa hC N _ hk89 _ _ _ _ _ _ hf
def Mod_isAbove_l89 (N : Nat) : Nat → Int32 → Int32 → Int32 → g_S → Option (Int32 × g_S)
  | 0 => fun _ _ _ _ => none
  | n + 1 => fun x2 x5 x6 σ => Mod_isAbove_b89 N (Mod_isAbove_l89 N n) x2 x5 x6 σ
theorem Mod_isAbove_q89 (ao aa : Nat → Nat) {X : g_X} (hC : gC X c_Mod_isAbove R_Mod 0 0 7 (some .boolean)) (N : Nat) (n : Nat) : ∀ (x2 : Int32) (x5 : Int32) (x6 : Int32) (σ : g_S) (r : Int32) (σe : g_S), Mod_isAbove_l89 N n x2 x5 x6 σ = some (r, σe) → gw X (.inl (some (.int r))) (LM ao aa X.2.2.1 σe) (LM ao aa X.2.2.1 σ) [(0, .ref (ao 0)), (2, .int x2), (5, .int x5), (6, .int x6)] 89 [] := by
  induction n with
  | zero => intro x2 x5 x6 σ r σe hf; cases hf
  | succ n ih => intro x2 x5 x6 σ r σe hf; exact Mod_isAbove_p89 ao aa hC N _ (fun x2 x5 x6 σ r2 σ2 h2 => ih x2 x5 x6 σ r2 σ2 h2) x2 x5 x6 σ r σe hf
def Mod_isAbove_b88 (N : Nat) (s0 : Int32) (σ : g_S) : Option (Int32 × g_S) := if gB s0 = true then some (s0, σ) else none
theorem Mod_isAbove_p88 (ao aa : Nat → Nat) {X : g_X} (hC : gC X c_Mod_isAbove R_Mod 0 0 7 (some .boolean)) (N : Nat) (s0 : Int32) (σ : g_S) (r : Int32) (σe : g_S) (hf : Mod_isAbove_b88 N s0 σ = some (r, σe)) : gw X (.inl (some (.int r))) (LM ao aa X.2.2.1 σe) (LM ao aa X.2.2.1 σ) [(0, .ref (ao 0))] 88 [.int s0] := by
  unfold Mod_isAbove_b88 at hf
  obtain ⟨hg88, hf⟩ := g_guard hf
  cases hf
  exact gw_zret hC hg88 d_Mod_isAbove_88
def Mod_isAbove_b87 (N : Nat) (σ : g_S) : Option (Int32 × g_S) := Mod_isAbove_b88 N 0 σ
theorem Mod_isAbove_p87 (ao aa : Nat → Nat) {X : g_X} (hC : gC X c_Mod_isAbove R_Mod 0 0 7 (some .boolean)) (N : Nat) (σ : g_S) (r : Int32) (σe : g_S) (hf : Mod_isAbove_b87 N σ = some (r, σe)) : gw X (.inl (some (.int r))) (LM ao aa X.2.2.1 σe) (LM ao aa X.2.2.1 σ) [(0, .ref (ao 0))] 87 [] := by
  unfold Mod_isAbove_b87 at hf
  refine gw_iconst hC 0 d_Mod_isAbove_87 (by decide) ?_
  exact Mod_isAbove_p88 ao aa hC N _ _ _ _ hf
def Mod_isAbove_b83 (N : Nat) (σ : g_S) : Option (Int32 × g_S) := Mod_isAbove_b88 N 1 σ
theorem Mod_isAbove_p83 (ao aa : Nat → Nat) {X : g_X} (hC : gC X c_Mod_isAbove R_Mod 0 0 7 (some .boolean)) (N : Nat) (σ : g_S) (r : Int32) (σe : g_S) (hf : Mod_isAbove_b83 N σ = some (r, σe)) : gw X (.inl (some (.int r))) (LM ao aa X.2.2.1 σe) (LM ao aa X.2.2.1 σ) [(0, .ref (ao 0))] 83 [] := by
  unfold Mod_isAbove_b83 at hf
  refine gw_iconst hC 1 d_Mod_isAbove_83 (by decide) ?_
  refine gw_goto hC 88 d_Mod_isAbove_84 (by decide) ?_
  exact Mod_isAbove_p88 ao aa hC N _ _ _ _ hf
def Mod_isAbove_b71 (N : Nat) (x2 : Int32) (x4 : Int32) (x5 : Int32) (x6 : Int32) (σ : g_S) : Option (Int32 × g_S) := if (x2 - x5) ≤ (x4 - x6) then Mod_isAbove_b87 N σ else Mod_isAbove_b83 N σ
theorem Mod_isAbove_p71 (ao aa : Nat → Nat) {X : g_X} (hC : gC X c_Mod_isAbove R_Mod 0 0 7 (some .boolean)) (N : Nat) (x2 : Int32) (x4 : Int32) (x5 : Int32) (x6 : Int32) (σ : g_S) (r : Int32) (σe : g_S) (hf : Mod_isAbove_b71 N x2 x4 x5 x6 σ = some (r, σe)) : gw X (.inl (some (.int r))) (LM ao aa X.2.2.1 σe) (LM ao aa X.2.2.1 σ) [(0, .ref (ao 0)), (2, .int x2), (4, .int x4), (5, .int x5), (6, .int x6)] 71 [] := by
  unfold Mod_isAbove_b71 at hf
  refine gw_iload_n hC 1 d_Mod_isAbove_71 rfl rfl ?_
  refine gw_iload hC 3 d_Mod_isAbove_72 rfl ?_
  refine gw_isub hC d_Mod_isAbove_74 ?_
  refine gw_iload hC 2 d_Mod_isAbove_75 rfl ?_
  refine gw_iload hC 4 d_Mod_isAbove_77 rfl ?_
  refine gw_isub hC d_Mod_isAbove_79 ?_
  refine gw_icmp_le hC 87 d_Mod_isAbove_80 (by decide) (fun hh => ?_) (fun hh => ?_)
  · rw [if_pos hh] at hf
    refine gw_lv [0] rfl ?_
    exact Mod_isAbove_p87 ao aa hC N _ _ _ hf
  · rw [if_neg hh] at hf
    refine gw_lv [0] rfl ?_
    exact Mod_isAbove_p83 ao aa hC N _ _ _ hf
def Mod_isAbove_b59 (N : Nat) (x2 : Int32) (x4 : Int32) (x5 : Int32) (x6 : Int32) (σ : g_S) : Option (Int32 × g_S) := if (x2 - x5) = (x4 - x6) then Mod_isAbove_l89 N N x2 x5 x6 σ else Mod_isAbove_b71 N x2 x4 x5 x6 σ
theorem Mod_isAbove_p59 (ao aa : Nat → Nat) {X : g_X} (hC : gC X c_Mod_isAbove R_Mod 0 0 7 (some .boolean)) (N : Nat) (x2 : Int32) (x4 : Int32) (x5 : Int32) (x6 : Int32) (σ : g_S) (r : Int32) (σe : g_S) (hf : Mod_isAbove_b59 N x2 x4 x5 x6 σ = some (r, σe)) : gw X (.inl (some (.int r))) (LM ao aa X.2.2.1 σe) (LM ao aa X.2.2.1 σ) [(0, .ref (ao 0)), (2, .int x2), (4, .int x4), (5, .int x5), (6, .int x6)] 59 [] := by
  unfold Mod_isAbove_b59 at hf
  refine gw_iload_n hC 1 d_Mod_isAbove_59 rfl rfl ?_
  refine gw_iload hC 3 d_Mod_isAbove_60 rfl ?_
  refine gw_isub hC d_Mod_isAbove_62 ?_
  refine gw_iload hC 2 d_Mod_isAbove_63 rfl ?_
  refine gw_iload hC 4 d_Mod_isAbove_65 rfl ?_
  refine gw_isub hC d_Mod_isAbove_67 ?_
  refine gw_icmp_eq hC 89 d_Mod_isAbove_68 (by decide) (fun hh => ?_) (fun hh => ?_)
  · rw [if_pos hh] at hf
    refine gw_lv [0, 1, 3, 4] rfl ?_
    exact Mod_isAbove_q89 ao aa hC N N _ _ _ _ _ _ hf
  · rw [if_neg hh] at hf
    exact Mod_isAbove_p71 ao aa hC N _ _ _ _ _ _ _ hf
def Mod_isAbove_b53 (N : Nat) (k32 : Int32 → Int32 → Int32 → Int32 → g_S → Option (Int32 × g_S)) (x2 : Int32) (x4 : Int32) (x5 : Int32) (x6 : Int32) (σ : g_S) : Option (Int32 × g_S) := k32 x2 x4 x5 (x6 + 1) σ
theorem Mod_isAbove_p53 (ao aa : Nat → Nat) {X : g_X} (hC : gC X c_Mod_isAbove R_Mod 0 0 7 (some .boolean)) (N : Nat) (k32 : Int32 → Int32 → Int32 → Int32 → g_S → Option (Int32 × g_S)) (hk32 : ∀ (x2 : Int32) (x4 : Int32) (x5 : Int32) (x6 : Int32) (σ : g_S) (r : Int32) (σe : g_S), k32 x2 x4 x5 x6 σ = some (r, σe) → gw X (.inl (some (.int r))) (LM ao aa X.2.2.1 σe) (LM ao aa X.2.2.1 σ) [(0, .ref (ao 0)), (2, .int x2), (4, .int x4), (5, .int x5), (6, .int x6)] 32 []) (x2 : Int32) (x4 : Int32) (x5 : Int32) (x6 : Int32) (σ : g_S) (r : Int32) (σe : g_S) (hf : Mod_isAbove_b53 N k32 x2 x4 x5 x6 σ = some (r, σe)) : gw X (.inl (some (.int r))) (LM ao aa X.2.2.1 σe) (LM ao aa X.2.2.1 σ) [(0, .ref (ao 0)), (2, .int x2), (4, .int x4), (5, .int x5), (6, .int x6)] 53 [] := by
  unfold Mod_isAbove_b53 at hf
  refine gw_iinc hC (x6 + 1) 4 [(6, .int (x6 + 1)), (0, .ref (ao 0)), (2, .int x2), (4, .int x4), (5, .int x5)] d_Mod_isAbove_53 rfl rfl (by decide) rfl ?_
  refine gw_goto hC 32 d_Mod_isAbove_56 (by decide) ?_
  refine gw_lv [1, 2, 3, 4, 0] rfl ?_
  exact hk32 _ _ _ _ _ _ _ hf
def Mod_isAbove_b41 (N : Nat) (k32 : Int32 → Int32 → Int32 → Int32 → g_S → Option (Int32 × g_S)) (x2 : Int32) (x4 : Int32) (x5 : Int32) (x6 : Int32) (σ : g_S) : Option (Int32 × g_S) := if gIn x6 200 = true then if (σ.2 1 (x6).toNatClampNeg) = 48 then Mod_isAbove_b53 N k32 x2 x4 x5 x6 σ else Mod_isAbove_b59 N x2 x4 x5 x6 σ else none
theorem Mod_isAbove_p41 (ao aa : Nat → Nat) {X : g_X} (hC : gC X c_Mod_isAbove R_Mod 0 0 7 (some .boolean)) (N : Nat) (k32 : Int32 → Int32 → Int32 → Int32 → g_S → Option (Int32 × g_S)) (hk32 : ∀ (x2 : Int32) (x4 : Int32) (x5 : Int32) (x6 : Int32) (σ : g_S) (r : Int32) (σe : g_S), k32 x2 x4 x5 x6 σ = some (r, σe) → gw X (.inl (some (.int r))) (LM ao aa X.2.2.1 σe) (LM ao aa X.2.2.1 σ) [(0, .ref (ao 0)), (2, .int x2), (4, .int x4), (5, .int x5), (6, .int x6)] 32 []) (x2 : Int32) (x4 : Int32) (x5 : Int32) (x6 : Int32) (σ : g_S) (r : Int32) (σe : g_S) (hf : Mod_isAbove_b41 N k32 x2 x4 x5 x6 σ = some (r, σe)) : gw X (.inl (some (.int r))) (LM ao aa X.2.2.1 σe) (LM ao aa X.2.2.1 σ) [(0, .ref (ao 0)), (2, .int x2), (4, .int x4), (5, .int x5), (6, .int x6)] 41 [] := by
  unfold Mod_isAbove_b41 at hf
  refine gw_aload_n hC 0 d_Mod_isAbove_41 rfl rfl ?_
  refine Mr_Mod_pattern hC kf_Mod_13 d_Mod_isAbove_42 ?_
  refine gw_iload hC 4 d_Mod_isAbove_45 rfl ?_
  obtain ⟨hg47, hf⟩ := g_guard hf
  refine Mald (j := 1) hC (by decide) hg47 d_Mod_isAbove_47 (σ.2 1 (x6).toNatClampNeg) rfl ?_
  refine gw_bipush hC 48 d_Mod_isAbove_48 (by decide) ?_
  refine gw_icmp_ne hC 59 d_Mod_isAbove_50 (by decide) (fun hh => ?_) (fun hh => ?_)
  · rw [if_neg hh] at hf
    exact Mod_isAbove_p59 ao aa hC N _ _ _ _ _ _ _ hf
  · rw [if_pos hh] at hf
    exact Mod_isAbove_p53 ao aa hC N _ hk32 _ _ _ _ _ _ _ hf
def Mod_isAbove_b32 (N : Nat) (k32 : Int32 → Int32 → Int32 → Int32 → g_S → Option (Int32 × g_S)) (x2 : Int32) (x4 : Int32) (x5 : Int32) (x6 : Int32) (σ : g_S) : Option (Int32 × g_S) := if (x4 - 1) ≤ x6 then Mod_isAbove_b59 N x2 x4 x5 x6 σ else Mod_isAbove_b41 N k32 x2 x4 x5 x6 σ
theorem Mod_isAbove_p32 (ao aa : Nat → Nat) {X : g_X} (hC : gC X c_Mod_isAbove R_Mod 0 0 7 (some .boolean)) (N : Nat) (k32 : Int32 → Int32 → Int32 → Int32 → g_S → Option (Int32 × g_S)) (hk32 : ∀ (x2 : Int32) (x4 : Int32) (x5 : Int32) (x6 : Int32) (σ : g_S) (r : Int32) (σe : g_S), k32 x2 x4 x5 x6 σ = some (r, σe) → gw X (.inl (some (.int r))) (LM ao aa X.2.2.1 σe) (LM ao aa X.2.2.1 σ) [(0, .ref (ao 0)), (2, .int x2), (4, .int x4), (5, .int x5), (6, .int x6)] 32 []) (x2 : Int32) (x4 : Int32) (x5 : Int32) (x6 : Int32) (σ : g_S) (r : Int32) (σe : g_S) (hf : Mod_isAbove_b32 N k32 x2 x4 x5 x6 σ = some (r, σe)) : gw X (.inl (some (.int r))) (LM ao aa X.2.2.1 σe) (LM ao aa X.2.2.1 σ) [(0, .ref (ao 0)), (2, .int x2), (4, .int x4), (5, .int x5), (6, .int x6)] 32 [] := by
  unfold Mod_isAbove_b32 at hf
  refine gw_iload hC 4 d_Mod_isAbove_32 rfl ?_
  refine gw_iload hC 2 d_Mod_isAbove_34 rfl ?_
  refine gw_iconst hC 1 d_Mod_isAbove_36 (by decide) ?_
  refine gw_isub hC d_Mod_isAbove_37 ?_
  refine gw_icmp_ge hC 59 d_Mod_isAbove_38 (by decide) (fun hh => ?_) (fun hh => ?_)
  · rw [if_pos hh] at hf
    exact Mod_isAbove_p59 ao aa hC N _ _ _ _ _ _ _ hf
  · rw [if_neg hh] at hf
    exact Mod_isAbove_p41 ao aa hC N _ hk32 _ _ _ _ _ _ _ hf
def Mod_isAbove_l32 (N : Nat) : Nat → Int32 → Int32 → Int32 → Int32 → g_S → Option (Int32 × g_S)
  | 0 => fun _ _ _ _ _ => none
  | n + 1 => fun x2 x4 x5 x6 σ => Mod_isAbove_b32 N (Mod_isAbove_l32 N n) x2 x4 x5 x6 σ
theorem Mod_isAbove_q32 (ao aa : Nat → Nat) {X : g_X} (hC : gC X c_Mod_isAbove R_Mod 0 0 7 (some .boolean)) (N : Nat) (n : Nat) : ∀ (x2 : Int32) (x4 : Int32) (x5 : Int32) (x6 : Int32) (σ : g_S) (r : Int32) (σe : g_S), Mod_isAbove_l32 N n x2 x4 x5 x6 σ = some (r, σe) → gw X (.inl (some (.int r))) (LM ao aa X.2.2.1 σe) (LM ao aa X.2.2.1 σ) [(0, .ref (ao 0)), (2, .int x2), (4, .int x4), (5, .int x5), (6, .int x6)] 32 [] := by
  induction n with
  | zero => intro x2 x4 x5 x6 σ r σe hf; cases hf
  | succ n ih => intro x2 x4 x5 x6 σ r σe hf; exact Mod_isAbove_p32 ao aa hC N _ (fun x2 x4 x5 x6 σ r2 σ2 h2 => ih x2 x4 x5 x6 σ r2 σ2 h2) x2 x4 x5 x6 σ r σe hf
def Mod_isAbove_b26 (N : Nat) (k6 : Int32 → Int32 → Int32 → Int32 → g_S → Option (Int32 × g_S)) (x2 : Int32) (x4 : Int32) (x5 : Int32) (x6 : Int32) (σ : g_S) : Option (Int32 × g_S) := k6 x2 x4 (x5 + 1) x6 σ
theorem Mod_isAbove_p26 (ao aa : Nat → Nat) {X : g_X} (hC : gC X c_Mod_isAbove R_Mod 0 0 7 (some .boolean)) (N : Nat) (k6 : Int32 → Int32 → Int32 → Int32 → g_S → Option (Int32 × g_S)) (hk6 : ∀ (x2 : Int32) (x4 : Int32) (x5 : Int32) (x6 : Int32) (σ : g_S) (r : Int32) (σe : g_S), k6 x2 x4 x5 x6 σ = some (r, σe) → gw X (.inl (some (.int r))) (LM ao aa X.2.2.1 σe) (LM ao aa X.2.2.1 σ) [(0, .ref (ao 0)), (2, .int x2), (4, .int x4), (5, .int x5), (6, .int x6)] 6 []) (x2 : Int32) (x4 : Int32) (x5 : Int32) (x6 : Int32) (σ : g_S) (r : Int32) (σe : g_S) (hf : Mod_isAbove_b26 N k6 x2 x4 x5 x6 σ = some (r, σe)) : gw X (.inl (some (.int r))) (LM ao aa X.2.2.1 σe) (LM ao aa X.2.2.1 σ) [(0, .ref (ao 0)), (2, .int x2), (4, .int x4), (5, .int x5), (6, .int x6)] 26 [] := by
  unfold Mod_isAbove_b26 at hf
  refine gw_iinc hC (x5 + 1) 3 [(5, .int (x5 + 1)), (0, .ref (ao 0)), (2, .int x2), (4, .int x4), (6, .int x6)] d_Mod_isAbove_26 rfl rfl (by decide) rfl ?_
  refine gw_goto hC 6 d_Mod_isAbove_29 (by decide) ?_
  refine gw_lv [1, 2, 3, 0, 4] rfl ?_
  exact hk6 _ _ _ _ _ _ _ hf
def Mod_isAbove_b14 (N : Nat) (k6 : Int32 → Int32 → Int32 → Int32 → g_S → Option (Int32 × g_S)) (x2 : Int32) (x4 : Int32) (x5 : Int32) (x6 : Int32) (σ : g_S) : Option (Int32 × g_S) := if gIn x5 200 = true then if (σ.2 1 (x5).toNatClampNeg) = 48 then Mod_isAbove_b26 N k6 x2 x4 x5 x6 σ else Mod_isAbove_l32 N N x2 x4 x5 x6 σ else none
theorem Mod_isAbove_p14 (ao aa : Nat → Nat) {X : g_X} (hC : gC X c_Mod_isAbove R_Mod 0 0 7 (some .boolean)) (N : Nat) (k6 : Int32 → Int32 → Int32 → Int32 → g_S → Option (Int32 × g_S)) (hk6 : ∀ (x2 : Int32) (x4 : Int32) (x5 : Int32) (x6 : Int32) (σ : g_S) (r : Int32) (σe : g_S), k6 x2 x4 x5 x6 σ = some (r, σe) → gw X (.inl (some (.int r))) (LM ao aa X.2.2.1 σe) (LM ao aa X.2.2.1 σ) [(0, .ref (ao 0)), (2, .int x2), (4, .int x4), (5, .int x5), (6, .int x6)] 6 []) (x2 : Int32) (x4 : Int32) (x5 : Int32) (x6 : Int32) (σ : g_S) (r : Int32) (σe : g_S) (hf : Mod_isAbove_b14 N k6 x2 x4 x5 x6 σ = some (r, σe)) : gw X (.inl (some (.int r))) (LM ao aa X.2.2.1 σe) (LM ao aa X.2.2.1 σ) [(0, .ref (ao 0)), (2, .int x2), (4, .int x4), (5, .int x5), (6, .int x6)] 14 [] := by
  unfold Mod_isAbove_b14 at hf
  refine gw_aload_n hC 0 d_Mod_isAbove_14 rfl rfl ?_
  refine Mr_Mod_pattern hC kf_Mod_13 d_Mod_isAbove_15 ?_
  refine gw_iload hC 3 d_Mod_isAbove_18 rfl ?_
  obtain ⟨hg20, hf⟩ := g_guard hf
  refine Mald (j := 1) hC (by decide) hg20 d_Mod_isAbove_20 (σ.2 1 (x5).toNatClampNeg) rfl ?_
  refine gw_bipush hC 48 d_Mod_isAbove_21 (by decide) ?_
  refine gw_icmp_ne hC 32 d_Mod_isAbove_23 (by decide) (fun hh => ?_) (fun hh => ?_)
  · rw [if_neg hh] at hf
    exact Mod_isAbove_q32 ao aa hC N N _ _ _ _ _ _ _ hf
  · rw [if_pos hh] at hf
    exact Mod_isAbove_p26 ao aa hC N _ hk6 _ _ _ _ _ _ _ hf
def Mod_isAbove_b6 (N : Nat) (k6 : Int32 → Int32 → Int32 → Int32 → g_S → Option (Int32 × g_S)) (x2 : Int32) (x4 : Int32) (x5 : Int32) (x6 : Int32) (σ : g_S) : Option (Int32 × g_S) := if (x2 - 1) ≤ x5 then Mod_isAbove_l32 N N x2 x4 x5 x6 σ else Mod_isAbove_b14 N k6 x2 x4 x5 x6 σ
theorem Mod_isAbove_p6 (ao aa : Nat → Nat) {X : g_X} (hC : gC X c_Mod_isAbove R_Mod 0 0 7 (some .boolean)) (N : Nat) (k6 : Int32 → Int32 → Int32 → Int32 → g_S → Option (Int32 × g_S)) (hk6 : ∀ (x2 : Int32) (x4 : Int32) (x5 : Int32) (x6 : Int32) (σ : g_S) (r : Int32) (σe : g_S), k6 x2 x4 x5 x6 σ = some (r, σe) → gw X (.inl (some (.int r))) (LM ao aa X.2.2.1 σe) (LM ao aa X.2.2.1 σ) [(0, .ref (ao 0)), (2, .int x2), (4, .int x4), (5, .int x5), (6, .int x6)] 6 []) (x2 : Int32) (x4 : Int32) (x5 : Int32) (x6 : Int32) (σ : g_S) (r : Int32) (σe : g_S) (hf : Mod_isAbove_b6 N k6 x2 x4 x5 x6 σ = some (r, σe)) : gw X (.inl (some (.int r))) (LM ao aa X.2.2.1 σe) (LM ao aa X.2.2.1 σ) [(0, .ref (ao 0)), (2, .int x2), (4, .int x4), (5, .int x5), (6, .int x6)] 6 [] := by
  unfold Mod_isAbove_b6 at hf
  refine gw_iload hC 3 d_Mod_isAbove_6 rfl ?_
  refine gw_iload_n hC 1 d_Mod_isAbove_8 rfl rfl ?_
  refine gw_iconst hC 1 d_Mod_isAbove_9 (by decide) ?_
  refine gw_isub hC d_Mod_isAbove_10 ?_
  refine gw_icmp_ge hC 32 d_Mod_isAbove_11 (by decide) (fun hh => ?_) (fun hh => ?_)
  · rw [if_pos hh] at hf
    exact Mod_isAbove_q32 ao aa hC N N _ _ _ _ _ _ _ hf
  · rw [if_neg hh] at hf
    exact Mod_isAbove_p14 ao aa hC N _ hk6 _ _ _ _ _ _ _ hf
def Mod_isAbove_l6 (N : Nat) : Nat → Int32 → Int32 → Int32 → Int32 → g_S → Option (Int32 × g_S)
  | 0 => fun _ _ _ _ _ => none
  | n + 1 => fun x2 x4 x5 x6 σ => Mod_isAbove_b6 N (Mod_isAbove_l6 N n) x2 x4 x5 x6 σ
theorem Mod_isAbove_q6 (ao aa : Nat → Nat) {X : g_X} (hC : gC X c_Mod_isAbove R_Mod 0 0 7 (some .boolean)) (N : Nat) (n : Nat) : ∀ (x2 : Int32) (x4 : Int32) (x5 : Int32) (x6 : Int32) (σ : g_S) (r : Int32) (σe : g_S), Mod_isAbove_l6 N n x2 x4 x5 x6 σ = some (r, σe) → gw X (.inl (some (.int r))) (LM ao aa X.2.2.1 σe) (LM ao aa X.2.2.1 σ) [(0, .ref (ao 0)), (2, .int x2), (4, .int x4), (5, .int x5), (6, .int x6)] 6 [] := by
  induction n with
  | zero => intro x2 x4 x5 x6 σ r σe hf; cases hf
  | succ n ih => intro x2 x4 x5 x6 σ r σe hf; exact Mod_isAbove_p6 ao aa hC N _ (fun x2 x4 x5 x6 σ r2 σ2 h2 => ih x2 x4 x5 x6 σ r2 σ2 h2) x2 x4 x5 x6 σ r σe hf
def Mod_isAbove_b0 (N : Nat) (x1 : Int32) (x2 : Int32) (x3 : Int32) (x4 : Int32) (σ : g_S) : Option (Int32 × g_S) := Mod_isAbove_l6 N N x2 x4 x1 x3 σ
theorem Mod_isAbove_p0 (ao aa : Nat → Nat) {X : g_X} (hC : gC X c_Mod_isAbove R_Mod 0 0 7 (some .boolean)) (N : Nat) (x1 : Int32) (x2 : Int32) (x3 : Int32) (x4 : Int32) (σ : g_S) (r : Int32) (σe : g_S) (hf : Mod_isAbove_b0 N x1 x2 x3 x4 σ = some (r, σe)) : gw X (.inl (some (.int r))) (LM ao aa X.2.2.1 σe) (LM ao aa X.2.2.1 σ) [(0, .ref (ao 0)), (1, .int x1), (2, .int x2), (3, .int x3), (4, .int x4)] 0 [] := by
  unfold Mod_isAbove_b0 at hf
  refine gw_iload_n hC 1 d_Mod_isAbove_0 rfl rfl ?_
  refine gw_istore hC [(5, .int x1), (0, .ref (ao 0)), (1, .int x1), (2, .int x2), (3, .int x3), (4, .int x4)] d_Mod_isAbove_1 (by decide) rfl ?_
  refine gw_iload_n hC 4 d_Mod_isAbove_3 rfl rfl ?_
  refine gw_istore hC [(6, .int x3), (5, .int x1), (0, .ref (ao 0)), (1, .int x1), (2, .int x2), (3, .int x3), (4, .int x4)] d_Mod_isAbove_4 (by decide) rfl ?_
  refine gw_lv [2, 4, 6, 1, 0] rfl ?_
  exact Mod_isAbove_q6 ao aa hC N N _ _ _ _ _ _ _ hf
def Mod_isAbove (N : Nat) (x1 : Int32) (x2 : Int32) (x3 : Int32) (x4 : Int32) (σ : g_S) : Option (Int32 × g_S) := Mod_isAbove_b0 N x1 x2 x3 x4 σ
theorem Mod_isAbove_m (l : Launch) (D : va_G) (cA : ClassId) (ao aa : Nat → Nat) (N : Nat) (x1 : Int32) (x2 : Int32) (x3 : Int32) (x4 : Int32) (σ : g_S) (r : Int32) (σe : g_S) (hf : Mod_isAbove N x1 x2 x3 x4 σ = some (r, σe)) : Mt l D cA y_Mod_isAbove c_Mod_isAbove 7 (some .boolean) 0 0 [.ref (ao 0), .int x1, .int x2, .int x3, .int x4] (LM ao aa cA σ) (some (.int r)) (LM ao aa cA σe) := by
  refine g_met (by decide +kernel) (by simp [lg_sl, Value.category]) (fun X e1 e2 e3 hC => ?_)
  subst e1 e2 e3
  refine gw_lv [0, 1, 2, 3, 4] rfl ?_
  exact Mod_isAbove_p0 ao aa hC N _ _ _ _ _ (r) _ hf
def Mod_number_b88 (N : Nat) (x1 : Int32) (σ : g_S) : Option (Int32 × g_S) := some (x1, σ)
theorem Mod_number_p88 (ao aa : Nat → Nat) {X : g_X} (hC : gC X c_Mod_number R_Mod 2 42 2 (some .int)) (N : Nat) (x1 : Int32) (σ : g_S) (r : Int32) (σe : g_S) (hf : Mod_number_b88 N x1 σ = some (r, σe)) : gw X (.inl (some (.int r))) (LM ao aa X.2.2.1 σe) (LM ao aa X.2.2.1 σ) [(0, .ref (ao 0)), (1, .int x1)] 88 [] := by
  unfold Mod_number_b88 at hf
  refine gw_iload_n hC 1 d_Mod_number_88 rfl rfl ?_
  cases hf
  exact gw_iret hC d_Mod_number_89
def Mod_number_b74 (N : Nat) (k39 : Int32 → g_S → Option (Int32 × g_S)) (s0 : Int32) (σ : g_S) : Option (Int32 × g_S) := k39 s0 (gF σ 11 ((σ.1 11) + 1))
theorem Mod_number_p74 (ao aa : Nat → Nat) {X : g_X} (hC : gC X c_Mod_number R_Mod 2 42 2 (some .int)) (N : Nat) (k39 : Int32 → g_S → Option (Int32 × g_S)) (hk39 : ∀ (x1 : Int32) (σ : g_S) (r : Int32) (σe : g_S), k39 x1 σ = some (r, σe) → gw X (.inl (some (.int r))) (LM ao aa X.2.2.1 σe) (LM ao aa X.2.2.1 σ) [(0, .ref (ao 0)), (1, .int x1)] 39 []) (s0 : Int32) (σ : g_S) (r : Int32) (σe : g_S) (hf : Mod_number_b74 N k39 s0 σ = some (r, σe)) : gw X (.inl (some (.int r))) (LM ao aa X.2.2.1 σe) (LM ao aa X.2.2.1 σ) [(0, .ref (ao 0))] 74 [.int s0] := by
  unfold Mod_number_b74 at hf
  refine gw_istore_n hC [(1, .int s0), (0, .ref (ao 0))] d_Mod_number_74 rfl (by decide) rfl ?_
  refine gw_aload_n hC 1 d_Mod_number_75 rfl rfl ?_
  refine gw_dup hC d_Mod_number_76 rfl ?_
  refine Mg11 hC kf_Mod_129 d_Mod_number_77 (σ.1 11) rfl ?_
  refine gw_iconst hC 1 d_Mod_number_80 (by decide) ?_
  refine gw_iadd hC d_Mod_number_81 ?_
  refine Mp11 hC kf_Mod_129 d_Mod_number_82 ?_
  refine gw_goto hC 39 d_Mod_number_85 (by decide) ?_
  refine gw_lv [1, 0] rfl ?_
  exact hk39 _ _ _ _ hf
def Mod_number_b61 (N : Nat) (k39 : Int32 → g_S → Option (Int32 × g_S)) (x1 : Int32) (σ : g_S) : Option (Int32 × g_S) := (Mod_see N 0 σ).bind fun q67 => Mod_number_b74 N k39 (((10 * x1) + q67.1) - 48) q67.2
theorem Mod_number_p61 (ao aa : Nat → Nat) {X : g_X} (hC : gC X c_Mod_number R_Mod 2 42 2 (some .int)) (N : Nat) (k39 : Int32 → g_S → Option (Int32 × g_S)) (hk39 : ∀ (x1 : Int32) (σ : g_S) (r : Int32) (σe : g_S), k39 x1 σ = some (r, σe) → gw X (.inl (some (.int r))) (LM ao aa X.2.2.1 σe) (LM ao aa X.2.2.1 σ) [(0, .ref (ao 0)), (1, .int x1)] 39 []) (x1 : Int32) (σ : g_S) (r : Int32) (σe : g_S) (hf : Mod_number_b61 N k39 x1 σ = some (r, σe)) : gw X (.inl (some (.int r))) (LM ao aa X.2.2.1 σe) (LM ao aa X.2.2.1 σ) [(0, .ref (ao 0)), (1, .int x1)] 61 [] := by
  unfold Mod_number_b61 at hf
  refine gw_bipush hC 10 d_Mod_number_61 (by decide) ?_
  refine gw_iload_n hC 1 d_Mod_number_63 rfl rfl ?_
  refine gw_imul hC d_Mod_number_64 ?_
  refine gw_aload_n hC 0 d_Mod_number_65 rfl rfl ?_
  refine gw_iconst hC 0 d_Mod_number_66 (by decide) ?_
  obtain ⟨q67, hq67, hf⟩ := g_bind hf
  refine gw_callV hC [.int 0] [.int (10 * x1)] (Mod_see_m _ _ _ ao aa N _ _ _ _ hq67) kc_Mod_158 0 (g_lay_obj rfl) rfl rfl ⟨by decide, by decide⟩ (Nat.le_of_ble_eq_true rfl) [.int 0, .ref (ao 0), .int (10 * x1)] [.int q67.1, .int (10 * x1)] rfl rfl d_Mod_number_67 ?_
  refine gw_iadd hC d_Mod_number_70 ?_
  refine gw_bipush hC 48 d_Mod_number_71 (by decide) ?_
  refine gw_isub hC d_Mod_number_73 ?_
  refine gw_lv [0] rfl ?_
  exact Mod_number_p74 ao aa hC N _ hk39 _ _ _ _ hf
def Mod_number_b57 (N : Nat) (k39 : Int32 → g_S → Option (Int32 × g_S)) (x1 : Int32) (σ : g_S) : Option (Int32 × g_S) := Mod_number_b74 N k39 x1 σ
theorem Mod_number_p57 (ao aa : Nat → Nat) {X : g_X} (hC : gC X c_Mod_number R_Mod 2 42 2 (some .int)) (N : Nat) (k39 : Int32 → g_S → Option (Int32 × g_S)) (hk39 : ∀ (x1 : Int32) (σ : g_S) (r : Int32) (σe : g_S), k39 x1 σ = some (r, σe) → gw X (.inl (some (.int r))) (LM ao aa X.2.2.1 σe) (LM ao aa X.2.2.1 σ) [(0, .ref (ao 0)), (1, .int x1)] 39 []) (x1 : Int32) (σ : g_S) (r : Int32) (σe : g_S) (hf : Mod_number_b57 N k39 x1 σ = some (r, σe)) : gw X (.inl (some (.int r))) (LM ao aa X.2.2.1 σe) (LM ao aa X.2.2.1 σ) [(0, .ref (ao 0)), (1, .int x1)] 57 [] := by
  unfold Mod_number_b57 at hf
  refine gw_iload_n hC 1 d_Mod_number_57 rfl rfl ?_
  refine gw_goto hC 74 d_Mod_number_58 (by decide) ?_
  refine gw_lv [0] rfl ?_
  exact Mod_number_p74 ao aa hC N _ hk39 _ _ _ _ hf
def Mod_number_b50 (N : Nat) (k39 : Int32 → g_S → Option (Int32 × g_S)) (x1 : Int32) (σ : g_S) : Option (Int32 × g_S) := if x1 ≤ 10000 then Mod_number_b61 N k39 x1 σ else Mod_number_b57 N k39 x1 σ
theorem Mod_number_p50 (ao aa : Nat → Nat) {X : g_X} (hC : gC X c_Mod_number R_Mod 2 42 2 (some .int)) (N : Nat) (k39 : Int32 → g_S → Option (Int32 × g_S)) (hk39 : ∀ (x1 : Int32) (σ : g_S) (r : Int32) (σe : g_S), k39 x1 σ = some (r, σe) → gw X (.inl (some (.int r))) (LM ao aa X.2.2.1 σe) (LM ao aa X.2.2.1 σ) [(0, .ref (ao 0)), (1, .int x1)] 39 []) (x1 : Int32) (σ : g_S) (r : Int32) (σe : g_S) (hf : Mod_number_b50 N k39 x1 σ = some (r, σe)) : gw X (.inl (some (.int r))) (LM ao aa X.2.2.1 σe) (LM ao aa X.2.2.1 σ) [(0, .ref (ao 0)), (1, .int x1)] 50 [] := by
  unfold Mod_number_b50 at hf
  refine gw_iload_n hC 1 d_Mod_number_50 rfl rfl ?_
  refine gw_sipush hC 10000 d_Mod_number_51 (by decide) ?_
  refine gw_icmp_le hC 61 d_Mod_number_54 (by decide) (fun hh => ?_) (fun hh => ?_)
  · rw [if_pos hh] at hf
    exact Mod_number_p61 ao aa hC N _ hk39 _ _ _ _ hf
  · rw [if_neg hh] at hf
    exact Mod_number_p57 ao aa hC N _ hk39 _ _ _ _ hf
def Mod_number_b39 (N : Nat) (k39 : Int32 → g_S → Option (Int32 × g_S)) (x1 : Int32) (σ : g_S) : Option (Int32 × g_S) := (Mod_see N 0 σ).bind fun q41 => (Mod_isDigit N q41.1 q41.2).bind fun q44 => if q44.1 = 0 then Mod_number_b88 N x1 q44.2 else Mod_number_b50 N k39 x1 q44.2
theorem Mod_number_p39 (ao aa : Nat → Nat) {X : g_X} (hC : gC X c_Mod_number R_Mod 2 42 2 (some .int)) (N : Nat) (k39 : Int32 → g_S → Option (Int32 × g_S)) (hk39 : ∀ (x1 : Int32) (σ : g_S) (r : Int32) (σe : g_S), k39 x1 σ = some (r, σe) → gw X (.inl (some (.int r))) (LM ao aa X.2.2.1 σe) (LM ao aa X.2.2.1 σ) [(0, .ref (ao 0)), (1, .int x1)] 39 []) (x1 : Int32) (σ : g_S) (r : Int32) (σe : g_S) (hf : Mod_number_b39 N k39 x1 σ = some (r, σe)) : gw X (.inl (some (.int r))) (LM ao aa X.2.2.1 σe) (LM ao aa X.2.2.1 σ) [(0, .ref (ao 0)), (1, .int x1)] 39 [] := by
  unfold Mod_number_b39 at hf
  refine gw_aload_n hC 0 d_Mod_number_39 rfl rfl ?_
  refine gw_iconst hC 0 d_Mod_number_40 (by decide) ?_
  obtain ⟨q41, hq41, hf⟩ := g_bind hf
  refine gw_callV hC [.int 0] [] (Mod_see_m _ _ _ ao aa N _ _ _ _ hq41) kc_Mod_158 0 (g_lay_obj rfl) rfl rfl ⟨by decide, by decide⟩ (Nat.le_of_ble_eq_true rfl) [.int 0, .ref (ao 0)] [.int q41.1] rfl rfl d_Mod_number_41 ?_
  obtain ⟨q44, hq44, hf⟩ := g_bind hf
  refine gw_callS hC [.int q41.1] [] (Mod_isDigit_m _ _ _ ao aa N _ _ _ _ hq44) kc_Mod_116 ⟨by decide, by decide⟩ (Nat.le_of_ble_eq_true rfl) [.int q41.1] [.int q44.1] rfl rfl d_Mod_number_44 ?_
  refine gw_if_eq hC 88 d_Mod_number_47 (by decide) (fun hh => ?_) (fun hh => ?_)
  · rw [if_pos hh] at hf
    exact Mod_number_p88 ao aa hC N _ _ _ _ hf
  · rw [if_neg hh] at hf
    exact Mod_number_p50 ao aa hC N _ hk39 _ _ _ _ hf
def Mod_number_l39 (N : Nat) : Nat → Int32 → g_S → Option (Int32 × g_S)
  | 0 => fun _ _ => none
  | n + 1 => fun x1 σ => Mod_number_b39 N (Mod_number_l39 N n) x1 σ
theorem Mod_number_q39 (ao aa : Nat → Nat) {X : g_X} (hC : gC X c_Mod_number R_Mod 2 42 2 (some .int)) (N : Nat) (n : Nat) : ∀ (x1 : Int32) (σ : g_S) (r : Int32) (σe : g_S), Mod_number_l39 N n x1 σ = some (r, σe) → gw X (.inl (some (.int r))) (LM ao aa X.2.2.1 σe) (LM ao aa X.2.2.1 σ) [(0, .ref (ao 0)), (1, .int x1)] 39 [] := by
  induction n with
  | zero => intro x1 σ r σe hf; cases hf
  | succ n ih => intro x1 σ r σe hf; exact Mod_number_p39 ao aa hC N _ (fun x1 σ r2 σ2 h2 => ih x1 σ r2 σ2 h2) x1 σ r σe hf
def Mod_number_b36 (N : Nat) (x1 : Int32) (s1 : Int32) (σ : g_S) : Option (Int32 × g_S) := (Mod_fail N s1 σ).bind fun q36 => Mod_number_l39 N N x1 q36.2
theorem Mod_number_p36 (ao aa : Nat → Nat) {X : g_X} (hC : gC X c_Mod_number R_Mod 2 42 2 (some .int)) (N : Nat) (x1 : Int32) (s1 : Int32) (σ : g_S) (r : Int32) (σe : g_S) (hf : Mod_number_b36 N x1 s1 σ = some (r, σe)) : gw X (.inl (some (.int r))) (LM ao aa X.2.2.1 σe) (LM ao aa X.2.2.1 σ) [(0, .ref (ao 0)), (1, .int x1)] 36 [.int s1, .ref (ao 0)] := by
  unfold Mod_number_b36 at hf
  obtain ⟨q36, hq36, hf⟩ := g_bind hf
  refine gw_callV hC [.int s1] [] (Mod_fail_m _ _ _ ao aa N _ _ _ _ hq36) kc_Mod_165 0 (g_lay_obj rfl) rfl rfl ⟨by decide, by decide⟩ (Nat.le_of_ble_eq_true rfl) [.int s1, .ref (ao 0)] [] rfl rfl d_Mod_number_36 ?_
  exact Mod_number_q39 ao aa hC N N _ _ _ _ hf
def Mod_number_b32 (N : Nat) (x1 : Int32) (σ : g_S) : Option (Int32 × g_S) := Mod_number_b36 N x1 (σ.1 2) σ
theorem Mod_number_p32 (ao aa : Nat → Nat) {X : g_X} (hC : gC X c_Mod_number R_Mod 2 42 2 (some .int)) (N : Nat) (x1 : Int32) (σ : g_S) (r : Int32) (σe : g_S) (hf : Mod_number_b32 N x1 σ = some (r, σe)) : gw X (.inl (some (.int r))) (LM ao aa X.2.2.1 σe) (LM ao aa X.2.2.1 σ) [(0, .ref (ao 0)), (1, .int x1)] 32 [.ref (ao 0)] := by
  unfold Mod_number_b32 at hf
  refine gw_aload_n hC 0 d_Mod_number_32 rfl rfl ?_
  refine Mg2 hC kf_Mod_132 d_Mod_number_33 (σ.1 2) rfl ?_
  exact Mod_number_p36 ao aa hC N _ _ _ _ _ hf
def Mod_number_b25 (N : Nat) (x1 : Int32) (σ : g_S) : Option (Int32 × g_S) := Mod_number_b36 N x1 (σ.1 11) σ
theorem Mod_number_p25 (ao aa : Nat → Nat) {X : g_X} (hC : gC X c_Mod_number R_Mod 2 42 2 (some .int)) (N : Nat) (x1 : Int32) (σ : g_S) (r : Int32) (σe : g_S) (hf : Mod_number_b25 N x1 σ = some (r, σe)) : gw X (.inl (some (.int r))) (LM ao aa X.2.2.1 σe) (LM ao aa X.2.2.1 σ) [(0, .ref (ao 0)), (1, .int x1)] 25 [.ref (ao 0)] := by
  unfold Mod_number_b25 at hf
  refine gw_aload_n hC 0 d_Mod_number_25 rfl rfl ?_
  refine Mg11 hC kf_Mod_129 d_Mod_number_26 (σ.1 11) rfl ?_
  refine gw_goto hC 36 d_Mod_number_29 (by decide) ?_
  exact Mod_number_p36 ao aa hC N _ _ _ _ _ hf
def Mod_number_b13 (N : Nat) (x1 : Int32) (σ : g_S) : Option (Int32 × g_S) := if (σ.1 2) ≤ (σ.1 11) then Mod_number_b32 N x1 σ else Mod_number_b25 N x1 σ
theorem Mod_number_p13 (ao aa : Nat → Nat) {X : g_X} (hC : gC X c_Mod_number R_Mod 2 42 2 (some .int)) (N : Nat) (x1 : Int32) (σ : g_S) (r : Int32) (σe : g_S) (hf : Mod_number_b13 N x1 σ = some (r, σe)) : gw X (.inl (some (.int r))) (LM ao aa X.2.2.1 σe) (LM ao aa X.2.2.1 σ) [(0, .ref (ao 0)), (1, .int x1)] 13 [] := by
  unfold Mod_number_b13 at hf
  refine gw_aload_n hC 0 d_Mod_number_13 rfl rfl ?_
  refine gw_aload_n hC 0 d_Mod_number_14 rfl rfl ?_
  refine Mg11 hC kf_Mod_129 d_Mod_number_15 (σ.1 11) rfl ?_
  refine gw_aload_n hC 0 d_Mod_number_18 rfl rfl ?_
  refine Mg2 hC kf_Mod_132 d_Mod_number_19 (σ.1 2) rfl ?_
  refine gw_icmp_ge hC 32 d_Mod_number_22 (by decide) (fun hh => ?_) (fun hh => ?_)
  · rw [if_pos hh] at hf
    exact Mod_number_p32 ao aa hC N _ _ _ _ hf
  · rw [if_neg hh] at hf
    exact Mod_number_p25 ao aa hC N _ _ _ _ hf
def Mod_number_b0 (N : Nat) (σ : g_S) : Option (Int32 × g_S) := (Mod_see N 0 σ).bind fun q4 => (Mod_isDigit N q4.1 q4.2).bind fun q7 => if q7.1 = 0 then Mod_number_b13 N 0 q7.2 else Mod_number_l39 N N 0 q7.2
theorem Mod_number_p0 (ao aa : Nat → Nat) {X : g_X} (hC : gC X c_Mod_number R_Mod 2 42 2 (some .int)) (N : Nat) (σ : g_S) (r : Int32) (σe : g_S) (hf : Mod_number_b0 N σ = some (r, σe)) : gw X (.inl (some (.int r))) (LM ao aa X.2.2.1 σe) (LM ao aa X.2.2.1 σ) [(0, .ref (ao 0))] 0 [] := by
  unfold Mod_number_b0 at hf
  refine gw_iconst hC 0 d_Mod_number_0 (by decide) ?_
  refine gw_istore_n hC [(1, .int 0), (0, .ref (ao 0))] d_Mod_number_1 rfl (by decide) rfl ?_
  refine gw_aload_n hC 1 d_Mod_number_2 rfl rfl ?_
  refine gw_iconst hC 0 d_Mod_number_3 (by decide) ?_
  obtain ⟨q4, hq4, hf⟩ := g_bind hf
  refine gw_callV hC [.int 0] [] (Mod_see_m _ _ _ ao aa N _ _ _ _ hq4) kc_Mod_158 0 (g_lay_obj rfl) rfl rfl ⟨by decide, by decide⟩ (Nat.le_of_ble_eq_true rfl) [.int 0, .ref (ao 0)] [.int q4.1] rfl rfl d_Mod_number_4 ?_
  obtain ⟨q7, hq7, hf⟩ := g_bind hf
  refine gw_callS hC [.int q4.1] [] (Mod_isDigit_m _ _ _ ao aa N _ _ _ _ hq7) kc_Mod_116 ⟨by decide, by decide⟩ (Nat.le_of_ble_eq_true rfl) [.int q4.1] [.int q7.1] rfl rfl d_Mod_number_7 ?_
  refine gw_if_ne hC 39 d_Mod_number_10 (by decide) (fun hh => ?_) (fun hh => ?_)
  · rw [if_neg hh] at hf
    refine gw_lv [1, 0] rfl ?_
    exact Mod_number_q39 ao aa hC N N _ _ _ _ hf
  · rw [if_pos hh] at hf
    refine gw_lv [1, 0] rfl ?_
    exact Mod_number_p13 ao aa hC N _ _ _ _ hf
def Mod_number (N : Nat) (σ : g_S) : Option (Int32 × g_S) := Mod_number_b0 N  σ
theorem Mod_number_m (l : Launch) (D : va_G) (cA : ClassId) (ao aa : Nat → Nat) (N : Nat) (σ : g_S) (r : Int32) (σe : g_S) (hf : Mod_number N σ = some (r, σe)) : Mt l D cA y_Mod_number c_Mod_number 2 (some .int) 2 42 [.ref (ao 0)] (LM ao aa cA σ) (some (.int r)) (LM ao aa cA σe) := by
  refine g_met (by decide +kernel) (by simp [lg_sl, Value.category]) (fun X e1 e2 e3 hC => ?_)
  subst e1 e2 e3
  refine gw_lv [0] rfl ?_
  exact Mod_number_p0 ao aa hC N _ (r) _ hf
