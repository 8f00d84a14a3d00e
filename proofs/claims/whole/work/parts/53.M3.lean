theorem kc_Mod_194 : g_okV R_Mod 194 y_Mod_isAbove c_Mod_isAbove 7 (some .boolean) 4 := ⟨g_mem (List.mem_append_right _ (List.mem_append_right _ (List.mem_append_right _ (List.mem_append_right _ (List.mem_append_left _ (List.mem_of_getElem? (i := 171) rfl)))))) rfl, g_mem (List.mem_append_right _ (List.mem_append_left _ (List.mem_of_getElem? (i := 5) (by decide +kernel)))) rfl, g_mem (List.mem_append_right _ (List.mem_append_right _ (List.mem_append_right _ (List.mem_append_right _ (List.mem_append_left _ (List.mem_of_getElem? (i := 168) (by decide +kernel))))))) rfl, g_mem (List.mem_append_right _ (List.mem_append_right _ (List.mem_append_right _ (List.mem_append_right _ (List.mem_append_left _ (List.mem_of_getElem? (i := 170) (by decide +kernel))))))) rfl, g_mem (List.mem_append_left _ (List.mem_of_getElem? (i := 57) (by decide +kernel))) rfl, by decide +kernel, by decide +kernel, by decide +kernel⟩
theorem kc_Mod_191 : g_okV R_Mod 191 y_Mod_number c_Mod_number 2 (some .int) 0 := ⟨g_mem (List.mem_append_right _ (List.mem_append_right _ (List.mem_append_right _ (List.mem_append_right _ (List.mem_append_left _ (List.mem_of_getElem? (i := 164) rfl)))))) rfl, g_mem (List.mem_append_right _ (List.mem_append_left _ (List.mem_of_getElem? (i := 5) (by decide +kernel)))) rfl, g_mem (List.mem_append_right _ (List.mem_append_right _ (List.mem_append_right _ (List.mem_append_right _ (List.mem_append_left _ (List.mem_of_getElem? (i := 161) (by decide +kernel))))))) rfl, g_mem (List.mem_append_right _ (List.mem_append_right _ (List.mem_append_right _ (List.mem_append_right _ (List.mem_append_left _ (List.mem_of_getElem? (i := 163) (by decide +kernel))))))) rfl, g_mem (List.mem_append_left _ (List.mem_of_getElem? (i := 56) (by decide +kernel))) rfl, by decide +kernel, by decide +kernel, by decide +kernel⟩
theorem kn_Mod_190 : Cond.constant R_Mod 190 1000000 ∈ g_TB := g_mem (List.mem_append_right _ (List.mem_append_right _ (List.mem_append_right _ (List.mem_append_right _ (List.mem_append_left _ (List.mem_of_getElem? (i := 160) (by decide +kernel))))))) rfl
theorem kc_Mod_198 : g_okV R_Mod 198 y_Mod_opens c_Mod_opens 2 none 1 := ⟨g_mem (List.mem_append_right _ (List.mem_append_right _ (List.mem_append_right _ (List.mem_append_right _ (List.mem_append_left _ (List.mem_of_getElem? (i := 123) rfl)))))) rfl, g_mem (List.mem_append_right _ (List.mem_append_left _ (List.mem_of_getElem? (i := 5) (by decide +kernel)))) rfl, g_mem (List.mem_append_right _ (List.mem_append_right _ (List.mem_append_right _ (List.mem_append_right _ (List.mem_append_left _ (List.mem_of_getElem? (i := 120) (by decide +kernel))))))) rfl, g_mem (List.mem_append_right _ (List.mem_append_right _ (List.mem_append_right _ (List.mem_append_right _ (List.mem_append_left _ (List.mem_of_getElem? (i := 122) (by decide +kernel))))))) rfl, g_mem (List.mem_append_left _ (List.mem_of_getElem? (i := 46) (by decide +kernel))) rfl, by decide +kernel, by decide +kernel, by decide +kernel⟩
theorem kc_Mod_201 : g_okV R_Mod 201 y_Mod_quantify c_Mod_quantify 11 none 1 := ⟨g_mem (List.mem_append_right _ (List.mem_append_right _ (List.mem_append_right _ (List.mem_append_right _ (List.mem_append_left _ (List.mem_of_getElem? (i := 159) rfl)))))) rfl, g_mem (List.mem_append_right _ (List.mem_append_left _ (List.mem_of_getElem? (i := 5) (by decide +kernel)))) rfl, g_mem (List.mem_append_right _ (List.mem_append_right _ (List.mem_append_right _ (List.mem_append_right _ (List.mem_append_left _ (List.mem_of_getElem? (i := 156) (by decide +kernel))))))) rfl, g_mem (List.mem_append_right _ (List.mem_append_right _ (List.mem_append_right _ (List.mem_append_right _ (List.mem_append_left _ (List.mem_of_getElem? (i := 158) (by decide +kernel))))))) rfl, g_mem (List.mem_append_left _ (List.mem_of_getElem? (i := 55) (by decide +kernel))) rfl, by decide +kernel, by decide +kernel, by decide +kernel⟩
theorem d_Mod_quantify_0 : decode c_Mod_quantify 0 = .ok (.aload_n 0, 1) := by decide +kernel
theorem d_Mod_quantify_1 : decode c_Mod_quantify 1 = .ok (.iconst 0, 1) := by decide +kernel
theorem d_Mod_quantify_2 : decode c_Mod_quantify 2 = .ok (.invokevirtual 158, 3) := by decide +kernel
theorem d_Mod_quantify_5 : decode c_Mod_quantify 5 = .ok (.istore_n 2, 1) := by decide +kernel
theorem d_Mod_quantify_6 : decode c_Mod_quantify 6 = .ok (.iload_n 1, 1) := by decide +kernel
theorem d_Mod_quantify_7 : decode c_Mod_quantify 7 = .ok (.istore_n 3, 1) := by decide +kernel
theorem d_Mod_quantify_8 : decode c_Mod_quantify 8 = .ok (.aload_n 0, 1) := by decide +kernel
theorem d_Mod_quantify_9 : decode c_Mod_quantify 9 = .ok (.getfield 129, 3) := by decide +kernel
theorem d_Mod_quantify_12 : decode c_Mod_quantify 12 = .ok (.istore 4, 2) := by decide +kernel
theorem d_Mod_quantify_14 : decode c_Mod_quantify 14 = .ok (.iload_n 2, 1) := by decide +kernel
theorem d_Mod_quantify_15 : decode c_Mod_quantify 15 = .ok (.bipush 43, 2) := by decide +kernel
theorem d_Mod_quantify_17 : decode c_Mod_quantify 17 = .ok (.if_icmp .ne 7, 3) := by decide +kernel
theorem d_Mod_quantify_20 : decode c_Mod_quantify 20 = .ok (.iconst 1, 1) := by decide +kernel
theorem d_Mod_quantify_21 : decode c_Mod_quantify 21 = .ok (.goto 4, 3) := by decide +kernel
theorem d_Mod_quantify_24 : decode c_Mod_quantify 24 = .ok (.iconst 0, 1) := by decide +kernel
theorem d_Mod_quantify_25 : decode c_Mod_quantify 25 = .ok (.istore 5, 2) := by decide +kernel
theorem d_Mod_quantify_27 : decode c_Mod_quantify 27 = .ok (.iload_n 2, 1) := by decide +kernel
theorem d_Mod_quantify_28 : decode c_Mod_quantify 28 = .ok (.bipush 63, 2) := by decide +kernel
theorem d_Mod_quantify_30 : decode c_Mod_quantify 30 = .ok (.if_icmp .ne 7, 3) := by decide +kernel
theorem d_Mod_quantify_33 : decode c_Mod_quantify 33 = .ok (.iconst 1, 1) := by decide +kernel
theorem d_Mod_quantify_34 : decode c_Mod_quantify 34 = .ok (.goto 5, 3) := by decide +kernel
theorem d_Mod_quantify_37 : decode c_Mod_quantify 37 = .ok (.ldc 190, 2) := by decide +kernel
theorem d_Mod_quantify_39 : decode c_Mod_quantify 39 = .ok (.istore 6, 2) := by decide +kernel
theorem d_Mod_quantify_41 : decode c_Mod_quantify 41 = .ok (.iload_n 2, 1) := by decide +kernel
theorem d_Mod_quantify_42 : decode c_Mod_quantify 42 = .ok (.bipush 42, 2) := by decide +kernel
theorem d_Mod_quantify_44 : decode c_Mod_quantify 44 = .ok (.if_icmp .eq 21, 3) := by decide +kernel
theorem d_Mod_quantify_47 : decode c_Mod_quantify 47 = .ok (.iload_n 2, 1) := by decide +kernel
theorem d_Mod_quantify_48 : decode c_Mod_quantify 48 = .ok (.bipush 43, 2) := by decide +kernel
theorem d_Mod_quantify_50 : decode c_Mod_quantify 50 = .ok (.if_icmp .eq 15, 3) := by decide +kernel
theorem d_Mod_quantify_53 : decode c_Mod_quantify 53 = .ok (.iload_n 2, 1) := by decide +kernel
theorem d_Mod_quantify_54 : decode c_Mod_quantify 54 = .ok (.bipush 63, 2) := by decide +kernel
theorem d_Mod_quantify_56 : decode c_Mod_quantify 56 = .ok (.if_icmp .eq 9, 3) := by decide +kernel
theorem d_Mod_quantify_59 : decode c_Mod_quantify 59 = .ok (.iload_n 2, 1) := by decide +kernel
theorem d_Mod_quantify_60 : decode c_Mod_quantify 60 = .ok (.bipush 123, 2) := by decide +kernel
theorem d_Mod_quantify_62 : decode c_Mod_quantify 62 = .ok (.if_icmp .ne 7, 3) := by decide +kernel
theorem d_Mod_quantify_65 : decode c_Mod_quantify 65 = .ok (.iconst 1, 1) := by decide +kernel
theorem d_Mod_quantify_66 : decode c_Mod_quantify 66 = .ok (.goto 4, 3) := by decide +kernel
theorem d_Mod_quantify_69 : decode c_Mod_quantify 69 = .ok (.iconst 0, 1) := by decide +kernel
theorem d_Mod_quantify_70 : decode c_Mod_quantify 70 = .ok (.istore 7, 2) := by decide +kernel
theorem d_Mod_quantify_72 : decode c_Mod_quantify 72 = .ok (.iload 7, 2) := by decide +kernel
theorem d_Mod_quantify_74 : decode c_Mod_quantify 74 = .ok (.ifCond .eq 13, 3) := by decide +kernel
theorem d_Mod_quantify_77 : decode c_Mod_quantify 77 = .ok (.aload_n 0, 1) := by decide +kernel
theorem d_Mod_quantify_78 : decode c_Mod_quantify 78 = .ok (.dup, 1) := by decide +kernel
theorem d_Mod_quantify_79 : decode c_Mod_quantify 79 = .ok (.getfield 129, 3) := by decide +kernel
theorem d_Mod_quantify_82 : decode c_Mod_quantify 82 = .ok (.iconst 1, 1) := by decide +kernel
theorem d_Mod_quantify_83 : decode c_Mod_quantify 83 = .ok (.iadd, 1) := by decide +kernel
theorem d_Mod_quantify_84 : decode c_Mod_quantify 84 = .ok (.putfield 129, 3) := by decide +kernel
theorem d_Mod_quantify_87 : decode c_Mod_quantify 87 = .ok (.iload_n 2, 1) := by decide +kernel
theorem d_Mod_quantify_88 : decode c_Mod_quantify 88 = .ok (.bipush 123, 2) := by decide +kernel
theorem d_Mod_quantify_90 : decode c_Mod_quantify 90 = .ok (.if_icmp .ne 174, 3) := by decide +kernel
theorem d_Mod_quantify_93 : decode c_Mod_quantify 93 = .ok (.aload_n 0, 1) := by decide +kernel
theorem d_Mod_quantify_94 : decode c_Mod_quantify 94 = .ok (.getfield 129, 3) := by decide +kernel
theorem d_Mod_quantify_97 : decode c_Mod_quantify 97 = .ok (.istore 8, 2) := by decide +kernel
theorem d_Mod_quantify_99 : decode c_Mod_quantify 99 = .ok (.aload_n 0, 1) := by decide +kernel
theorem d_Mod_quantify_100 : decode c_Mod_quantify 100 = .ok (.invokevirtual 191, 3) := by decide +kernel
theorem d_Mod_quantify_103 : decode c_Mod_quantify 103 = .ok (.istore 5, 2) := by decide +kernel
theorem d_Mod_quantify_105 : decode c_Mod_quantify 105 = .ok (.aload_n 0, 1) := by decide +kernel
theorem d_Mod_quantify_106 : decode c_Mod_quantify 106 = .ok (.getfield 129, 3) := by decide +kernel
theorem d_Mod_quantify_109 : decode c_Mod_quantify 109 = .ok (.istore 9, 2) := by decide +kernel
theorem d_Mod_quantify_111 : decode c_Mod_quantify 111 = .ok (.iload 5, 2) := by decide +kernel
theorem d_Mod_quantify_113 : decode c_Mod_quantify 113 = .ok (.istore 6, 2) := by decide +kernel
theorem d_Mod_quantify_115 : decode c_Mod_quantify 115 = .ok (.aload_n 0, 1) := by decide +kernel
theorem d_Mod_quantify_116 : decode c_Mod_quantify 116 = .ok (.getfield 135, 3) := by decide +kernel
theorem d_Mod_quantify_119 : decode c_Mod_quantify 119 = .ok (.ifCond .ge 99, 3) := by decide +kernel
theorem d_Mod_quantify_122 : decode c_Mod_quantify 122 = .ok (.aload_n 0, 1) := by decide +kernel
theorem d_Mod_quantify_123 : decode c_Mod_quantify 123 = .ok (.iconst 0, 1) := by decide +kernel
theorem d_Mod_quantify_124 : decode c_Mod_quantify 124 = .ok (.invokevirtual 158, 3) := by decide +kernel
theorem d_Mod_quantify_127 : decode c_Mod_quantify 127 = .ok (.bipush 44, 2) := by decide +kernel
theorem d_Mod_quantify_129 : decode c_Mod_quantify 129 = .ok (.if_icmp .ne 89, 3) := by decide +kernel
theorem d_Mod_quantify_132 : decode c_Mod_quantify 132 = .ok (.aload_n 0, 1) := by decide +kernel
theorem d_Mod_quantify_133 : decode c_Mod_quantify 133 = .ok (.dup, 1) := by decide +kernel
theorem d_Mod_quantify_134 : decode c_Mod_quantify 134 = .ok (.getfield 129, 3) := by decide +kernel
theorem d_Mod_quantify_137 : decode c_Mod_quantify 137 = .ok (.iconst 1, 1) := by decide +kernel
theorem d_Mod_quantify_138 : decode c_Mod_quantify 138 = .ok (.iadd, 1) := by decide +kernel
theorem d_Mod_quantify_139 : decode c_Mod_quantify 139 = .ok (.putfield 129, 3) := by decide +kernel
theorem d_Mod_quantify_142 : decode c_Mod_quantify 142 = .ok (.aload_n 0, 1) := by decide +kernel
theorem d_Mod_quantify_143 : decode c_Mod_quantify 143 = .ok (.getfield 129, 3) := by decide +kernel
theorem d_Mod_quantify_146 : decode c_Mod_quantify 146 = .ok (.istore 10, 2) := by decide +kernel
theorem d_Mod_quantify_148 : decode c_Mod_quantify 148 = .ok (.aload_n 0, 1) := by decide +kernel
theorem d_Mod_quantify_149 : decode c_Mod_quantify 149 = .ok (.iconst 0, 1) := by decide +kernel
theorem d_Mod_quantify_150 : decode c_Mod_quantify 150 = .ok (.invokevirtual 158, 3) := by decide +kernel
theorem d_Mod_quantify_153 : decode c_Mod_quantify 153 = .ok (.bipush 125, 2) := by decide +kernel
theorem d_Mod_quantify_155 : decode c_Mod_quantify 155 = .ok (.if_icmp .ne 8, 3) := by decide +kernel
theorem d_Mod_quantify_158 : decode c_Mod_quantify 158 = .ok (.ldc 190, 2) := by decide +kernel
theorem d_Mod_quantify_160 : decode c_Mod_quantify 160 = .ok (.goto 7, 3) := by decide +kernel
theorem d_Mod_quantify_163 : decode c_Mod_quantify 163 = .ok (.aload_n 0, 1) := by decide +kernel
theorem d_Mod_quantify_164 : decode c_Mod_quantify 164 = .ok (.invokevirtual 191, 3) := by decide +kernel
theorem d_Mod_quantify_167 : decode c_Mod_quantify 167 = .ok (.istore 6, 2) := by decide +kernel
theorem d_Mod_quantify_169 : decode c_Mod_quantify 169 = .ok (.aload_n 0, 1) := by decide +kernel
theorem d_Mod_quantify_170 : decode c_Mod_quantify 170 = .ok (.getfield 135, 3) := by decide +kernel
theorem d_Mod_quantify_173 : decode c_Mod_quantify 173 = .ok (.ifCond .ge 45, 3) := by decide +kernel
theorem d_Mod_quantify_176 : decode c_Mod_quantify 176 = .ok (.aload_n 0, 1) := by decide +kernel
theorem d_Mod_quantify_177 : decode c_Mod_quantify 177 = .ok (.iconst 0, 1) := by decide +kernel
theorem d_Mod_quantify_178 : decode c_Mod_quantify 178 = .ok (.invokevirtual 158, 3) := by decide +kernel
theorem d_Mod_quantify_181 : decode c_Mod_quantify 181 = .ok (.bipush 125, 2) := by decide +kernel
theorem d_Mod_quantify_183 : decode c_Mod_quantify 183 = .ok (.if_icmp .ne 35, 3) := by decide +kernel
theorem d_Mod_quantify_186 : decode c_Mod_quantify 186 = .ok (.aload_n 0, 1) := by decide +kernel
theorem d_Mod_quantify_187 : decode c_Mod_quantify 187 = .ok (.getfield 129, 3) := by decide +kernel
theorem d_Mod_quantify_190 : decode c_Mod_quantify 190 = .ok (.iload 10, 2) := by decide +kernel
theorem d_Mod_quantify_192 : decode c_Mod_quantify 192 = .ok (.if_icmp .le 26, 3) := by decide +kernel
theorem d_Mod_quantify_195 : decode c_Mod_quantify 195 = .ok (.aload_n 0, 1) := by decide +kernel
theorem d_Mod_quantify_196 : decode c_Mod_quantify 196 = .ok (.iload 8, 2) := by decide +kernel
theorem d_Mod_quantify_198 : decode c_Mod_quantify 198 = .ok (.iload 9, 2) := by decide +kernel
theorem d_Mod_quantify_200 : decode c_Mod_quantify 200 = .ok (.iload 10, 2) := by decide +kernel
theorem d_Mod_quantify_202 : decode c_Mod_quantify 202 = .ok (.aload_n 0, 1) := by decide +kernel
theorem d_Mod_quantify_203 : decode c_Mod_quantify 203 = .ok (.getfield 129, 3) := by decide +kernel
theorem d_Mod_quantify_206 : decode c_Mod_quantify 206 = .ok (.invokevirtual 194, 3) := by decide +kernel
theorem d_Mod_quantify_209 : decode c_Mod_quantify 209 = .ok (.ifCond .eq 9, 3) := by decide +kernel
theorem d_Mod_quantify_212 : decode c_Mod_quantify 212 = .ok (.aload_n 0, 1) := by decide +kernel
theorem d_Mod_quantify_213 : decode c_Mod_quantify 213 = .ok (.iload 4, 2) := by decide +kernel
theorem d_Mod_quantify_215 : decode c_Mod_quantify 215 = .ok (.invokevirtual 165, 3) := by decide +kernel
theorem d_Mod_quantify_218 : decode c_Mod_quantify 218 = .ok (.aload_n 0, 1) := by decide +kernel
theorem d_Mod_quantify_219 : decode c_Mod_quantify 219 = .ok (.iconst 0, 1) := by decide +kernel
theorem d_Mod_quantify_220 : decode c_Mod_quantify 220 = .ok (.invokevirtual 158, 3) := by decide +kernel
theorem d_Mod_quantify_223 : decode c_Mod_quantify 223 = .ok (.bipush 125, 2) := by decide +kernel
theorem d_Mod_quantify_225 : decode c_Mod_quantify 225 = .ok (.if_icmp .eq 29, 3) := by decide +kernel
theorem d_Mod_quantify_228 : decode c_Mod_quantify 228 = .ok (.aload_n 0, 1) := by decide +kernel
theorem d_Mod_quantify_229 : decode c_Mod_quantify 229 = .ok (.aload_n 0, 1) := by decide +kernel
theorem d_Mod_quantify_230 : decode c_Mod_quantify 230 = .ok (.getfield 129, 3) := by decide +kernel
theorem d_Mod_quantify_233 : decode c_Mod_quantify 233 = .ok (.aload_n 0, 1) := by decide +kernel
theorem d_Mod_quantify_234 : decode c_Mod_quantify 234 = .ok (.getfield 132, 3) := by decide +kernel
theorem d_Mod_quantify_237 : decode c_Mod_quantify 237 = .ok (.if_icmp .ge 10, 3) := by decide +kernel
theorem d_Mod_quantify_240 : decode c_Mod_quantify 240 = .ok (.aload_n 0, 1) := by decide +kernel
theorem d_Mod_quantify_241 : decode c_Mod_quantify 241 = .ok (.getfield 129, 3) := by decide +kernel
theorem d_Mod_quantify_244 : decode c_Mod_quantify 244 = .ok (.goto 7, 3) := by decide +kernel
theorem d_Mod_quantify_247 : decode c_Mod_quantify 247 = .ok (.aload_n 0, 1) := by decide +kernel
theorem d_Mod_quantify_248 : decode c_Mod_quantify 248 = .ok (.getfield 132, 3) := by decide +kernel
theorem d_Mod_quantify_251 : decode c_Mod_quantify 251 = .ok (.invokevirtual 165, 3) := by decide +kernel
theorem d_Mod_quantify_254 : decode c_Mod_quantify 254 = .ok (.aload_n 0, 1) := by decide +kernel
theorem d_Mod_quantify_255 : decode c_Mod_quantify 255 = .ok (.dup, 1) := by decide +kernel
theorem d_Mod_quantify_256 : decode c_Mod_quantify 256 = .ok (.getfield 129, 3) := by decide +kernel
theorem d_Mod_quantify_259 : decode c_Mod_quantify 259 = .ok (.iconst 1, 1) := by decide +kernel
theorem d_Mod_quantify_260 : decode c_Mod_quantify 260 = .ok (.iadd, 1) := by decide +kernel
theorem d_Mod_quantify_261 : decode c_Mod_quantify 261 = .ok (.putfield 129, 3) := by decide +kernel
theorem d_Mod_quantify_264 : decode c_Mod_quantify 264 = .ok (.iload 7, 2) := by decide +kernel
theorem d_Mod_quantify_266 : decode c_Mod_quantify 266 = .ok (.ifCond .eq 84, 3) := by decide +kernel
theorem d_Mod_quantify_269 : decode c_Mod_quantify 269 = .ok (.aload_n 0, 1) := by decide +kernel
theorem d_Mod_quantify_270 : decode c_Mod_quantify 270 = .ok (.iconst 0, 1) := by decide +kernel
theorem d_Mod_quantify_271 : decode c_Mod_quantify 271 = .ok (.invokevirtual 158, 3) := by decide +kernel
theorem d_Mod_quantify_274 : decode c_Mod_quantify 274 = .ok (.bipush 63, 2) := by decide +kernel
theorem d_Mod_quantify_276 : decode c_Mod_quantify 276 = .ok (.if_icmp .ne 7, 3) := by decide +kernel
theorem d_Mod_quantify_279 : decode c_Mod_quantify 279 = .ok (.iconst 1, 1) := by decide +kernel
theorem d_Mod_quantify_280 : decode c_Mod_quantify 280 = .ok (.goto 4, 3) := by decide +kernel
theorem d_Mod_quantify_283 : decode c_Mod_quantify 283 = .ok (.iconst 0, 1) := by decide +kernel
theorem d_Mod_quantify_284 : decode c_Mod_quantify 284 = .ok (.istore 8, 2) := by decide +kernel
theorem d_Mod_quantify_286 : decode c_Mod_quantify 286 = .ok (.iload 8, 2) := by decide +kernel
theorem d_Mod_quantify_288 : decode c_Mod_quantify 288 = .ok (.ifCond .eq 13, 3) := by decide +kernel
theorem d_Mod_quantify_291 : decode c_Mod_quantify 291 = .ok (.aload_n 0, 1) := by decide +kernel
theorem d_Mod_quantify_292 : decode c_Mod_quantify 292 = .ok (.dup, 1) := by decide +kernel
theorem d_Mod_quantify_293 : decode c_Mod_quantify 293 = .ok (.getfield 129, 3) := by decide +kernel
theorem d_Mod_quantify_296 : decode c_Mod_quantify 296 = .ok (.iconst 1, 1) := by decide +kernel
theorem d_Mod_quantify_297 : decode c_Mod_quantify 297 = .ok (.iadd, 1) := by decide +kernel
theorem d_Mod_quantify_298 : decode c_Mod_quantify 298 = .ok (.putfield 129, 3) := by decide +kernel
theorem d_Mod_quantify_301 : decode c_Mod_quantify 301 = .ok (.aload_n 0, 1) := by decide +kernel
theorem d_Mod_quantify_302 : decode c_Mod_quantify 302 = .ok (.bipush 16, 2) := by decide +kernel
theorem d_Mod_quantify_304 : decode c_Mod_quantify 304 = .ok (.iload 5, 2) := by decide +kernel
theorem d_Mod_quantify_306 : decode c_Mod_quantify 306 = .ok (.iload 6, 2) := by decide +kernel
theorem d_Mod_quantify_308 : decode c_Mod_quantify 308 = .ok (.iload 8, 2) := by decide +kernel
theorem d_Mod_quantify_310 : decode c_Mod_quantify 310 = .ok (.ifCond .eq 7, 3) := by decide +kernel
theorem d_Mod_quantify_313 : decode c_Mod_quantify 313 = .ok (.iconst 1, 1) := by decide +kernel
theorem d_Mod_quantify_314 : decode c_Mod_quantify 314 = .ok (.goto 4, 3) := by decide +kernel
theorem d_Mod_quantify_317 : decode c_Mod_quantify 317 = .ok (.iconst 0, 1) := by decide +kernel
theorem d_Mod_quantify_318 : decode c_Mod_quantify 318 = .ok (.invokevirtual 147, 3) := by decide +kernel
theorem d_Mod_quantify_321 : decode c_Mod_quantify 321 = .ok (.istore_n 3, 1) := by decide +kernel
theorem d_Mod_quantify_322 : decode c_Mod_quantify 322 = .ok (.aload_n 0, 1) := by decide +kernel
theorem d_Mod_quantify_323 : decode c_Mod_quantify 323 = .ok (.getfield 44, 3) := by decide +kernel
theorem d_Mod_quantify_326 : decode c_Mod_quantify 326 = .ok (.iload_n 3, 1) := by decide +kernel
theorem d_Mod_quantify_327 : decode c_Mod_quantify 327 = .ok (.aload_n 0, 1) := by decide +kernel
theorem d_Mod_quantify_328 : decode c_Mod_quantify 328 = .ok (.getfield 44, 3) := by decide +kernel
theorem d_Mod_quantify_331 : decode c_Mod_quantify 331 = .ok (.iload_n 1, 1) := by decide +kernel
theorem d_Mod_quantify_332 : decode c_Mod_quantify 332 = .ok (.iaload, 1) := by decide +kernel
theorem d_Mod_quantify_333 : decode c_Mod_quantify 333 = .ok (.iastore, 1) := by decide +kernel
theorem d_Mod_quantify_334 : decode c_Mod_quantify 334 = .ok (.aload_n 0, 1) := by decide +kernel
theorem d_Mod_quantify_335 : decode c_Mod_quantify 335 = .ok (.getfield 47, 3) := by decide +kernel
theorem d_Mod_quantify_338 : decode c_Mod_quantify 338 = .ok (.iload_n 3, 1) := by decide +kernel
theorem d_Mod_quantify_339 : decode c_Mod_quantify 339 = .ok (.aload_n 0, 1) := by decide +kernel
theorem d_Mod_quantify_340 : decode c_Mod_quantify 340 = .ok (.getfield 141, 3) := by decide +kernel
theorem d_Mod_quantify_343 : decode c_Mod_quantify 343 = .ok (.iastore, 1) := by decide +kernel
theorem d_Mod_quantify_344 : decode c_Mod_quantify 344 = .ok (.aload_n 0, 1) := by decide +kernel
theorem d_Mod_quantify_345 : decode c_Mod_quantify 345 = .ok (.iload_n 3, 1) := by decide +kernel
theorem d_Mod_quantify_346 : decode c_Mod_quantify 346 = .ok (.iload_n 1, 1) := by decide +kernel
theorem d_Mod_quantify_347 : decode c_Mod_quantify 347 = .ok (.invokevirtual 151, 3) := by decide +kernel
theorem d_Mod_quantify_350 : decode c_Mod_quantify 350 = .ok (.aload_n 0, 1) := by decide +kernel
theorem d_Mod_quantify_351 : decode c_Mod_quantify 351 = .ok (.getfield 135, 3) := by decide +kernel
theorem d_Mod_quantify_354 : decode c_Mod_quantify 354 = .ok (.ifCond .ge 17, 3) := by decide +kernel
theorem d_Mod_quantify_357 : decode c_Mod_quantify 357 = .ok (.aload_n 0, 1) := by decide +kernel
theorem d_Mod_quantify_358 : decode c_Mod_quantify 358 = .ok (.aload_n 0, 1) := by decide +kernel
theorem d_Mod_quantify_359 : decode c_Mod_quantify 359 = .ok (.getfield 62, 3) := by decide +kernel
theorem d_Mod_quantify_362 : decode c_Mod_quantify 362 = .ok (.aload_n 0, 1) := by decide +kernel
theorem d_Mod_quantify_363 : decode c_Mod_quantify 363 = .ok (.getfield 144, 3) := by decide +kernel
theorem d_Mod_quantify_366 : decode c_Mod_quantify 366 = .ok (.iaload, 1) := by decide +kernel
theorem d_Mod_quantify_367 : decode c_Mod_quantify 367 = .ok (.iload_n 3, 1) := by decide +kernel
theorem d_Mod_quantify_368 : decode c_Mod_quantify 368 = .ok (.invokevirtual 151, 3) := by decide +kernel
theorem d_Mod_quantify_371 : decode c_Mod_quantify 371 = .ok (.return_, 1) := by decide +kernel
theorem d_Mod_openGroup_0 : decode c_Mod_openGroup 0 = .ok (.bipush 12, 2) := by decide +kernel
theorem d_Mod_openGroup_2 : decode c_Mod_openGroup 2 = .ok (.istore_n 1, 1) := by decide +kernel
theorem d_Mod_openGroup_3 : decode c_Mod_openGroup 3 = .ok (.aload_n 0, 1) := by decide +kernel
theorem d_Mod_openGroup_4 : decode c_Mod_openGroup 4 = .ok (.getfield 144, 3) := by decide +kernel
theorem d_Mod_openGroup_7 : decode c_Mod_openGroup 7 = .ok (.bipush 40, 2) := by decide +kernel
theorem d_Mod_openGroup_9 : decode c_Mod_openGroup 9 = .ok (.if_icmp .ne 11, 3) := by decide +kernel
theorem d_Mod_openGroup_12 : decode c_Mod_openGroup 12 = .ok (.aload_n 0, 1) := by decide +kernel
theorem d_Mod_openGroup_13 : decode c_Mod_openGroup 13 = .ok (.aload_n 0, 1) := by decide +kernel
theorem d_Mod_openGroup_14 : decode c_Mod_openGroup 14 = .ok (.getfield 129, 3) := by decide +kernel
theorem d_Mod_openGroup_17 : decode c_Mod_openGroup 17 = .ok (.invokevirtual 165, 3) := by decide +kernel
theorem d_Mod_openGroup_20 : decode c_Mod_openGroup 20 = .ok (.aload_n 0, 1) := by decide +kernel
theorem d_Mod_openGroup_21 : decode c_Mod_openGroup 21 = .ok (.iconst 1, 1) := by decide +kernel
theorem d_Mod_openGroup_22 : decode c_Mod_openGroup 22 = .ok (.invokevirtual 158, 3) := by decide +kernel
theorem d_Mod_openGroup_25 : decode c_Mod_openGroup 25 = .ok (.bipush 63, 2) := by decide +kernel
theorem d_Mod_openGroup_27 : decode c_Mod_openGroup 27 = .ok (.if_icmp .ne 85, 3) := by decide +kernel
theorem d_Mod_openGroup_30 : decode c_Mod_openGroup 30 = .ok (.aload_n 0, 1) := by decide +kernel
theorem d_Mod_openGroup_31 : decode c_Mod_openGroup 31 = .ok (.iconst 2, 1) := by decide +kernel
theorem d_Mod_openGroup_32 : decode c_Mod_openGroup 32 = .ok (.invokevirtual 158, 3) := by decide +kernel
theorem d_Mod_openGroup_35 : decode c_Mod_openGroup 35 = .ok (.istore_n 2, 1) := by decide +kernel
theorem d_Mod_openGroup_36 : decode c_Mod_openGroup 36 = .ok (.iload_n 2, 1) := by decide +kernel
theorem d_Mod_openGroup_37 : decode c_Mod_openGroup 37 = .ok (.bipush 58, 2) := by decide +kernel
theorem d_Mod_openGroup_39 : decode c_Mod_openGroup 39 = .ok (.if_icmp .ne 8, 3) := by decide +kernel
theorem d_Mod_openGroup_42 : decode c_Mod_openGroup 42 = .ok (.bipush 13, 2) := by decide +kernel
theorem d_Mod_openGroup_44 : decode c_Mod_openGroup 44 = .ok (.goto 16, 3) := by decide +kernel
theorem d_Mod_openGroup_47 : decode c_Mod_openGroup 47 = .ok (.iload_n 2, 1) := by decide +kernel
theorem d_Mod_openGroup_48 : decode c_Mod_openGroup 48 = .ok (.bipush 61, 2) := by decide +kernel
theorem d_Mod_openGroup_50 : decode c_Mod_openGroup 50 = .ok (.if_icmp .ne 8, 3) := by decide +kernel
theorem d_Mod_openGroup_53 : decode c_Mod_openGroup 53 = .ok (.bipush 14, 2) := by decide +kernel
theorem d_Mod_openGroup_55 : decode c_Mod_openGroup 55 = .ok (.goto 5, 3) := by decide +kernel
theorem d_Mod_openGroup_58 : decode c_Mod_openGroup 58 = .ok (.bipush 15, 2) := by decide +kernel
theorem d_Mod_openGroup_60 : decode c_Mod_openGroup 60 = .ok (.istore_n 1, 1) := by decide +kernel
theorem d_Mod_openGroup_61 : decode c_Mod_openGroup 61 = .ok (.iload_n 2, 1) := by decide +kernel
theorem d_Mod_openGroup_62 : decode c_Mod_openGroup 62 = .ok (.bipush 58, 2) := by decide +kernel
theorem d_Mod_openGroup_64 : decode c_Mod_openGroup 64 = .ok (.if_icmp .eq 45, 3) := by decide +kernel
theorem d_Mod_openGroup_67 : decode c_Mod_openGroup 67 = .ok (.iload_n 2, 1) := by decide +kernel
theorem d_Mod_openGroup_68 : decode c_Mod_openGroup 68 = .ok (.bipush 61, 2) := by decide +kernel
theorem d_Mod_openGroup_70 : decode c_Mod_openGroup 70 = .ok (.if_icmp .eq 39, 3) := by decide +kernel
theorem d_Mod_openGroup_73 : decode c_Mod_openGroup 73 = .ok (.iload_n 2, 1) := by decide +kernel
theorem d_Mod_openGroup_74 : decode c_Mod_openGroup 74 = .ok (.bipush 33, 2) := by decide +kernel
theorem d_Mod_openGroup_76 : decode c_Mod_openGroup 76 = .ok (.if_icmp .eq 33, 3) := by decide +kernel
theorem d_Mod_openGroup_79 : decode c_Mod_openGroup 79 = .ok (.aload_n 0, 1) := by decide +kernel
theorem d_Mod_openGroup_80 : decode c_Mod_openGroup 80 = .ok (.aload_n 0, 1) := by decide +kernel
theorem d_Mod_openGroup_81 : decode c_Mod_openGroup 81 = .ok (.getfield 129, 3) := by decide +kernel
theorem d_Mod_openGroup_84 : decode c_Mod_openGroup 84 = .ok (.iconst 2, 1) := by decide +kernel
theorem d_Mod_openGroup_85 : decode c_Mod_openGroup 85 = .ok (.iadd, 1) := by decide +kernel
theorem d_Mod_openGroup_86 : decode c_Mod_openGroup 86 = .ok (.aload_n 0, 1) := by decide +kernel
theorem d_Mod_openGroup_87 : decode c_Mod_openGroup 87 = .ok (.getfield 132, 3) := by decide +kernel
theorem d_Mod_openGroup_90 : decode c_Mod_openGroup 90 = .ok (.if_icmp .ge 12, 3) := by decide +kernel
theorem d_Mod_openGroup_93 : decode c_Mod_openGroup 93 = .ok (.aload_n 0, 1) := by decide +kernel
theorem d_Mod_openGroup_94 : decode c_Mod_openGroup 94 = .ok (.getfield 129, 3) := by decide +kernel
theorem d_Mod_openGroup_97 : decode c_Mod_openGroup 97 = .ok (.iconst 2, 1) := by decide +kernel
theorem d_Mod_openGroup_98 : decode c_Mod_openGroup 98 = .ok (.iadd, 1) := by decide +kernel
theorem d_Mod_openGroup_99 : decode c_Mod_openGroup 99 = .ok (.goto 7, 3) := by decide +kernel
theorem d_Mod_openGroup_102 : decode c_Mod_openGroup 102 = .ok (.aload_n 0, 1) := by decide +kernel
theorem d_Mod_openGroup_103 : decode c_Mod_openGroup 103 = .ok (.getfield 132, 3) := by decide +kernel
theorem d_Mod_openGroup_106 : decode c_Mod_openGroup 106 = .ok (.invokevirtual 165, 3) := by decide +kernel
theorem d_Mod_openGroup_109 : decode c_Mod_openGroup 109 = .ok (.goto 20, 3) := by decide +kernel
theorem d_Mod_openGroup_112 : decode c_Mod_openGroup 112 = .ok (.aload_n 0, 1) := by decide +kernel
theorem d_Mod_openGroup_113 : decode c_Mod_openGroup 113 = .ok (.getfield 141, 3) := by decide +kernel
theorem d_Mod_openGroup_116 : decode c_Mod_openGroup 116 = .ok (.bipush 20, 2) := by decide +kernel
theorem d_Mod_openGroup_118 : decode c_Mod_openGroup 118 = .ok (.if_icmp .ne 11, 3) := by decide +kernel
theorem d_Mod_openGroup_121 : decode c_Mod_openGroup 121 = .ok (.aload_n 0, 1) := by decide +kernel
theorem d_Mod_openGroup_122 : decode c_Mod_openGroup 122 = .ok (.aload_n 0, 1) := by decide +kernel
theorem d_Mod_openGroup_123 : decode c_Mod_openGroup 123 = .ok (.getfield 129, 3) := by decide +kernel
theorem d_Mod_openGroup_126 : decode c_Mod_openGroup 126 = .ok (.invokevirtual 165, 3) := by decide +kernel
theorem d_Mod_openGroup_129 : decode c_Mod_openGroup 129 = .ok (.aload_n 0, 1) := by decide +kernel
theorem d_Mod_openGroup_130 : decode c_Mod_openGroup 130 = .ok (.getfield 135, 3) := by decide +kernel
theorem d_Mod_openGroup_133 : decode c_Mod_openGroup 133 = .ok (.ifCond .lt 4, 3) := by decide +kernel
theorem d_Mod_openGroup_136 : decode c_Mod_openGroup 136 = .ok (.return_, 1) := by decide +kernel
theorem d_Mod_openGroup_137 : decode c_Mod_openGroup 137 = .ok (.aload_n 0, 1) := by decide +kernel
theorem d_Mod_openGroup_138 : decode c_Mod_openGroup 138 = .ok (.iload_n 1, 1) := by decide +kernel
theorem d_Mod_openGroup_139 : decode c_Mod_openGroup 139 = .ok (.aload_n 0, 1) := by decide +kernel
theorem d_Mod_openGroup_140 : decode c_Mod_openGroup 140 = .ok (.getfield 141, 3) := by decide +kernel
theorem d_Mod_openGroup_143 : decode c_Mod_openGroup 143 = .ok (.iconst 1, 1) := by decide +kernel
theorem d_Mod_openGroup_144 : decode c_Mod_openGroup 144 = .ok (.iadd, 1) := by decide +kernel
theorem d_Mod_openGroup_145 : decode c_Mod_openGroup 145 = .ok (.iconst 0, 1) := by decide +kernel
theorem d_Mod_openGroup_146 : decode c_Mod_openGroup 146 = .ok (.iconst 0, 1) := by decide +kernel
theorem d_Mod_openGroup_147 : decode c_Mod_openGroup 147 = .ok (.invokevirtual 147, 3) := by decide +kernel
theorem d_Mod_openGroup_150 : decode c_Mod_openGroup 150 = .ok (.istore_n 2, 1) := by decide +kernel
theorem d_Mod_openGroup_151 : decode c_Mod_openGroup 151 = .ok (.iload_n 1, 1) := by decide +kernel
theorem d_Mod_openGroup_152 : decode c_Mod_openGroup 152 = .ok (.bipush 12, 2) := by decide +kernel
theorem d_Mod_openGroup_154 : decode c_Mod_openGroup 154 = .ok (.if_icmp .ne 13, 3) := by decide +kernel
theorem d_Mod_openGroup_157 : decode c_Mod_openGroup 157 = .ok (.aload_n 0, 1) := by decide +kernel
theorem d_Mod_openGroup_158 : decode c_Mod_openGroup 158 = .ok (.dup, 1) := by decide +kernel
theorem d_Mod_openGroup_159 : decode c_Mod_openGroup 159 = .ok (.getfield 141, 3) := by decide +kernel
theorem d_Mod_openGroup_162 : decode c_Mod_openGroup 162 = .ok (.iconst 1, 1) := by decide +kernel
theorem d_Mod_openGroup_163 : decode c_Mod_openGroup 163 = .ok (.iadd, 1) := by decide +kernel
theorem d_Mod_openGroup_164 : decode c_Mod_openGroup 164 = .ok (.putfield 141, 3) := by decide +kernel
theorem d_Mod_openGroup_167 : decode c_Mod_openGroup 167 = .ok (.aload_n 0, 1) := by decide +kernel
theorem d_Mod_openGroup_168 : decode c_Mod_openGroup 168 = .ok (.aload_n 0, 1) := by decide +kernel
theorem d_Mod_openGroup_169 : decode c_Mod_openGroup 169 = .ok (.getfield 129, 3) := by decide +kernel
theorem d_Mod_openGroup_172 : decode c_Mod_openGroup 172 = .ok (.iload_n 1, 1) := by decide +kernel
theorem d_Mod_openGroup_173 : decode c_Mod_openGroup 173 = .ok (.bipush 12, 2) := by decide +kernel
theorem d_Mod_openGroup_175 : decode c_Mod_openGroup 175 = .ok (.if_icmp .ne 7, 3) := by decide +kernel
theorem d_Mod_openGroup_178 : decode c_Mod_openGroup 178 = .ok (.iconst 1, 1) := by decide +kernel
theorem d_Mod_openGroup_179 : decode c_Mod_openGroup 179 = .ok (.goto 4, 3) := by decide +kernel
theorem d_Mod_openGroup_182 : decode c_Mod_openGroup 182 = .ok (.iconst 3, 1) := by decide +kernel
theorem d_Mod_openGroup_183 : decode c_Mod_openGroup 183 = .ok (.iadd, 1) := by decide +kernel
theorem d_Mod_openGroup_184 : decode c_Mod_openGroup 184 = .ok (.putfield 129, 3) := by decide +kernel
theorem d_Mod_openGroup_187 : decode c_Mod_openGroup 187 = .ok (.aload_n 0, 1) := by decide +kernel
theorem d_Mod_openGroup_188 : decode c_Mod_openGroup 188 = .ok (.dup, 1) := by decide +kernel
theorem d_Mod_openGroup_189 : decode c_Mod_openGroup 189 = .ok (.getfield 144, 3) := by decide +kernel
theorem d_Mod_openGroup_192 : decode c_Mod_openGroup 192 = .ok (.iconst 1, 1) := by decide +kernel
theorem d_Mod_openGroup_193 : decode c_Mod_openGroup 193 = .ok (.iadd, 1) := by decide +kernel
theorem d_Mod_openGroup_194 : decode c_Mod_openGroup 194 = .ok (.putfield 144, 3) := by decide +kernel
theorem d_Mod_openGroup_197 : decode c_Mod_openGroup 197 = .ok (.aload_n 0, 1) := by decide +kernel
theorem d_Mod_openGroup_198 : decode c_Mod_openGroup 198 = .ok (.iload_n 2, 1) := by decide +kernel
theorem d_Mod_openGroup_199 : decode c_Mod_openGroup 199 = .ok (.invokevirtual 198, 3) := by decide +kernel
theorem d_Mod_openGroup_202 : decode c_Mod_openGroup 202 = .ok (.return_, 1) := by decide +kernel
theorem d_Mod_closeGroup_0 : decode c_Mod_closeGroup 0 = .ok (.aload_n 0, 1) := by decide +kernel
theorem d_Mod_closeGroup_1 : decode c_Mod_closeGroup 1 = .ok (.getfield 56, 3) := by decide +kernel
theorem d_Mod_closeGroup_4 : decode c_Mod_closeGroup 4 = .ok (.aload_n 0, 1) := by decide +kernel
theorem d_Mod_closeGroup_5 : decode c_Mod_closeGroup 5 = .ok (.getfield 144, 3) := by decide +kernel
theorem d_Mod_closeGroup_8 : decode c_Mod_closeGroup 8 = .ok (.iaload, 1) := by decide +kernel
theorem d_Mod_closeGroup_9 : decode c_Mod_closeGroup 9 = .ok (.istore_n 1, 1) := by decide +kernel
theorem d_Mod_closeGroup_10 : decode c_Mod_closeGroup 10 = .ok (.aload_n 0, 1) := by decide +kernel
theorem d_Mod_closeGroup_11 : decode c_Mod_closeGroup 11 = .ok (.dup, 1) := by decide +kernel
theorem d_Mod_closeGroup_12 : decode c_Mod_closeGroup 12 = .ok (.getfield 144, 3) := by decide +kernel
theorem d_Mod_closeGroup_15 : decode c_Mod_closeGroup 15 = .ok (.iconst 1, 1) := by decide +kernel
theorem d_Mod_closeGroup_16 : decode c_Mod_closeGroup 16 = .ok (.isub, 1) := by decide +kernel
theorem d_Mod_closeGroup_17 : decode c_Mod_closeGroup 17 = .ok (.putfield 144, 3) := by decide +kernel
theorem d_Mod_closeGroup_20 : decode c_Mod_closeGroup 20 = .ok (.aload_n 0, 1) := by decide +kernel
theorem d_Mod_closeGroup_21 : decode c_Mod_closeGroup 21 = .ok (.dup, 1) := by decide +kernel
theorem d_Mod_closeGroup_22 : decode c_Mod_closeGroup 22 = .ok (.getfield 129, 3) := by decide +kernel
theorem d_Mod_closeGroup_25 : decode c_Mod_closeGroup 25 = .ok (.iconst 1, 1) := by decide +kernel
theorem d_Mod_closeGroup_26 : decode c_Mod_closeGroup 26 = .ok (.iadd, 1) := by decide +kernel
theorem d_Mod_closeGroup_27 : decode c_Mod_closeGroup 27 = .ok (.putfield 129, 3) := by decide +kernel
theorem d_Mod_closeGroup_30 : decode c_Mod_closeGroup 30 = .ok (.aload_n 0, 1) := by decide +kernel
theorem d_Mod_closeGroup_31 : decode c_Mod_closeGroup 31 = .ok (.getfield 23, 3) := by decide +kernel
theorem d_Mod_closeGroup_34 : decode c_Mod_closeGroup 34 = .ok (.iload_n 1, 1) := by decide +kernel
theorem d_Mod_closeGroup_35 : decode c_Mod_closeGroup 35 = .ok (.iaload, 1) := by decide +kernel
theorem d_Mod_closeGroup_36 : decode c_Mod_closeGroup 36 = .ok (.bipush 14, 2) := by decide +kernel
theorem d_Mod_closeGroup_38 : decode c_Mod_closeGroup 38 = .ok (.if_icmp .eq 14, 3) := by decide +kernel
theorem d_Mod_closeGroup_41 : decode c_Mod_closeGroup 41 = .ok (.aload_n 0, 1) := by decide +kernel
theorem d_Mod_closeGroup_42 : decode c_Mod_closeGroup 42 = .ok (.getfield 23, 3) := by decide +kernel
theorem d_Mod_closeGroup_45 : decode c_Mod_closeGroup 45 = .ok (.iload_n 1, 1) := by decide +kernel
theorem d_Mod_closeGroup_46 : decode c_Mod_closeGroup 46 = .ok (.iaload, 1) := by decide +kernel
theorem d_Mod_closeGroup_47 : decode c_Mod_closeGroup 47 = .ok (.bipush 15, 2) := by decide +kernel
theorem d_Mod_closeGroup_49 : decode c_Mod_closeGroup 49 = .ok (.if_icmp .ne 30, 3) := by decide +kernel
theorem d_Mod_closeGroup_52 : decode c_Mod_closeGroup 52 = .ok (.aload_n 0, 1) := by decide +kernel
theorem d_Mod_closeGroup_53 : decode c_Mod_closeGroup 53 = .ok (.getfield 47, 3) := by decide +kernel
theorem d_Mod_closeGroup_56 : decode c_Mod_closeGroup 56 = .ok (.iload_n 1, 1) := by decide +kernel
theorem d_Mod_closeGroup_57 : decode c_Mod_closeGroup 57 = .ok (.aload_n 0, 1) := by decide +kernel
theorem d_Mod_closeGroup_58 : decode c_Mod_closeGroup 58 = .ok (.getfield 141, 3) := by decide +kernel
theorem d_Mod_closeGroup_61 : decode c_Mod_closeGroup 61 = .ok (.iastore, 1) := by decide +kernel
theorem d_Mod_closeGroup_62 : decode c_Mod_closeGroup 62 = .ok (.aload_n 0, 1) := by decide +kernel
theorem d_Mod_closeGroup_63 : decode c_Mod_closeGroup 63 = .ok (.aload_n 0, 1) := by decide +kernel
theorem d_Mod_closeGroup_64 : decode c_Mod_closeGroup 64 = .ok (.getfield 62, 3) := by decide +kernel
theorem d_Mod_closeGroup_67 : decode c_Mod_closeGroup 67 = .ok (.aload_n 0, 1) := by decide +kernel
theorem d_Mod_closeGroup_68 : decode c_Mod_closeGroup 68 = .ok (.getfield 144, 3) := by decide +kernel
theorem d_Mod_closeGroup_71 : decode c_Mod_closeGroup 71 = .ok (.iaload, 1) := by decide +kernel
theorem d_Mod_closeGroup_72 : decode c_Mod_closeGroup 72 = .ok (.iload_n 1, 1) := by decide +kernel
theorem d_Mod_closeGroup_73 : decode c_Mod_closeGroup 73 = .ok (.invokevirtual 151, 3) := by decide +kernel
theorem d_Mod_closeGroup_76 : decode c_Mod_closeGroup 76 = .ok (.goto 8, 3) := by decide +kernel
theorem d_Mod_closeGroup_79 : decode c_Mod_closeGroup 79 = .ok (.aload_n 0, 1) := by decide +kernel
theorem d_Mod_closeGroup_80 : decode c_Mod_closeGroup 80 = .ok (.iload_n 1, 1) := by decide +kernel
theorem d_Mod_closeGroup_81 : decode c_Mod_closeGroup 81 = .ok (.invokevirtual 201, 3) := by decide +kernel
theorem d_Mod_closeGroup_84 : decode c_Mod_closeGroup 84 = .ok (.return_, 1) := by decide +kernel
theorem d_Mod_assertion_0 : decode c_Mod_assertion 0 = .ok (.aload_n 0, 1) := by decide +kernel
theorem d_Mod_assertion_1 : decode c_Mod_assertion 1 = .ok (.aload_n 0, 1) := by decide +kernel
theorem d_Mod_assertion_2 : decode c_Mod_assertion 2 = .ok (.getfield 62, 3) := by decide +kernel
theorem d_Mod_assertion_5 : decode c_Mod_assertion 5 = .ok (.aload_n 0, 1) := by decide +kernel
theorem d_Mod_assertion_6 : decode c_Mod_assertion 6 = .ok (.getfield 144, 3) := by decide +kernel
theorem d_Mod_assertion_9 : decode c_Mod_assertion 9 = .ok (.iaload, 1) := by decide +kernel
theorem d_Mod_assertion_10 : decode c_Mod_assertion 10 = .ok (.aload_n 0, 1) := by decide +kernel
theorem d_Mod_assertion_11 : decode c_Mod_assertion 11 = .ok (.iload_n 1, 1) := by decide +kernel
theorem d_Mod_assertion_12 : decode c_Mod_assertion 12 = .ok (.iconst 0, 1) := by decide +kernel
theorem d_Mod_assertion_13 : decode c_Mod_assertion 13 = .ok (.iconst 0, 1) := by decide +kernel
theorem d_Mod_assertion_14 : decode c_Mod_assertion 14 = .ok (.iconst 0, 1) := by decide +kernel
theorem d_Mod_assertion_15 : decode c_Mod_assertion 15 = .ok (.invokevirtual 147, 3) := by decide +kernel
theorem d_Mod_assertion_18 : decode c_Mod_assertion 18 = .ok (.invokevirtual 151, 3) := by decide +kernel
theorem d_Mod_assertion_21 : decode c_Mod_assertion 21 = .ok (.aload_n 0, 1) := by decide +kernel
theorem d_Mod_assertion_22 : decode c_Mod_assertion 22 = .ok (.aload_n 0, 1) := by decide +kernel
theorem d_Mod_assertion_23 : decode c_Mod_assertion 23 = .ok (.getfield 129, 3) := by decide +kernel
theorem d_Mod_assertion_26 : decode c_Mod_assertion 26 = .ok (.iload_n 2, 1) := by decide +kernel
theorem d_Mod_assertion_27 : decode c_Mod_assertion 27 = .ok (.iadd, 1) := by decide +kernel
theorem d_Mod_assertion_28 : decode c_Mod_assertion 28 = .ok (.putfield 129, 3) := by decide +kernel
theorem d_Mod_assertion_31 : decode c_Mod_assertion 31 = .ok (.return_, 1) := by decide +kernel
def Mod_quantify_b371 (N : Nat) (σ : g_S) : Option (Int32 × g_S) := some (0, σ)
theorem Mod_quantify_p371 (ao aa : Nat → Nat) {X : g_X} (hC : gC X c_Mod_quantify R_Mod 3 63 11 none) (N : Nat) (σ : g_S) (r : Int32) (σe : g_S) (hf : Mod_quantify_b371 N σ = some (r, σe)) : gw X (.inl none) (LM ao aa X.2.2.1 σe) (LM ao aa X.2.2.1 σ) [(0, .ref (ao 0))] 371 [] := by
  unfold Mod_quantify_b371 at hf
  cases hf
  exact gw_vret hC d_Mod_quantify_371
def Mod_quantify_b357 (N : Nat) (x3 : Int32) (σ : g_S) : Option (Int32 × g_S) := if gIn (σ.1 14) 41 = true then (Mod_add N (σ.2 16 ((σ.1 14)).toNatClampNeg) x3 σ).bind fun q368 => Mod_quantify_b371 N q368.2 else none
theorem Mod_quantify_p357 (ao aa : Nat → Nat) {X : g_X} (hC : gC X c_Mod_quantify R_Mod 3 63 11 none) (N : Nat) (x3 : Int32) (σ : g_S) (r : Int32) (σe : g_S) (hf : Mod_quantify_b357 N x3 σ = some (r, σe)) : gw X (.inl none) (LM ao aa X.2.2.1 σe) (LM ao aa X.2.2.1 σ) [(0, .ref (ao 0)), (3, .int x3)] 357 [] := by
  unfold Mod_quantify_b357 at hf
  refine gw_aload_n hC 0 d_Mod_quantify_357 rfl rfl ?_
  refine gw_aload_n hC 0 d_Mod_quantify_358 rfl rfl ?_
  refine Mr_Mod_alternative hC kf_Mod_62 d_Mod_quantify_359 ?_
  refine gw_aload_n hC 0 d_Mod_quantify_362 rfl rfl ?_
  refine Mg14 hC kf_Mod_144 d_Mod_quantify_363 (σ.1 14) rfl ?_
  obtain ⟨hg366, hf⟩ := g_guard hf
  refine Mald (j := 16) hC (by decide) hg366 d_Mod_quantify_366 (σ.2 16 ((σ.1 14)).toNatClampNeg) rfl ?_
  refine gw_iload_n hC 1 d_Mod_quantify_367 rfl rfl ?_
  obtain ⟨q368, hq368, hf⟩ := g_bind hf
  refine gw_callV hC [.int (σ.2 16 ((σ.1 14)).toNatClampNeg), .int x3] [] (Mod_add_m _ _ _ ao aa N _ _ _ _ _ hq368) kc_Mod_151 0 (g_lay_obj rfl) rfl rfl ⟨by decide, by decide⟩ (Nat.le_of_ble_eq_true rfl) [.int x3, .int (σ.2 16 ((σ.1 14)).toNatClampNeg), .ref (ao 0)] [] rfl rfl d_Mod_quantify_368 ?_
  refine gw_lv [0] rfl ?_
  exact Mod_quantify_p371 ao aa hC N _ _ _ hf
def Mod_quantify_b350 (N : Nat) (x3 : Int32) (σ : g_S) : Option (Int32 × g_S) := if 0 ≤ (σ.1 12) then Mod_quantify_b371 N σ else Mod_quantify_b357 N x3 σ
theorem Mod_quantify_p350 (ao aa : Nat → Nat) {X : g_X} (hC : gC X c_Mod_quantify R_Mod 3 63 11 none) (N : Nat) (x3 : Int32) (σ : g_S) (r : Int32) (σe : g_S) (hf : Mod_quantify_b350 N x3 σ = some (r, σe)) : gw X (.inl none) (LM ao aa X.2.2.1 σe) (LM ao aa X.2.2.1 σ) [(0, .ref (ao 0)), (3, .int x3)] 350 [] := by
  unfold Mod_quantify_b350 at hf
  refine gw_aload_n hC 0 d_Mod_quantify_350 rfl rfl ?_
  refine Mg12 hC kf_Mod_135 d_Mod_quantify_351 (σ.1 12) rfl ?_
  refine gw_if_ge hC 371 d_Mod_quantify_354 (by decide) (fun hh => ?_) (fun hh => ?_)
  · rw [if_pos hh] at hf
    refine gw_lv [0] rfl ?_
    exact Mod_quantify_p371 ao aa hC N _ _ _ hf
  · rw [if_neg hh] at hf
    exact Mod_quantify_p357 ao aa hC N _ _ _ _ hf
def Mod_quantify_b318 (N : Nat) (x1 : Int32) (s1 : Int32) (s2 : Int32) (s3 : Int32) (s4 : Int32) (σ : g_S) : Option (Int32 × g_S) := (Mod_node N s1 s2 s3 s4 σ).bind fun q318 => if gIn x1 1300 = true then if gIn q318.1 1300 = true then (Mod_add N q318.1 x1 (gA (gA q318.2 10 (q318.1).toNatClampNeg (q318.2.2 10 (x1).toNatClampNeg)) 11 (q318.1).toNatClampNeg (q318.2.1 9))).bind fun q347 => Mod_quantify_b350 N q318.1 q347.2 else none else none
theorem Mod_quantify_p318 (ao aa : Nat → Nat) {X : g_X} (hC : gC X c_Mod_quantify R_Mod 3 63 11 none) (N : Nat) (x1 : Int32) (s1 : Int32) (s2 : Int32) (s3 : Int32) (s4 : Int32) (σ : g_S) (r : Int32) (σe : g_S) (hf : Mod_quantify_b318 N x1 s1 s2 s3 s4 σ = some (r, σe)) : gw X (.inl none) (LM ao aa X.2.2.1 σe) (LM ao aa X.2.2.1 σ) [(0, .ref (ao 0)), (1, .int x1)] 318 [.int s4, .int s3, .int s2, .int s1, .ref (ao 0)] := by
  unfold Mod_quantify_b318 at hf
  obtain ⟨q318, hq318, hf⟩ := g_bind hf
  refine gw_callV hC [.int s1, .int s2, .int s3, .int s4] [] (Mod_node_m _ _ _ ao aa N _ _ _ _ _ _ _ hq318) kc_Mod_147 0 (g_lay_obj rfl) rfl rfl ⟨by decide, by decide⟩ (Nat.le_of_ble_eq_true rfl) [.int s4, .int s3, .int s2, .int s1, .ref (ao 0)] [.int q318.1] rfl rfl d_Mod_quantify_318 ?_
  refine gw_istore_n hC [(3, .int q318.1), (0, .ref (ao 0)), (1, .int x1)] d_Mod_quantify_321 rfl (by decide) rfl ?_
  refine gw_aload_n hC 1 d_Mod_quantify_322 rfl rfl ?_
  refine Mr_Mod_groupFrom hC kf_Mod_44 d_Mod_quantify_323 ?_
  refine gw_iload_n hC 0 d_Mod_quantify_326 rfl rfl ?_
  refine gw_aload_n hC 1 d_Mod_quantify_327 rfl rfl ?_
  refine Mr_Mod_groupFrom hC kf_Mod_44 d_Mod_quantify_328 ?_
  refine gw_iload_n hC 2 d_Mod_quantify_331 rfl rfl ?_
  obtain ⟨hg332, hf⟩ := g_guard hf
  refine Mald (j := 10) hC (by decide) hg332 d_Mod_quantify_332 (q318.2.2 10 (x1).toNatClampNeg) rfl ?_
  obtain ⟨hg333, hf⟩ := g_guard hf
  refine Mast (j := 10) hC (by decide) hg333 d_Mod_quantify_333 ?_
  refine gw_aload_n hC 1 d_Mod_quantify_334 rfl rfl ?_
  refine Mr_Mod_groupTo hC kf_Mod_47 d_Mod_quantify_335 ?_
  refine gw_iload_n hC 0 d_Mod_quantify_338 rfl rfl ?_
  refine gw_aload_n hC 1 d_Mod_quantify_339 rfl rfl ?_
  refine Mg9 hC kf_Mod_141 d_Mod_quantify_340 (q318.2.1 9) rfl ?_
  refine Mast (j := 11) hC (by decide) hg333 d_Mod_quantify_343 ?_
  refine gw_aload_n hC 1 d_Mod_quantify_344 rfl rfl ?_
  refine gw_iload_n hC 0 d_Mod_quantify_345 rfl rfl ?_
  refine gw_iload_n hC 2 d_Mod_quantify_346 rfl rfl ?_
  obtain ⟨q347, hq347, hf⟩ := g_bind hf
  refine gw_callV hC [.int q318.1, .int x1] [] (Mod_add_m _ _ _ ao aa N _ _ _ _ _ hq347) kc_Mod_151 0 (g_lay_obj rfl) rfl rfl ⟨by decide, by decide⟩ (Nat.le_of_ble_eq_true rfl) [.int x1, .int q318.1, .ref (ao 0)] [] rfl rfl d_Mod_quantify_347 ?_
  refine gw_lv [1, 0] rfl ?_
  exact Mod_quantify_p350 ao aa hC N _ _ _ _ hf
def Mod_quantify_b317 (N : Nat) (x1 : Int32) (s1 : Int32) (s2 : Int32) (s3 : Int32) (σ : g_S) : Option (Int32 × g_S) := Mod_quantify_b318 N x1 s1 s2 s3 0 σ
theorem Mod_quantify_p317 (ao aa : Nat → Nat) {X : g_X} (hC : gC X c_Mod_quantify R_Mod 3 63 11 none) (N : Nat) (x1 : Int32) (s1 : Int32) (s2 : Int32) (s3 : Int32) (σ : g_S) (r : Int32) (σe : g_S) (hf : Mod_quantify_b317 N x1 s1 s2 s3 σ = some (r, σe)) : gw X (.inl none) (LM ao aa X.2.2.1 σe) (LM ao aa X.2.2.1 σ) [(0, .ref (ao 0)), (1, .int x1)] 317 [.int s3, .int s2, .int s1, .ref (ao 0)] := by
  unfold Mod_quantify_b317 at hf
  refine gw_iconst hC 0 d_Mod_quantify_317 (by decide) ?_
  exact Mod_quantify_p318 ao aa hC N _ _ _ _ _ _ _ _ hf
def Mod_quantify_b313 (N : Nat) (x1 : Int32) (s1 : Int32) (s2 : Int32) (s3 : Int32) (σ : g_S) : Option (Int32 × g_S) := Mod_quantify_b318 N x1 s1 s2 s3 1 σ
theorem Mod_quantify_p313 (ao aa : Nat → Nat) {X : g_X} (hC : gC X c_Mod_quantify R_Mod 3 63 11 none) (N : Nat) (x1 : Int32) (s1 : Int32) (s2 : Int32) (s3 : Int32) (σ : g_S) (r : Int32) (σe : g_S) (hf : Mod_quantify_b313 N x1 s1 s2 s3 σ = some (r, σe)) : gw X (.inl none) (LM ao aa X.2.2.1 σe) (LM ao aa X.2.2.1 σ) [(0, .ref (ao 0)), (1, .int x1)] 313 [.int s3, .int s2, .int s1, .ref (ao 0)] := by
  unfold Mod_quantify_b313 at hf
  refine gw_iconst hC 1 d_Mod_quantify_313 (by decide) ?_
  refine gw_goto hC 318 d_Mod_quantify_314 (by decide) ?_
  exact Mod_quantify_p318 ao aa hC N _ _ _ _ _ _ _ _ hf
def Mod_quantify_b301 (N : Nat) (x1 : Int32) (x5 : Int32) (x6 : Int32) (x8 : Int32) (σ : g_S) : Option (Int32 × g_S) := if x8 = 0 then Mod_quantify_b317 N x1 16 x5 x6 σ else Mod_quantify_b313 N x1 16 x5 x6 σ
theorem Mod_quantify_p301 (ao aa : Nat → Nat) {X : g_X} (hC : gC X c_Mod_quantify R_Mod 3 63 11 none) (N : Nat) (x1 : Int32) (x5 : Int32) (x6 : Int32) (x8 : Int32) (σ : g_S) (r : Int32) (σe : g_S) (hf : Mod_quantify_b301 N x1 x5 x6 x8 σ = some (r, σe)) : gw X (.inl none) (LM ao aa X.2.2.1 σe) (LM ao aa X.2.2.1 σ) [(0, .ref (ao 0)), (1, .int x1), (5, .int x5), (6, .int x6), (8, .int x8)] 301 [] := by
  unfold Mod_quantify_b301 at hf
  refine gw_aload_n hC 0 d_Mod_quantify_301 rfl rfl ?_
  refine gw_bipush hC 16 d_Mod_quantify_302 (by decide) ?_
  refine gw_iload hC 2 d_Mod_quantify_304 rfl ?_
  refine gw_iload hC 3 d_Mod_quantify_306 rfl ?_
  refine gw_iload hC 4 d_Mod_quantify_308 rfl ?_
  refine gw_if_eq hC 317 d_Mod_quantify_310 (by decide) (fun hh => ?_) (fun hh => ?_)
  · rw [if_pos hh] at hf
    refine gw_lv [0, 1] rfl ?_
    exact Mod_quantify_p317 ao aa hC N _ _ _ _ _ _ _ hf
  · rw [if_neg hh] at hf
    refine gw_lv [0, 1] rfl ?_
    exact Mod_quantify_p313 ao aa hC N _ _ _ _ _ _ _ hf
def Mod_quantify_b291 (N : Nat) (x1 : Int32) (x5 : Int32) (x6 : Int32) (x8 : Int32) (σ : g_S) : Option (Int32 × g_S) := Mod_quantify_b301 N x1 x5 x6 x8 (gF σ 11 ((σ.1 11) + 1))
theorem Mod_quantify_p291 (ao aa : Nat → Nat) {X : g_X} (hC : gC X c_Mod_quantify R_Mod 3 63 11 none) (N : Nat) (x1 : Int32) (x5 : Int32) (x6 : Int32) (x8 : Int32) (σ : g_S) (r : Int32) (σe : g_S) (hf : Mod_quantify_b291 N x1 x5 x6 x8 σ = some (r, σe)) : gw X (.inl none) (LM ao aa X.2.2.1 σe) (LM ao aa X.2.2.1 σ) [(0, .ref (ao 0)), (1, .int x1), (5, .int x5), (6, .int x6), (8, .int x8)] 291 [] := by
  unfold Mod_quantify_b291 at hf
  refine gw_aload_n hC 0 d_Mod_quantify_291 rfl rfl ?_
  refine gw_dup hC d_Mod_quantify_292 rfl ?_
  refine Mg11 hC kf_Mod_129 d_Mod_quantify_293 (σ.1 11) rfl ?_
  refine gw_iconst hC 1 d_Mod_quantify_296 (by decide) ?_
  refine gw_iadd hC d_Mod_quantify_297 ?_
  refine Mp11 hC kf_Mod_129 d_Mod_quantify_298 ?_
  exact Mod_quantify_p301 ao aa hC N _ _ _ _ _ _ _ hf
def Mod_quantify_b284 (N : Nat) (x1 : Int32) (x5 : Int32) (x6 : Int32) (s0 : Int32) (σ : g_S) : Option (Int32 × g_S) := if s0 = 0 then Mod_quantify_b301 N x1 x5 x6 s0 σ else Mod_quantify_b291 N x1 x5 x6 s0 σ
theorem Mod_quantify_p284 (ao aa : Nat → Nat) {X : g_X} (hC : gC X c_Mod_quantify R_Mod 3 63 11 none) (N : Nat) (x1 : Int32) (x5 : Int32) (x6 : Int32) (s0 : Int32) (σ : g_S) (r : Int32) (σe : g_S) (hf : Mod_quantify_b284 N x1 x5 x6 s0 σ = some (r, σe)) : gw X (.inl none) (LM ao aa X.2.2.1 σe) (LM ao aa X.2.2.1 σ) [(0, .ref (ao 0)), (1, .int x1), (5, .int x5), (6, .int x6)] 284 [.int s0] := by
  unfold Mod_quantify_b284 at hf
  refine gw_istore hC [(8, .int s0), (0, .ref (ao 0)), (1, .int x1), (5, .int x5), (6, .int x6)] d_Mod_quantify_284 (by decide) rfl ?_
  refine gw_iload hC 0 d_Mod_quantify_286 rfl ?_
  refine gw_if_eq hC 301 d_Mod_quantify_288 (by decide) (fun hh => ?_) (fun hh => ?_)
  · rw [if_pos hh] at hf
    refine gw_lv [1, 2, 3, 4, 0] rfl ?_
    exact Mod_quantify_p301 ao aa hC N _ _ _ _ _ _ _ hf
  · rw [if_neg hh] at hf
    refine gw_lv [1, 2, 3, 4, 0] rfl ?_
    exact Mod_quantify_p291 ao aa hC N _ _ _ _ _ _ _ hf
def Mod_quantify_b283 (N : Nat) (x1 : Int32) (x5 : Int32) (x6 : Int32) (σ : g_S) : Option (Int32 × g_S) := Mod_quantify_b284 N x1 x5 x6 0 σ
theorem Mod_quantify_p283 (ao aa : Nat → Nat) {X : g_X} (hC : gC X c_Mod_quantify R_Mod 3 63 11 none) (N : Nat) (x1 : Int32) (x5 : Int32) (x6 : Int32) (σ : g_S) (r : Int32) (σe : g_S) (hf : Mod_quantify_b283 N x1 x5 x6 σ = some (r, σe)) : gw X (.inl none) (LM ao aa X.2.2.1 σe) (LM ao aa X.2.2.1 σ) [(0, .ref (ao 0)), (1, .int x1), (5, .int x5), (6, .int x6)] 283 [] := by
  unfold Mod_quantify_b283 at hf
  refine gw_iconst hC 0 d_Mod_quantify_283 (by decide) ?_
  exact Mod_quantify_p284 ao aa hC N _ _ _ _ _ _ _ hf
def Mod_quantify_b279 (N : Nat) (x1 : Int32) (x5 : Int32) (x6 : Int32) (σ : g_S) : Option (Int32 × g_S) := Mod_quantify_b284 N x1 x5 x6 1 σ
theorem Mod_quantify_p279 (ao aa : Nat → Nat) {X : g_X} (hC : gC X c_Mod_quantify R_Mod 3 63 11 none) (N : Nat) (x1 : Int32) (x5 : Int32) (x6 : Int32) (σ : g_S) (r : Int32) (σe : g_S) (hf : Mod_quantify_b279 N x1 x5 x6 σ = some (r, σe)) : gw X (.inl none) (LM ao aa X.2.2.1 σe) (LM ao aa X.2.2.1 σ) [(0, .ref (ao 0)), (1, .int x1), (5, .int x5), (6, .int x6)] 279 [] := by
  unfold Mod_quantify_b279 at hf
  refine gw_iconst hC 1 d_Mod_quantify_279 (by decide) ?_
  refine gw_goto hC 284 d_Mod_quantify_280 (by decide) ?_
  exact Mod_quantify_p284 ao aa hC N _ _ _ _ _ _ _ hf
def Mod_quantify_b269 (N : Nat) (x1 : Int32) (x5 : Int32) (x6 : Int32) (σ : g_S) : Option (Int32 × g_S) := (Mod_see N 0 σ).bind fun q271 => if q271.1 = 63 then Mod_quantify_b279 N x1 x5 x6 q271.2 else Mod_quantify_b283 N x1 x5 x6 q271.2
theorem Mod_quantify_p269 (ao aa : Nat → Nat) {X : g_X} (hC : gC X c_Mod_quantify R_Mod 3 63 11 none) (N : Nat) (x1 : Int32) (x5 : Int32) (x6 : Int32) (σ : g_S) (r : Int32) (σe : g_S) (hf : Mod_quantify_b269 N x1 x5 x6 σ = some (r, σe)) : gw X (.inl none) (LM ao aa X.2.2.1 σe) (LM ao aa X.2.2.1 σ) [(0, .ref (ao 0)), (1, .int x1), (5, .int x5), (6, .int x6)] 269 [] := by
  unfold Mod_quantify_b269 at hf
  refine gw_aload_n hC 0 d_Mod_quantify_269 rfl rfl ?_
  refine gw_iconst hC 0 d_Mod_quantify_270 (by decide) ?_
  obtain ⟨q271, hq271, hf⟩ := g_bind hf
  refine gw_callV hC [.int 0] [] (Mod_see_m _ _ _ ao aa N _ _ _ _ hq271) kc_Mod_158 0 (g_lay_obj rfl) rfl rfl ⟨by decide, by decide⟩ (Nat.le_of_ble_eq_true rfl) [.int 0, .ref (ao 0)] [.int q271.1] rfl rfl d_Mod_quantify_271 ?_
  refine gw_bipush hC 63 d_Mod_quantify_274 (by decide) ?_
  refine gw_icmp_ne hC 283 d_Mod_quantify_276 (by decide) (fun hh => ?_) (fun hh => ?_)
  · rw [if_neg hh] at hf
    exact Mod_quantify_p283 ao aa hC N _ _ _ _ _ _ hf
  · rw [if_pos hh] at hf
    exact Mod_quantify_p279 ao aa hC N _ _ _ _ _ _ hf
def Mod_quantify_b264 (N : Nat) (x1 : Int32) (x3 : Int32) (x5 : Int32) (x6 : Int32) (x7 : Int32) (σ : g_S) : Option (Int32 × g_S) := if x7 = 0 then Mod_quantify_b350 N x3 σ else Mod_quantify_b269 N x1 x5 x6 σ
theorem Mod_quantify_p264 (ao aa : Nat → Nat) {X : g_X} (hC : gC X c_Mod_quantify R_Mod 3 63 11 none) (N : Nat) (x1 : Int32) (x3 : Int32) (x5 : Int32) (x6 : Int32) (x7 : Int32) (σ : g_S) (r : Int32) (σe : g_S) (hf : Mod_quantify_b264 N x1 x3 x5 x6 x7 σ = some (r, σe)) : gw X (.inl none) (LM ao aa X.2.2.1 σe) (LM ao aa X.2.2.1 σ) [(0, .ref (ao 0)), (1, .int x1), (3, .int x3), (5, .int x5), (6, .int x6), (7, .int x7)] 264 [] := by
  unfold Mod_quantify_b264 at hf
  refine gw_iload hC 5 d_Mod_quantify_264 rfl ?_
  refine gw_if_eq hC 350 d_Mod_quantify_266 (by decide) (fun hh => ?_) (fun hh => ?_)
  · rw [if_pos hh] at hf
    refine gw_lv [0, 2] rfl ?_
    exact Mod_quantify_p350 ao aa hC N _ _ _ _ hf
  · rw [if_neg hh] at hf
    refine gw_lv [0, 1, 3, 4] rfl ?_
    exact Mod_quantify_p269 ao aa hC N _ _ _ _ _ _ hf
def Mod_quantify_b254 (N : Nat) (x1 : Int32) (x3 : Int32) (x5 : Int32) (x6 : Int32) (x7 : Int32) (σ : g_S) : Option (Int32 × g_S) := Mod_quantify_b264 N x1 x3 x5 x6 x7 (gF σ 11 ((σ.1 11) + 1))
theorem Mod_quantify_p254 (ao aa : Nat → Nat) {X : g_X} (hC : gC X c_Mod_quantify R_Mod 3 63 11 none) (N : Nat) (x1 : Int32) (x3 : Int32) (x5 : Int32) (x6 : Int32) (x7 : Int32) (σ : g_S) (r : Int32) (σe : g_S) (hf : Mod_quantify_b254 N x1 x3 x5 x6 x7 σ = some (r, σe)) : gw X (.inl none) (LM ao aa X.2.2.1 σe) (LM ao aa X.2.2.1 σ) [(0, .ref (ao 0)), (1, .int x1), (3, .int x3), (5, .int x5), (6, .int x6), (7, .int x7)] 254 [] := by
  unfold Mod_quantify_b254 at hf
  refine gw_aload_n hC 0 d_Mod_quantify_254 rfl rfl ?_
  refine gw_dup hC d_Mod_quantify_255 rfl ?_
  refine Mg11 hC kf_Mod_129 d_Mod_quantify_256 (σ.1 11) rfl ?_
  refine gw_iconst hC 1 d_Mod_quantify_259 (by decide) ?_
  refine gw_iadd hC d_Mod_quantify_260 ?_
  refine Mp11 hC kf_Mod_129 d_Mod_quantify_261 ?_
  exact Mod_quantify_p264 ao aa hC N _ _ _ _ _ _ _ _ hf
def Mod_quantify_b251 (N : Nat) (x1 : Int32) (x3 : Int32) (x5 : Int32) (x6 : Int32) (x7 : Int32) (s1 : Int32) (σ : g_S) : Option (Int32 × g_S) := (Mod_fail N s1 σ).bind fun q251 => Mod_quantify_b254 N x1 x3 x5 x6 x7 q251.2
theorem Mod_quantify_p251 (ao aa : Nat → Nat) {X : g_X} (hC : gC X c_Mod_quantify R_Mod 3 63 11 none) (N : Nat) (x1 : Int32) (x3 : Int32) (x5 : Int32) (x6 : Int32) (x7 : Int32) (s1 : Int32) (σ : g_S) (r : Int32) (σe : g_S) (hf : Mod_quantify_b251 N x1 x3 x5 x6 x7 s1 σ = some (r, σe)) : gw X (.inl none) (LM ao aa X.2.2.1 σe) (LM ao aa X.2.2.1 σ) [(0, .ref (ao 0)), (1, .int x1), (3, .int x3), (5, .int x5), (6, .int x6), (7, .int x7)] 251 [.int s1, .ref (ao 0)] := by
  unfold Mod_quantify_b251 at hf
  obtain ⟨q251, hq251, hf⟩ := g_bind hf
  refine gw_callV hC [.int s1] [] (Mod_fail_m _ _ _ ao aa N _ _ _ _ hq251) kc_Mod_165 0 (g_lay_obj rfl) rfl rfl ⟨by decide, by decide⟩ (Nat.le_of_ble_eq_true rfl) [.int s1, .ref (ao 0)] [] rfl rfl d_Mod_quantify_251 ?_
  exact Mod_quantify_p254 ao aa hC N _ _ _ _ _ _ _ _ hf
def Mod_quantify_b247 (N : Nat) (x1 : Int32) (x3 : Int32) (x5 : Int32) (x6 : Int32) (x7 : Int32) (σ : g_S) : Option (Int32 × g_S) := Mod_quantify_b251 N x1 x3 x5 x6 x7 (σ.1 2) σ
theorem Mod_quantify_p247 (ao aa : Nat → Nat) {X : g_X} (hC : gC X c_Mod_quantify R_Mod 3 63 11 none) (N : Nat) (x1 : Int32) (x3 : Int32) (x5 : Int32) (x6 : Int32) (x7 : Int32) (σ : g_S) (r : Int32) (σe : g_S) (hf : Mod_quantify_b247 N x1 x3 x5 x6 x7 σ = some (r, σe)) : gw X (.inl none) (LM ao aa X.2.2.1 σe) (LM ao aa X.2.2.1 σ) [(0, .ref (ao 0)), (1, .int x1), (3, .int x3), (5, .int x5), (6, .int x6), (7, .int x7)] 247 [.ref (ao 0)] := by
  unfold Mod_quantify_b247 at hf
  refine gw_aload_n hC 0 d_Mod_quantify_247 rfl rfl ?_
  refine Mg2 hC kf_Mod_132 d_Mod_quantify_248 (σ.1 2) rfl ?_
  exact Mod_quantify_p251 ao aa hC N _ _ _ _ _ _ _ _ _ hf
def Mod_quantify_b240 (N : Nat) (x1 : Int32) (x3 : Int32) (x5 : Int32) (x6 : Int32) (x7 : Int32) (σ : g_S) : Option (Int32 × g_S) := Mod_quantify_b251 N x1 x3 x5 x6 x7 (σ.1 11) σ
theorem Mod_quantify_p240 (ao aa : Nat → Nat) {X : g_X} (hC : gC X c_Mod_quantify R_Mod 3 63 11 none) (N : Nat) (x1 : Int32) (x3 : Int32) (x5 : Int32) (x6 : Int32) (x7 : Int32) (σ : g_S) (r : Int32) (σe : g_S) (hf : Mod_quantify_b240 N x1 x3 x5 x6 x7 σ = some (r, σe)) : gw X (.inl none) (LM ao aa X.2.2.1 σe) (LM ao aa X.2.2.1 σ) [(0, .ref (ao 0)), (1, .int x1), (3, .int x3), (5, .int x5), (6, .int x6), (7, .int x7)] 240 [.ref (ao 0)] := by
  unfold Mod_quantify_b240 at hf
  refine gw_aload_n hC 0 d_Mod_quantify_240 rfl rfl ?_
  refine Mg11 hC kf_Mod_129 d_Mod_quantify_241 (σ.1 11) rfl ?_
  refine gw_goto hC 251 d_Mod_quantify_244 (by decide) ?_
  exact Mod_quantify_p251 ao aa hC N _ _ _ _ _ _ _ _ _ hf
def Mod_quantify_b228 (N : Nat) (x1 : Int32) (x3 : Int32) (x5 : Int32) (x6 : Int32) (x7 : Int32) (σ : g_S) : Option (Int32 × g_S) := if (σ.1 2) ≤ (σ.1 11) then Mod_quantify_b247 N x1 x3 x5 x6 x7 σ else Mod_quantify_b240 N x1 x3 x5 x6 x7 σ
theorem Mod_quantify_p228 (ao aa : Nat → Nat) {X : g_X} (hC : gC X c_Mod_quantify R_Mod 3 63 11 none) (N : Nat) (x1 : Int32) (x3 : Int32) (x5 : Int32) (x6 : Int32) (x7 : Int32) (σ : g_S) (r : Int32) (σe : g_S) (hf : Mod_quantify_b228 N x1 x3 x5 x6 x7 σ = some (r, σe)) : gw X (.inl none) (LM ao aa X.2.2.1 σe) (LM ao aa X.2.2.1 σ) [(0, .ref (ao 0)), (1, .int x1), (3, .int x3), (5, .int x5), (6, .int x6), (7, .int x7)] 228 [] := by
  unfold Mod_quantify_b228 at hf
  refine gw_aload_n hC 0 d_Mod_quantify_228 rfl rfl ?_
  refine gw_aload_n hC 0 d_Mod_quantify_229 rfl rfl ?_
  refine Mg11 hC kf_Mod_129 d_Mod_quantify_230 (σ.1 11) rfl ?_
  refine gw_aload_n hC 0 d_Mod_quantify_233 rfl rfl ?_
  refine Mg2 hC kf_Mod_132 d_Mod_quantify_234 (σ.1 2) rfl ?_
  refine gw_icmp_ge hC 247 d_Mod_quantify_237 (by decide) (fun hh => ?_) (fun hh => ?_)
  · rw [if_pos hh] at hf
    exact Mod_quantify_p247 ao aa hC N _ _ _ _ _ _ _ _ hf
  · rw [if_neg hh] at hf
    exact Mod_quantify_p240 ao aa hC N _ _ _ _ _ _ _ _ hf
def Mod_quantify_b218 (N : Nat) (x1 : Int32) (x3 : Int32) (x5 : Int32) (x6 : Int32) (x7 : Int32) (σ : g_S) : Option (Int32 × g_S) := (Mod_see N 0 σ).bind fun q220 => if q220.1 = 125 then Mod_quantify_b254 N x1 x3 x5 x6 x7 q220.2 else Mod_quantify_b228 N x1 x3 x5 x6 x7 q220.2
theorem Mod_quantify_p218 (ao aa : Nat → Nat) {X : g_X} (hC : gC X c_Mod_quantify R_Mod 3 63 11 none) (N : Nat) (x1 : Int32) (x3 : Int32) (x5 : Int32) (x6 : Int32) (x7 : Int32) (σ : g_S) (r : Int32) (σe : g_S) (hf : Mod_quantify_b218 N x1 x3 x5 x6 x7 σ = some (r, σe)) : gw X (.inl none) (LM ao aa X.2.2.1 σe) (LM ao aa X.2.2.1 σ) [(0, .ref (ao 0)), (1, .int x1), (3, .int x3), (5, .int x5), (6, .int x6), (7, .int x7)] 218 [] := by
  unfold Mod_quantify_b218 at hf
  refine gw_aload_n hC 0 d_Mod_quantify_218 rfl rfl ?_
  refine gw_iconst hC 0 d_Mod_quantify_219 (by decide) ?_
  obtain ⟨q220, hq220, hf⟩ := g_bind hf
  refine gw_callV hC [.int 0] [] (Mod_see_m _ _ _ ao aa N _ _ _ _ hq220) kc_Mod_158 0 (g_lay_obj rfl) rfl rfl ⟨by decide, by decide⟩ (Nat.le_of_ble_eq_true rfl) [.int 0, .ref (ao 0)] [.int q220.1] rfl rfl d_Mod_quantify_220 ?_
  refine gw_bipush hC 125 d_Mod_quantify_223 (by decide) ?_
  refine gw_icmp_eq hC 254 d_Mod_quantify_225 (by decide) (fun hh => ?_) (fun hh => ?_)
  · rw [if_pos hh] at hf
    exact Mod_quantify_p254 ao aa hC N _ _ _ _ _ _ _ _ hf
  · rw [if_neg hh] at hf
    exact Mod_quantify_p228 ao aa hC N _ _ _ _ _ _ _ _ hf
def Mod_quantify_b212 (N : Nat) (x1 : Int32) (x3 : Int32) (x4 : Int32) (x5 : Int32) (x6 : Int32) (x7 : Int32) (σ : g_S) : Option (Int32 × g_S) := (Mod_fail N x4 σ).bind fun q215 => Mod_quantify_b218 N x1 x3 x5 x6 x7 q215.2
theorem Mod_quantify_p212 (ao aa : Nat → Nat) {X : g_X} (hC : gC X c_Mod_quantify R_Mod 3 63 11 none) (N : Nat) (x1 : Int32) (x3 : Int32) (x4 : Int32) (x5 : Int32) (x6 : Int32) (x7 : Int32) (σ : g_S) (r : Int32) (σe : g_S) (hf : Mod_quantify_b212 N x1 x3 x4 x5 x6 x7 σ = some (r, σe)) : gw X (.inl none) (LM ao aa X.2.2.1 σe) (LM ao aa X.2.2.1 σ) [(0, .ref (ao 0)), (1, .int x1), (3, .int x3), (4, .int x4), (5, .int x5), (6, .int x6), (7, .int x7)] 212 [] := by
  unfold Mod_quantify_b212 at hf
  refine gw_aload_n hC 0 d_Mod_quantify_212 rfl rfl ?_
  refine gw_iload hC 3 d_Mod_quantify_213 rfl ?_
  obtain ⟨q215, hq215, hf⟩ := g_bind hf
  refine gw_callV hC [.int x4] [] (Mod_fail_m _ _ _ ao aa N _ _ _ _ hq215) kc_Mod_165 0 (g_lay_obj rfl) rfl rfl ⟨by decide, by decide⟩ (Nat.le_of_ble_eq_true rfl) [.int x4, .ref (ao 0)] [] rfl rfl d_Mod_quantify_215 ?_
  refine gw_lv [0, 1, 2, 4, 5, 6] rfl ?_
  exact Mod_quantify_p218 ao aa hC N _ _ _ _ _ _ _ _ hf
def Mod_quantify_b195 (N : Nat) (x1 : Int32) (x3 : Int32) (x4 : Int32) (x5 : Int32) (x6 : Int32) (x7 : Int32) (x8 : Int32) (x9 : Int32) (x10 : Int32) (σ : g_S) : Option (Int32 × g_S) := (Mod_isAbove N x8 x9 x10 (σ.1 11) σ).bind fun q206 => if q206.1 = 0 then Mod_quantify_b218 N x1 x3 x5 x6 x7 q206.2 else Mod_quantify_b212 N x1 x3 x4 x5 x6 x7 q206.2
theorem Mod_quantify_p195 (ao aa : Nat → Nat) {X : g_X} (hC : gC X c_Mod_quantify R_Mod 3 63 11 none) (N : Nat) (x1 : Int32) (x3 : Int32) (x4 : Int32) (x5 : Int32) (x6 : Int32) (x7 : Int32) (x8 : Int32) (x9 : Int32) (x10 : Int32) (σ : g_S) (r : Int32) (σe : g_S) (hf : Mod_quantify_b195 N x1 x3 x4 x5 x6 x7 x8 x9 x10 σ = some (r, σe)) : gw X (.inl none) (LM ao aa X.2.2.1 σe) (LM ao aa X.2.2.1 σ) [(0, .ref (ao 0)), (1, .int x1), (3, .int x3), (4, .int x4), (5, .int x5), (6, .int x6), (7, .int x7), (8, .int x8), (9, .int x9), (10, .int x10)] 195 [] := by
  unfold Mod_quantify_b195 at hf
  refine gw_aload_n hC 0 d_Mod_quantify_195 rfl rfl ?_
  refine gw_iload hC 7 d_Mod_quantify_196 rfl ?_
  refine gw_iload hC 8 d_Mod_quantify_198 rfl ?_
  refine gw_iload hC 9 d_Mod_quantify_200 rfl ?_
  refine gw_aload_n hC 0 d_Mod_quantify_202 rfl rfl ?_
  refine Mg11 hC kf_Mod_129 d_Mod_quantify_203 (σ.1 11) rfl ?_
  obtain ⟨q206, hq206, hf⟩ := g_bind hf
  refine gw_callV hC [.int x8, .int x9, .int x10, .int (σ.1 11)] [] (Mod_isAbove_m _ _ _ ao aa N _ _ _ _ _ _ _ hq206) kc_Mod_194 0 (g_lay_obj rfl) rfl rfl ⟨by decide, by decide⟩ (Nat.le_of_ble_eq_true rfl) [.int (σ.1 11), .int x10, .int x9, .int x8, .ref (ao 0)] [.int q206.1] rfl rfl d_Mod_quantify_206 ?_
  refine gw_if_eq hC 218 d_Mod_quantify_209 (by decide) (fun hh => ?_) (fun hh => ?_)
  · rw [if_pos hh] at hf
    refine gw_lv [0, 1, 2, 4, 5, 6] rfl ?_
    exact Mod_quantify_p218 ao aa hC N _ _ _ _ _ _ _ _ hf
  · rw [if_neg hh] at hf
    refine gw_lv [0, 1, 2, 3, 4, 5, 6] rfl ?_
    exact Mod_quantify_p212 ao aa hC N _ _ _ _ _ _ _ _ _ hf
def Mod_quantify_b186 (N : Nat) (x1 : Int32) (x3 : Int32) (x4 : Int32) (x5 : Int32) (x6 : Int32) (x7 : Int32) (x8 : Int32) (x9 : Int32) (x10 : Int32) (σ : g_S) : Option (Int32 × g_S) := if (σ.1 11) ≤ x10 then Mod_quantify_b218 N x1 x3 x5 x6 x7 σ else Mod_quantify_b195 N x1 x3 x4 x5 x6 x7 x8 x9 x10 σ
theorem Mod_quantify_p186 (ao aa : Nat → Nat) {X : g_X} (hC : gC X c_Mod_quantify R_Mod 3 63 11 none) (N : Nat) (x1 : Int32) (x3 : Int32) (x4 : Int32) (x5 : Int32) (x6 : Int32) (x7 : Int32) (x8 : Int32) (x9 : Int32) (x10 : Int32) (σ : g_S) (r : Int32) (σe : g_S) (hf : Mod_quantify_b186 N x1 x3 x4 x5 x6 x7 x8 x9 x10 σ = some (r, σe)) : gw X (.inl none) (LM ao aa X.2.2.1 σe) (LM ao aa X.2.2.1 σ) [(0, .ref (ao 0)), (1, .int x1), (3, .int x3), (4, .int x4), (5, .int x5), (6, .int x6), (7, .int x7), (8, .int x8), (9, .int x9), (10, .int x10)] 186 [] := by
  unfold Mod_quantify_b186 at hf
  refine gw_aload_n hC 0 d_Mod_quantify_186 rfl rfl ?_
  refine Mg11 hC kf_Mod_129 d_Mod_quantify_187 (σ.1 11) rfl ?_
  refine gw_iload hC 9 d_Mod_quantify_190 rfl ?_
  refine gw_icmp_le hC 218 d_Mod_quantify_192 (by decide) (fun hh => ?_) (fun hh => ?_)
  · rw [if_pos hh] at hf
    refine gw_lv [0, 1, 2, 4, 5, 6] rfl ?_
    exact Mod_quantify_p218 ao aa hC N _ _ _ _ _ _ _ _ hf
  · rw [if_neg hh] at hf
    exact Mod_quantify_p195 ao aa hC N _ _ _ _ _ _ _ _ _ _ _ _ hf
def Mod_quantify_b176 (N : Nat) (x1 : Int32) (x3 : Int32) (x4 : Int32) (x5 : Int32) (x6 : Int32) (x7 : Int32) (x8 : Int32) (x9 : Int32) (x10 : Int32) (σ : g_S) : Option (Int32 × g_S) := (Mod_see N 0 σ).bind fun q178 => if q178.1 = 125 then Mod_quantify_b186 N x1 x3 x4 x5 x6 x7 x8 x9 x10 q178.2 else Mod_quantify_b218 N x1 x3 x5 x6 x7 q178.2
theorem Mod_quantify_p176 (ao aa : Nat → Nat) {X : g_X} (hC : gC X c_Mod_quantify R_Mod 3 63 11 none) (N : Nat) (x1 : Int32) (x3 : Int32) (x4 : Int32) (x5 : Int32) (x6 : Int32) (x7 : Int32) (x8 : Int32) (x9 : Int32) (x10 : Int32) (σ : g_S) (r : Int32) (σe : g_S) (hf : Mod_quantify_b176 N x1 x3 x4 x5 x6 x7 x8 x9 x10 σ = some (r, σe)) : gw X (.inl none) (LM ao aa X.2.2.1 σe) (LM ao aa X.2.2.1 σ) [(0, .ref (ao 0)), (1, .int x1), (3, .int x3), (4, .int x4), (5, .int x5), (6, .int x6), (7, .int x7), (8, .int x8), (9, .int x9), (10, .int x10)] 176 [] := by
  unfold Mod_quantify_b176 at hf
  refine gw_aload_n hC 0 d_Mod_quantify_176 rfl rfl ?_
  refine gw_iconst hC 0 d_Mod_quantify_177 (by decide) ?_
  obtain ⟨q178, hq178, hf⟩ := g_bind hf
  refine gw_callV hC [.int 0] [] (Mod_see_m _ _ _ ao aa N _ _ _ _ hq178) kc_Mod_158 0 (g_lay_obj rfl) rfl rfl ⟨by decide, by decide⟩ (Nat.le_of_ble_eq_true rfl) [.int 0, .ref (ao 0)] [.int q178.1] rfl rfl d_Mod_quantify_178 ?_
  refine gw_bipush hC 125 d_Mod_quantify_181 (by decide) ?_
  refine gw_icmp_ne hC 218 d_Mod_quantify_183 (by decide) (fun hh => ?_) (fun hh => ?_)
  · rw [if_neg hh] at hf
    refine gw_lv [0, 1, 2, 4, 5, 6] rfl ?_
    exact Mod_quantify_p218 ao aa hC N _ _ _ _ _ _ _ _ hf
  · rw [if_pos hh] at hf
    exact Mod_quantify_p186 ao aa hC N _ _ _ _ _ _ _ _ _ _ _ _ hf
def Mod_quantify_b167 (N : Nat) (x1 : Int32) (x3 : Int32) (x4 : Int32) (x5 : Int32) (x7 : Int32) (x8 : Int32) (x9 : Int32) (x10 : Int32) (s0 : Int32) (σ : g_S) : Option (Int32 × g_S) := if 0 ≤ (σ.1 12) then Mod_quantify_b218 N x1 x3 x5 s0 x7 σ else Mod_quantify_b176 N x1 x3 x4 x5 s0 x7 x8 x9 x10 σ
theorem Mod_quantify_p167 (ao aa : Nat → Nat) {X : g_X} (hC : gC X c_Mod_quantify R_Mod 3 63 11 none) (N : Nat) (x1 : Int32) (x3 : Int32) (x4 : Int32) (x5 : Int32) (x7 : Int32) (x8 : Int32) (x9 : Int32) (x10 : Int32) (s0 : Int32) (σ : g_S) (r : Int32) (σe : g_S) (hf : Mod_quantify_b167 N x1 x3 x4 x5 x7 x8 x9 x10 s0 σ = some (r, σe)) : gw X (.inl none) (LM ao aa X.2.2.1 σe) (LM ao aa X.2.2.1 σ) [(0, .ref (ao 0)), (1, .int x1), (3, .int x3), (4, .int x4), (5, .int x5), (7, .int x7), (8, .int x8), (9, .int x9), (10, .int x10)] 167 [.int s0] := by
  unfold Mod_quantify_b167 at hf
  refine gw_istore hC [(6, .int s0), (0, .ref (ao 0)), (1, .int x1), (3, .int x3), (4, .int x4), (5, .int x5), (7, .int x7), (8, .int x8), (9, .int x9), (10, .int x10)] d_Mod_quantify_167 (by decide) rfl ?_
  refine gw_aload_n hC 1 d_Mod_quantify_169 rfl rfl ?_
  refine Mg12 hC kf_Mod_135 d_Mod_quantify_170 (σ.1 12) rfl ?_
  refine gw_if_ge hC 218 d_Mod_quantify_173 (by decide) (fun hh => ?_) (fun hh => ?_)
  · rw [if_pos hh] at hf
    refine gw_lv [1, 2, 3, 5, 0, 6] rfl ?_
    exact Mod_quantify_p218 ao aa hC N _ _ _ _ _ _ _ _ hf
  · rw [if_neg hh] at hf
    refine gw_lv [1, 2, 3, 4, 5, 0, 6, 7, 8, 9] rfl ?_
    exact Mod_quantify_p176 ao aa hC N _ _ _ _ _ _ _ _ _ _ _ _ hf
def Mod_quantify_b163 (N : Nat) (x1 : Int32) (x3 : Int32) (x4 : Int32) (x5 : Int32) (x7 : Int32) (x8 : Int32) (x9 : Int32) (x10 : Int32) (σ : g_S) : Option (Int32 × g_S) := (Mod_number N σ).bind fun q164 => Mod_quantify_b167 N x1 x3 x4 x5 x7 x8 x9 x10 q164.1 q164.2
theorem Mod_quantify_p163 (ao aa : Nat → Nat) {X : g_X} (hC : gC X c_Mod_quantify R_Mod 3 63 11 none) (N : Nat) (x1 : Int32) (x3 : Int32) (x4 : Int32) (x5 : Int32) (x7 : Int32) (x8 : Int32) (x9 : Int32) (x10 : Int32) (σ : g_S) (r : Int32) (σe : g_S) (hf : Mod_quantify_b163 N x1 x3 x4 x5 x7 x8 x9 x10 σ = some (r, σe)) : gw X (.inl none) (LM ao aa X.2.2.1 σe) (LM ao aa X.2.2.1 σ) [(0, .ref (ao 0)), (1, .int x1), (3, .int x3), (4, .int x4), (5, .int x5), (7, .int x7), (8, .int x8), (9, .int x9), (10, .int x10)] 163 [] := by
  unfold Mod_quantify_b163 at hf
  refine gw_aload_n hC 0 d_Mod_quantify_163 rfl rfl ?_
  obtain ⟨q164, hq164, hf⟩ := g_bind hf
  refine gw_callV hC [] [] (Mod_number_m _ _ _ ao aa N _ _ _ hq164) kc_Mod_191 0 (g_lay_obj rfl) rfl rfl ⟨by decide, by decide⟩ (Nat.le_of_ble_eq_true rfl) [.ref (ao 0)] [.int q164.1] rfl rfl d_Mod_quantify_164 ?_
  exact Mod_quantify_p167 ao aa hC N _ _ _ _ _ _ _ _ _ _ _ _ hf
def Mod_quantify_b158 (N : Nat) (x1 : Int32) (x3 : Int32) (x4 : Int32) (x5 : Int32) (x7 : Int32) (x8 : Int32) (x9 : Int32) (x10 : Int32) (σ : g_S) : Option (Int32 × g_S) := Mod_quantify_b167 N x1 x3 x4 x5 x7 x8 x9 x10 1000000 σ
theorem Mod_quantify_p158 (ao aa : Nat → Nat) {X : g_X} (hC : gC X c_Mod_quantify R_Mod 3 63 11 none) (N : Nat) (x1 : Int32) (x3 : Int32) (x4 : Int32) (x5 : Int32) (x7 : Int32) (x8 : Int32) (x9 : Int32) (x10 : Int32) (σ : g_S) (r : Int32) (σe : g_S) (hf : Mod_quantify_b158 N x1 x3 x4 x5 x7 x8 x9 x10 σ = some (r, σe)) : gw X (.inl none) (LM ao aa X.2.2.1 σe) (LM ao aa X.2.2.1 σ) [(0, .ref (ao 0)), (1, .int x1), (3, .int x3), (4, .int x4), (5, .int x5), (7, .int x7), (8, .int x8), (9, .int x9), (10, .int x10)] 158 [] := by
  unfold Mod_quantify_b158 at hf
  refine gw_ldc hC 1000000 kn_Mod_190 d_Mod_quantify_158 ?_
  refine gw_goto hC 167 d_Mod_quantify_160 (by decide) ?_
  exact Mod_quantify_p167 ao aa hC N _ _ _ _ _ _ _ _ _ _ _ _ hf
def Mod_quantify_b132 (N : Nat) (x1 : Int32) (x3 : Int32) (x4 : Int32) (x5 : Int32) (x7 : Int32) (x8 : Int32) (x9 : Int32) (σ : g_S) : Option (Int32 × g_S) := (Mod_see N 0 (gF σ 11 ((σ.1 11) + 1))).bind fun q150 => if q150.1 = 125 then Mod_quantify_b158 N x1 x3 x4 x5 x7 x8 x9 ((σ.1 11) + 1) q150.2 else Mod_quantify_b163 N x1 x3 x4 x5 x7 x8 x9 ((σ.1 11) + 1) q150.2
theorem Mod_quantify_p132 (ao aa : Nat → Nat) {X : g_X} (hC : gC X c_Mod_quantify R_Mod 3 63 11 none) (N : Nat) (x1 : Int32) (x3 : Int32) (x4 : Int32) (x5 : Int32) (x7 : Int32) (x8 : Int32) (x9 : Int32) (σ : g_S) (r : Int32) (σe : g_S) (hf : Mod_quantify_b132 N x1 x3 x4 x5 x7 x8 x9 σ = some (r, σe)) : gw X (.inl none) (LM ao aa X.2.2.1 σe) (LM ao aa X.2.2.1 σ) [(0, .ref (ao 0)), (1, .int x1), (3, .int x3), (4, .int x4), (5, .int x5), (7, .int x7), (8, .int x8), (9, .int x9)] 132 [] := by
  unfold Mod_quantify_b132 at hf
  refine gw_aload_n hC 0 d_Mod_quantify_132 rfl rfl ?_
  refine gw_dup hC d_Mod_quantify_133 rfl ?_
  refine Mg11 hC kf_Mod_129 d_Mod_quantify_134 (σ.1 11) rfl ?_
  refine gw_iconst hC 1 d_Mod_quantify_137 (by decide) ?_
  refine gw_iadd hC d_Mod_quantify_138 ?_
  refine Mp11 hC kf_Mod_129 d_Mod_quantify_139 ?_
  refine gw_aload_n hC 0 d_Mod_quantify_142 rfl rfl ?_
  refine Mg11 hC kf_Mod_129 d_Mod_quantify_143 ((σ.1 11) + 1) rfl ?_
  refine gw_istore hC [(10, .int ((σ.1 11) + 1)), (0, .ref (ao 0)), (1, .int x1), (3, .int x3), (4, .int x4), (5, .int x5), (7, .int x7), (8, .int x8), (9, .int x9)] d_Mod_quantify_146 (by decide) rfl ?_
  refine gw_aload_n hC 1 d_Mod_quantify_148 rfl rfl ?_
  refine gw_iconst hC 0 d_Mod_quantify_149 (by decide) ?_
  obtain ⟨q150, hq150, hf⟩ := g_bind hf
  refine gw_callV hC [.int 0] [] (Mod_see_m _ _ _ ao aa N _ _ _ _ hq150) kc_Mod_158 0 (g_lay_obj rfl) rfl rfl ⟨by decide, by decide⟩ (Nat.le_of_ble_eq_true rfl) [.int 0, .ref (ao 0)] [.int q150.1] rfl rfl d_Mod_quantify_150 ?_
  refine gw_bipush hC 125 d_Mod_quantify_153 (by decide) ?_
  refine gw_icmp_ne hC 163 d_Mod_quantify_155 (by decide) (fun hh => ?_) (fun hh => ?_)
  · rw [if_neg hh] at hf
    refine gw_lv [1, 2, 3, 4, 5, 6, 7, 8, 0] rfl ?_
    exact Mod_quantify_p163 ao aa hC N _ _ _ _ _ _ _ _ _ _ _ hf
  · rw [if_pos hh] at hf
    refine gw_lv [1, 2, 3, 4, 5, 6, 7, 8, 0] rfl ?_
    exact Mod_quantify_p158 ao aa hC N _ _ _ _ _ _ _ _ _ _ _ hf
def Mod_quantify_b122 (N : Nat) (x1 : Int32) (x3 : Int32) (x4 : Int32) (x5 : Int32) (x6 : Int32) (x7 : Int32) (x8 : Int32) (x9 : Int32) (σ : g_S) : Option (Int32 × g_S) := (Mod_see N 0 σ).bind fun q124 => if q124.1 = 44 then Mod_quantify_b132 N x1 x3 x4 x5 x7 x8 x9 q124.2 else Mod_quantify_b218 N x1 x3 x5 x6 x7 q124.2
theorem Mod_quantify_p122 (ao aa : Nat → Nat) {X : g_X} (hC : gC X c_Mod_quantify R_Mod 3 63 11 none) (N : Nat) (x1 : Int32) (x3 : Int32) (x4 : Int32) (x5 : Int32) (x6 : Int32) (x7 : Int32) (x8 : Int32) (x9 : Int32) (σ : g_S) (r : Int32) (σe : g_S) (hf : Mod_quantify_b122 N x1 x3 x4 x5 x6 x7 x8 x9 σ = some (r, σe)) : gw X (.inl none) (LM ao aa X.2.2.1 σe) (LM ao aa X.2.2.1 σ) [(0, .ref (ao 0)), (1, .int x1), (3, .int x3), (4, .int x4), (5, .int x5), (6, .int x6), (7, .int x7), (8, .int x8), (9, .int x9)] 122 [] := by
  unfold Mod_quantify_b122 at hf
  refine gw_aload_n hC 0 d_Mod_quantify_122 rfl rfl ?_
  refine gw_iconst hC 0 d_Mod_quantify_123 (by decide) ?_
  obtain ⟨q124, hq124, hf⟩ := g_bind hf
  refine gw_callV hC [.int 0] [] (Mod_see_m _ _ _ ao aa N _ _ _ _ hq124) kc_Mod_158 0 (g_lay_obj rfl) rfl rfl ⟨by decide, by decide⟩ (Nat.le_of_ble_eq_true rfl) [.int 0, .ref (ao 0)] [.int q124.1] rfl rfl d_Mod_quantify_124 ?_
  refine gw_bipush hC 44 d_Mod_quantify_127 (by decide) ?_
  refine gw_icmp_ne hC 218 d_Mod_quantify_129 (by decide) (fun hh => ?_) (fun hh => ?_)
  · rw [if_neg hh] at hf
    refine gw_lv [0, 1, 2, 4, 5, 6] rfl ?_
    exact Mod_quantify_p218 ao aa hC N _ _ _ _ _ _ _ _ hf
  · rw [if_pos hh] at hf
    refine gw_lv [0, 1, 2, 3, 4, 6, 7, 8] rfl ?_
    exact Mod_quantify_p132 ao aa hC N _ _ _ _ _ _ _ _ _ _ hf
def Mod_quantify_b93 (N : Nat) (x1 : Int32) (x3 : Int32) (x4 : Int32) (x7 : Int32) (σ : g_S) : Option (Int32 × g_S) := (Mod_number N σ).bind fun q100 => if 0 ≤ (q100.2.1 12) then Mod_quantify_b218 N x1 x3 q100.1 q100.1 x7 q100.2 else Mod_quantify_b122 N x1 x3 x4 q100.1 q100.1 x7 (σ.1 11) (q100.2.1 11) q100.2
theorem Mod_quantify_p93 (ao aa : Nat → Nat) {X : g_X} (hC : gC X c_Mod_quantify R_Mod 3 63 11 none) (N : Nat) (x1 : Int32) (x3 : Int32) (x4 : Int32) (x7 : Int32) (σ : g_S) (r : Int32) (σe : g_S) (hf : Mod_quantify_b93 N x1 x3 x4 x7 σ = some (r, σe)) : gw X (.inl none) (LM ao aa X.2.2.1 σe) (LM ao aa X.2.2.1 σ) [(0, .ref (ao 0)), (1, .int x1), (3, .int x3), (4, .int x4), (7, .int x7)] 93 [] := by
  unfold Mod_quantify_b93 at hf
  refine gw_aload_n hC 0 d_Mod_quantify_93 rfl rfl ?_
  refine Mg11 hC kf_Mod_129 d_Mod_quantify_94 (σ.1 11) rfl ?_
  refine gw_istore hC [(8, .int (σ.1 11)), (0, .ref (ao 0)), (1, .int x1), (3, .int x3), (4, .int x4), (7, .int x7)] d_Mod_quantify_97 (by decide) rfl ?_
  refine gw_aload_n hC 1 d_Mod_quantify_99 rfl rfl ?_
  obtain ⟨q100, hq100, hf⟩ := g_bind hf
  refine gw_callV hC [] [] (Mod_number_m _ _ _ ao aa N _ _ _ hq100) kc_Mod_191 0 (g_lay_obj rfl) rfl rfl ⟨by decide, by decide⟩ (Nat.le_of_ble_eq_true rfl) [.ref (ao 0)] [.int q100.1] rfl rfl d_Mod_quantify_100 ?_
  refine gw_istore hC [(5, .int q100.1), (8, .int (σ.1 11)), (0, .ref (ao 0)), (1, .int x1), (3, .int x3), (4, .int x4), (7, .int x7)] d_Mod_quantify_103 (by decide) rfl ?_
  refine gw_aload_n hC 2 d_Mod_quantify_105 rfl rfl ?_
  refine Mg11 hC kf_Mod_129 d_Mod_quantify_106 (q100.2.1 11) rfl ?_
  refine gw_istore hC [(9, .int (q100.2.1 11)), (5, .int q100.1), (8, .int (σ.1 11)), (0, .ref (ao 0)), (1, .int x1), (3, .int x3), (4, .int x4), (7, .int x7)] d_Mod_quantify_109 (by decide) rfl ?_
  refine gw_iload hC 1 d_Mod_quantify_111 rfl ?_
  refine gw_istore hC [(6, .int q100.1), (9, .int (q100.2.1 11)), (5, .int q100.1), (8, .int (σ.1 11)), (0, .ref (ao 0)), (1, .int x1), (3, .int x3), (4, .int x4), (7, .int x7)] d_Mod_quantify_113 (by decide) rfl ?_
  refine gw_aload_n hC 4 d_Mod_quantify_115 rfl rfl ?_
  refine Mg12 hC kf_Mod_135 d_Mod_quantify_116 (q100.2.1 12) rfl ?_
  refine gw_if_ge hC 218 d_Mod_quantify_119 (by decide) (fun hh => ?_) (fun hh => ?_)
  · rw [if_pos hh] at hf
    refine gw_lv [4, 5, 6, 2, 0, 8] rfl ?_
    exact Mod_quantify_p218 ao aa hC N _ _ _ _ _ _ _ _ hf
  · rw [if_neg hh] at hf
    refine gw_lv [4, 5, 6, 7, 2, 0, 8, 3, 1] rfl ?_
    exact Mod_quantify_p122 ao aa hC N _ _ _ _ _ _ _ _ _ _ _ hf
def Mod_quantify_b87 (N : Nat) (x1 : Int32) (x2 : Int32) (x3 : Int32) (x4 : Int32) (x5 : Int32) (x6 : Int32) (x7 : Int32) (σ : g_S) : Option (Int32 × g_S) := if x2 = 123 then Mod_quantify_b93 N x1 x3 x4 x7 σ else Mod_quantify_b264 N x1 x3 x5 x6 x7 σ
theorem Mod_quantify_p87 (ao aa : Nat → Nat) {X : g_X} (hC : gC X c_Mod_quantify R_Mod 3 63 11 none) (N : Nat) (x1 : Int32) (x2 : Int32) (x3 : Int32) (x4 : Int32) (x5 : Int32) (x6 : Int32) (x7 : Int32) (σ : g_S) (r : Int32) (σe : g_S) (hf : Mod_quantify_b87 N x1 x2 x3 x4 x5 x6 x7 σ = some (r, σe)) : gw X (.inl none) (LM ao aa X.2.2.1 σe) (LM ao aa X.2.2.1 σ) [(0, .ref (ao 0)), (1, .int x1), (2, .int x2), (3, .int x3), (4, .int x4), (5, .int x5), (6, .int x6), (7, .int x7)] 87 [] := by
  unfold Mod_quantify_b87 at hf
  refine gw_iload_n hC 2 d_Mod_quantify_87 rfl rfl ?_
  refine gw_bipush hC 123 d_Mod_quantify_88 (by decide) ?_
  refine gw_icmp_ne hC 264 d_Mod_quantify_90 (by decide) (fun hh => ?_) (fun hh => ?_)
  · rw [if_neg hh] at hf
    refine gw_lv [0, 1, 3, 5, 6, 7] rfl ?_
    exact Mod_quantify_p264 ao aa hC N _ _ _ _ _ _ _ _ hf
  · rw [if_pos hh] at hf
    refine gw_lv [0, 1, 3, 4, 7] rfl ?_
    exact Mod_quantify_p93 ao aa hC N _ _ _ _ _ _ _ hf
def Mod_quantify_b77 (N : Nat) (x1 : Int32) (x2 : Int32) (x3 : Int32) (x4 : Int32) (x5 : Int32) (x6 : Int32) (x7 : Int32) (σ : g_S) : Option (Int32 × g_S) := Mod_quantify_b87 N x1 x2 x3 x4 x5 x6 x7 (gF σ 11 ((σ.1 11) + 1))
theorem Mod_quantify_p77 (ao aa : Nat → Nat) {X : g_X} (hC : gC X c_Mod_quantify R_Mod 3 63 11 none) (N : Nat) (x1 : Int32) (x2 : Int32) (x3 : Int32) (x4 : Int32) (x5 : Int32) (x6 : Int32) (x7 : Int32) (σ : g_S) (r : Int32) (σe : g_S) (hf : Mod_quantify_b77 N x1 x2 x3 x4 x5 x6 x7 σ = some (r, σe)) : gw X (.inl none) (LM ao aa X.2.2.1 σe) (LM ao aa X.2.2.1 σ) [(0, .ref (ao 0)), (1, .int x1), (2, .int x2), (3, .int x3), (4, .int x4), (5, .int x5), (6, .int x6), (7, .int x7)] 77 [] := by
  unfold Mod_quantify_b77 at hf
  refine gw_aload_n hC 0 d_Mod_quantify_77 rfl rfl ?_
  refine gw_dup hC d_Mod_quantify_78 rfl ?_
  refine Mg11 hC kf_Mod_129 d_Mod_quantify_79 (σ.1 11) rfl ?_
  refine gw_iconst hC 1 d_Mod_quantify_82 (by decide) ?_
  refine gw_iadd hC d_Mod_quantify_83 ?_
  refine Mp11 hC kf_Mod_129 d_Mod_quantify_84 ?_
  exact Mod_quantify_p87 ao aa hC N _ _ _ _ _ _ _ _ _ _ hf
def Mod_quantify_b70 (N : Nat) (x1 : Int32) (x2 : Int32) (x3 : Int32) (x4 : Int32) (x5 : Int32) (x6 : Int32) (s0 : Int32) (σ : g_S) : Option (Int32 × g_S) := if s0 = 0 then Mod_quantify_b87 N x1 x2 x3 x4 x5 x6 s0 σ else Mod_quantify_b77 N x1 x2 x3 x4 x5 x6 s0 σ
theorem Mod_quantify_p70 (ao aa : Nat → Nat) {X : g_X} (hC : gC X c_Mod_quantify R_Mod 3 63 11 none) (N : Nat) (x1 : Int32) (x2 : Int32) (x3 : Int32) (x4 : Int32) (x5 : Int32) (x6 : Int32) (s0 : Int32) (σ : g_S) (r : Int32) (σe : g_S) (hf : Mod_quantify_b70 N x1 x2 x3 x4 x5 x6 s0 σ = some (r, σe)) : gw X (.inl none) (LM ao aa X.2.2.1 σe) (LM ao aa X.2.2.1 σ) [(0, .ref (ao 0)), (1, .int x1), (2, .int x2), (3, .int x3), (4, .int x4), (5, .int x5), (6, .int x6)] 70 [.int s0] := by
  unfold Mod_quantify_b70 at hf
  refine gw_istore hC [(7, .int s0), (0, .ref (ao 0)), (1, .int x1), (2, .int x2), (3, .int x3), (4, .int x4), (5, .int x5), (6, .int x6)] d_Mod_quantify_70 (by decide) rfl ?_
  refine gw_iload hC 0 d_Mod_quantify_72 rfl ?_
  refine gw_if_eq hC 87 d_Mod_quantify_74 (by decide) (fun hh => ?_) (fun hh => ?_)
  · rw [if_pos hh] at hf
    refine gw_lv [1, 2, 3, 4, 5, 6, 7, 0] rfl ?_
    exact Mod_quantify_p87 ao aa hC N _ _ _ _ _ _ _ _ _ _ hf
  · rw [if_neg hh] at hf
    refine gw_lv [1, 2, 3, 4, 5, 6, 7, 0] rfl ?_
    exact Mod_quantify_p77 ao aa hC N _ _ _ _ _ _ _ _ _ _ hf
def Mod_quantify_b65 (N : Nat) (x1 : Int32) (x2 : Int32) (x3 : Int32) (x4 : Int32) (x5 : Int32) (x6 : Int32) (σ : g_S) : Option (Int32 × g_S) := Mod_quantify_b70 N x1 x2 x3 x4 x5 x6 1 σ
theorem Mod_quantify_p65 (ao aa : Nat → Nat) {X : g_X} (hC : gC X c_Mod_quantify R_Mod 3 63 11 none) (N : Nat) (x1 : Int32) (x2 : Int32) (x3 : Int32) (x4 : Int32) (x5 : Int32) (x6 : Int32) (σ : g_S) (r : Int32) (σe : g_S) (hf : Mod_quantify_b65 N x1 x2 x3 x4 x5 x6 σ = some (r, σe)) : gw X (.inl none) (LM ao aa X.2.2.1 σe) (LM ao aa X.2.2.1 σ) [(0, .ref (ao 0)), (1, .int x1), (2, .int x2), (3, .int x3), (4, .int x4), (5, .int x5), (6, .int x6)] 65 [] := by
  unfold Mod_quantify_b65 at hf
  refine gw_iconst hC 1 d_Mod_quantify_65 (by decide) ?_
  refine gw_goto hC 70 d_Mod_quantify_66 (by decide) ?_
  exact Mod_quantify_p70 ao aa hC N _ _ _ _ _ _ _ _ _ _ hf
def Mod_quantify_b69 (N : Nat) (x1 : Int32) (x2 : Int32) (x3 : Int32) (x4 : Int32) (x5 : Int32) (x6 : Int32) (σ : g_S) : Option (Int32 × g_S) := Mod_quantify_b70 N x1 x2 x3 x4 x5 x6 0 σ
theorem Mod_quantify_p69 (ao aa : Nat → Nat) {X : g_X} (hC : gC X c_Mod_quantify R_Mod 3 63 11 none) (N : Nat) (x1 : Int32) (x2 : Int32) (x3 : Int32) (x4 : Int32) (x5 : Int32) (x6 : Int32) (σ : g_S) (r : Int32) (σe : g_S) (hf : Mod_quantify_b69 N x1 x2 x3 x4 x5 x6 σ = some (r, σe)) : gw X (.inl none) (LM ao aa X.2.2.1 σe) (LM ao aa X.2.2.1 σ) [(0, .ref (ao 0)), (1, .int x1), (2, .int x2), (3, .int x3), (4, .int x4), (5, .int x5), (6, .int x6)] 69 [] := by
  unfold Mod_quantify_b69 at hf
  refine gw_iconst hC 0 d_Mod_quantify_69 (by decide) ?_
  exact Mod_quantify_p70 ao aa hC N _ _ _ _ _ _ _ _ _ _ hf
def Mod_quantify_b59 (N : Nat) (x1 : Int32) (x2 : Int32) (x3 : Int32) (x4 : Int32) (x5 : Int32) (x6 : Int32) (σ : g_S) : Option (Int32 × g_S) := if x2 = 123 then Mod_quantify_b65 N x1 x2 x3 x4 x5 x6 σ else Mod_quantify_b69 N x1 x2 x3 x4 x5 x6 σ
theorem Mod_quantify_p59 (ao aa : Nat → Nat) {X : g_X} (hC : gC X c_Mod_quantify R_Mod 3 63 11 none) (N : Nat) (x1 : Int32) (x2 : Int32) (x3 : Int32) (x4 : Int32) (x5 : Int32) (x6 : Int32) (σ : g_S) (r : Int32) (σe : g_S) (hf : Mod_quantify_b59 N x1 x2 x3 x4 x5 x6 σ = some (r, σe)) : gw X (.inl none) (LM ao aa X.2.2.1 σe) (LM ao aa X.2.2.1 σ) [(0, .ref (ao 0)), (1, .int x1), (2, .int x2), (3, .int x3), (4, .int x4), (5, .int x5), (6, .int x6)] 59 [] := by
  unfold Mod_quantify_b59 at hf
  refine gw_iload_n hC 2 d_Mod_quantify_59 rfl rfl ?_
  refine gw_bipush hC 123 d_Mod_quantify_60 (by decide) ?_
  refine gw_icmp_ne hC 69 d_Mod_quantify_62 (by decide) (fun hh => ?_) (fun hh => ?_)
  · rw [if_neg hh] at hf
    exact Mod_quantify_p69 ao aa hC N _ _ _ _ _ _ _ _ _ hf
  · rw [if_pos hh] at hf
    exact Mod_quantify_p65 ao aa hC N _ _ _ _ _ _ _ _ _ hf
def Mod_quantify_b53 (N : Nat) (x1 : Int32) (x2 : Int32) (x3 : Int32) (x4 : Int32) (x5 : Int32) (x6 : Int32) (σ : g_S) : Option (Int32 × g_S) := if x2 = 63 then Mod_quantify_b65 N x1 x2 x3 x4 x5 x6 σ else Mod_quantify_b59 N x1 x2 x3 x4 x5 x6 σ
theorem Mod_quantify_p53 (ao aa : Nat → Nat) {X : g_X} (hC : gC X c_Mod_quantify R_Mod 3 63 11 none) (N : Nat) (x1 : Int32) (x2 : Int32) (x3 : Int32) (x4 : Int32) (x5 : Int32) (x6 : Int32) (σ : g_S) (r : Int32) (σe : g_S) (hf : Mod_quantify_b53 N x1 x2 x3 x4 x5 x6 σ = some (r, σe)) : gw X (.inl none) (LM ao aa X.2.2.1 σe) (LM ao aa X.2.2.1 σ) [(0, .ref (ao 0)), (1, .int x1), (2, .int x2), (3, .int x3), (4, .int x4), (5, .int x5), (6, .int x6)] 53 [] := by
  unfold Mod_quantify_b53 at hf
  refine gw_iload_n hC 2 d_Mod_quantify_53 rfl rfl ?_
  refine gw_bipush hC 63 d_Mod_quantify_54 (by decide) ?_
  refine gw_icmp_eq hC 65 d_Mod_quantify_56 (by decide) (fun hh => ?_) (fun hh => ?_)
  · rw [if_pos hh] at hf
    exact Mod_quantify_p65 ao aa hC N _ _ _ _ _ _ _ _ _ hf
  · rw [if_neg hh] at hf
    exact Mod_quantify_p59 ao aa hC N _ _ _ _ _ _ _ _ _ hf
def Mod_quantify_b47 (N : Nat) (x1 : Int32) (x2 : Int32) (x3 : Int32) (x4 : Int32) (x5 : Int32) (x6 : Int32) (σ : g_S) : Option (Int32 × g_S) := if x2 = 43 then Mod_quantify_b65 N x1 x2 x3 x4 x5 x6 σ else Mod_quantify_b53 N x1 x2 x3 x4 x5 x6 σ
theorem Mod_quantify_p47 (ao aa : Nat → Nat) {X : g_X} (hC : gC X c_Mod_quantify R_Mod 3 63 11 none) (N : Nat) (x1 : Int32) (x2 : Int32) (x3 : Int32) (x4 : Int32) (x5 : Int32) (x6 : Int32) (σ : g_S) (r : Int32) (σe : g_S) (hf : Mod_quantify_b47 N x1 x2 x3 x4 x5 x6 σ = some (r, σe)) : gw X (.inl none) (LM ao aa X.2.2.1 σe) (LM ao aa X.2.2.1 σ) [(0, .ref (ao 0)), (1, .int x1), (2, .int x2), (3, .int x3), (4, .int x4), (5, .int x5), (6, .int x6)] 47 [] := by
  unfold Mod_quantify_b47 at hf
  refine gw_iload_n hC 2 d_Mod_quantify_47 rfl rfl ?_
  refine gw_bipush hC 43 d_Mod_quantify_48 (by decide) ?_
  refine gw_icmp_eq hC 65 d_Mod_quantify_50 (by decide) (fun hh => ?_) (fun hh => ?_)
  · rw [if_pos hh] at hf
    exact Mod_quantify_p65 ao aa hC N _ _ _ _ _ _ _ _ _ hf
  · rw [if_neg hh] at hf
    exact Mod_quantify_p53 ao aa hC N _ _ _ _ _ _ _ _ _ hf
def Mod_quantify_b39 (N : Nat) (x1 : Int32) (x2 : Int32) (x3 : Int32) (x4 : Int32) (x5 : Int32) (s0 : Int32) (σ : g_S) : Option (Int32 × g_S) := if x2 = 42 then Mod_quantify_b65 N x1 x2 x3 x4 x5 s0 σ else Mod_quantify_b47 N x1 x2 x3 x4 x5 s0 σ
theorem Mod_quantify_p39 (ao aa : Nat → Nat) {X : g_X} (hC : gC X c_Mod_quantify R_Mod 3 63 11 none) (N : Nat) (x1 : Int32) (x2 : Int32) (x3 : Int32) (x4 : Int32) (x5 : Int32) (s0 : Int32) (σ : g_S) (r : Int32) (σe : g_S) (hf : Mod_quantify_b39 N x1 x2 x3 x4 x5 s0 σ = some (r, σe)) : gw X (.inl none) (LM ao aa X.2.2.1 σe) (LM ao aa X.2.2.1 σ) [(0, .ref (ao 0)), (1, .int x1), (2, .int x2), (3, .int x3), (4, .int x4), (5, .int x5)] 39 [.int s0] := by
  unfold Mod_quantify_b39 at hf
  refine gw_istore hC [(6, .int s0), (0, .ref (ao 0)), (1, .int x1), (2, .int x2), (3, .int x3), (4, .int x4), (5, .int x5)] d_Mod_quantify_39 (by decide) rfl ?_
  refine gw_iload_n hC 3 d_Mod_quantify_41 rfl rfl ?_
  refine gw_bipush hC 42 d_Mod_quantify_42 (by decide) ?_
  refine gw_icmp_eq hC 65 d_Mod_quantify_44 (by decide) (fun hh => ?_) (fun hh => ?_)
  · rw [if_pos hh] at hf
    refine gw_lv [1, 2, 3, 4, 5, 6, 0] rfl ?_
    exact Mod_quantify_p65 ao aa hC N _ _ _ _ _ _ _ _ _ hf
  · rw [if_neg hh] at hf
    refine gw_lv [1, 2, 3, 4, 5, 6, 0] rfl ?_
    exact Mod_quantify_p47 ao aa hC N _ _ _ _ _ _ _ _ _ hf
def Mod_quantify_b37 (N : Nat) (x1 : Int32) (x2 : Int32) (x3 : Int32) (x4 : Int32) (x5 : Int32) (σ : g_S) : Option (Int32 × g_S) := Mod_quantify_b39 N x1 x2 x3 x4 x5 1000000 σ
theorem Mod_quantify_p37 (ao aa : Nat → Nat) {X : g_X} (hC : gC X c_Mod_quantify R_Mod 3 63 11 none) (N : Nat) (x1 : Int32) (x2 : Int32) (x3 : Int32) (x4 : Int32) (x5 : Int32) (σ : g_S) (r : Int32) (σe : g_S) (hf : Mod_quantify_b37 N x1 x2 x3 x4 x5 σ = some (r, σe)) : gw X (.inl none) (LM ao aa X.2.2.1 σe) (LM ao aa X.2.2.1 σ) [(0, .ref (ao 0)), (1, .int x1), (2, .int x2), (3, .int x3), (4, .int x4), (5, .int x5)] 37 [] := by
  unfold Mod_quantify_b37 at hf
  refine gw_ldc hC 1000000 kn_Mod_190 d_Mod_quantify_37 ?_
  exact Mod_quantify_p39 ao aa hC N _ _ _ _ _ _ _ _ _ hf
def Mod_quantify_b33 (N : Nat) (x1 : Int32) (x2 : Int32) (x3 : Int32) (x4 : Int32) (x5 : Int32) (σ : g_S) : Option (Int32 × g_S) := Mod_quantify_b39 N x1 x2 x3 x4 x5 1 σ
theorem Mod_quantify_p33 (ao aa : Nat → Nat) {X : g_X} (hC : gC X c_Mod_quantify R_Mod 3 63 11 none) (N : Nat) (x1 : Int32) (x2 : Int32) (x3 : Int32) (x4 : Int32) (x5 : Int32) (σ : g_S) (r : Int32) (σe : g_S) (hf : Mod_quantify_b33 N x1 x2 x3 x4 x5 σ = some (r, σe)) : gw X (.inl none) (LM ao aa X.2.2.1 σe) (LM ao aa X.2.2.1 σ) [(0, .ref (ao 0)), (1, .int x1), (2, .int x2), (3, .int x3), (4, .int x4), (5, .int x5)] 33 [] := by
  unfold Mod_quantify_b33 at hf
  refine gw_iconst hC 1 d_Mod_quantify_33 (by decide) ?_
  refine gw_goto hC 39 d_Mod_quantify_34 (by decide) ?_
  exact Mod_quantify_p39 ao aa hC N _ _ _ _ _ _ _ _ _ hf
def Mod_quantify_b25 (N : Nat) (x1 : Int32) (x2 : Int32) (x3 : Int32) (x4 : Int32) (s0 : Int32) (σ : g_S) : Option (Int32 × g_S) := if x2 = 63 then Mod_quantify_b33 N x1 x2 x3 x4 s0 σ else Mod_quantify_b37 N x1 x2 x3 x4 s0 σ
theorem Mod_quantify_p25 (ao aa : Nat → Nat) {X : g_X} (hC : gC X c_Mod_quantify R_Mod 3 63 11 none) (N : Nat) (x1 : Int32) (x2 : Int32) (x3 : Int32) (x4 : Int32) (s0 : Int32) (σ : g_S) (r : Int32) (σe : g_S) (hf : Mod_quantify_b25 N x1 x2 x3 x4 s0 σ = some (r, σe)) : gw X (.inl none) (LM ao aa X.2.2.1 σe) (LM ao aa X.2.2.1 σ) [(0, .ref (ao 0)), (1, .int x1), (2, .int x2), (3, .int x3), (4, .int x4)] 25 [.int s0] := by
  unfold Mod_quantify_b25 at hf
  refine gw_istore hC [(5, .int s0), (0, .ref (ao 0)), (1, .int x1), (2, .int x2), (3, .int x3), (4, .int x4)] d_Mod_quantify_25 (by decide) rfl ?_
  refine gw_iload_n hC 3 d_Mod_quantify_27 rfl rfl ?_
  refine gw_bipush hC 63 d_Mod_quantify_28 (by decide) ?_
  refine gw_icmp_ne hC 37 d_Mod_quantify_30 (by decide) (fun hh => ?_) (fun hh => ?_)
  · rw [if_neg hh] at hf
    refine gw_lv [1, 2, 3, 4, 5, 0] rfl ?_
    exact Mod_quantify_p37 ao aa hC N _ _ _ _ _ _ _ _ hf
  · rw [if_pos hh] at hf
    refine gw_lv [1, 2, 3, 4, 5, 0] rfl ?_
    exact Mod_quantify_p33 ao aa hC N _ _ _ _ _ _ _ _ hf
def Mod_quantify_b24 (N : Nat) (x1 : Int32) (x2 : Int32) (x3 : Int32) (x4 : Int32) (σ : g_S) : Option (Int32 × g_S) := Mod_quantify_b25 N x1 x2 x3 x4 0 σ
theorem Mod_quantify_p24 (ao aa : Nat → Nat) {X : g_X} (hC : gC X c_Mod_quantify R_Mod 3 63 11 none) (N : Nat) (x1 : Int32) (x2 : Int32) (x3 : Int32) (x4 : Int32) (σ : g_S) (r : Int32) (σe : g_S) (hf : Mod_quantify_b24 N x1 x2 x3 x4 σ = some (r, σe)) : gw X (.inl none) (LM ao aa X.2.2.1 σe) (LM ao aa X.2.2.1 σ) [(0, .ref (ao 0)), (1, .int x1), (2, .int x2), (3, .int x3), (4, .int x4)] 24 [] := by
  unfold Mod_quantify_b24 at hf
  refine gw_iconst hC 0 d_Mod_quantify_24 (by decide) ?_
  exact Mod_quantify_p25 ao aa hC N _ _ _ _ _ _ _ _ hf
def Mod_quantify_b20 (N : Nat) (x1 : Int32) (x2 : Int32) (x3 : Int32) (x4 : Int32) (σ : g_S) : Option (Int32 × g_S) := Mod_quantify_b25 N x1 x2 x3 x4 1 σ
theorem Mod_quantify_p20 (ao aa : Nat → Nat) {X : g_X} (hC : gC X c_Mod_quantify R_Mod 3 63 11 none) (N : Nat) (x1 : Int32) (x2 : Int32) (x3 : Int32) (x4 : Int32) (σ : g_S) (r : Int32) (σe : g_S) (hf : Mod_quantify_b20 N x1 x2 x3 x4 σ = some (r, σe)) : gw X (.inl none) (LM ao aa X.2.2.1 σe) (LM ao aa X.2.2.1 σ) [(0, .ref (ao 0)), (1, .int x1), (2, .int x2), (3, .int x3), (4, .int x4)] 20 [] := by
  unfold Mod_quantify_b20 at hf
  refine gw_iconst hC 1 d_Mod_quantify_20 (by decide) ?_
  refine gw_goto hC 25 d_Mod_quantify_21 (by decide) ?_
  exact Mod_quantify_p25 ao aa hC N _ _ _ _ _ _ _ _ hf
def Mod_quantify_b0 (N : Nat) (x1 : Int32) (σ : g_S) : Option (Int32 × g_S) := (Mod_see N 0 σ).bind fun q2 => if q2.1 = 43 then Mod_quantify_b20 N x1 q2.1 x1 (q2.2.1 11) q2.2 else Mod_quantify_b24 N x1 q2.1 x1 (q2.2.1 11) q2.2
theorem Mod_quantify_p0 (ao aa : Nat → Nat) {X : g_X} (hC : gC X c_Mod_quantify R_Mod 3 63 11 none) (N : Nat) (x1 : Int32) (σ : g_S) (r : Int32) (σe : g_S) (hf : Mod_quantify_b0 N x1 σ = some (r, σe)) : gw X (.inl none) (LM ao aa X.2.2.1 σe) (LM ao aa X.2.2.1 σ) [(0, .ref (ao 0)), (1, .int x1)] 0 [] := by
  unfold Mod_quantify_b0 at hf
  refine gw_aload_n hC 0 d_Mod_quantify_0 rfl rfl ?_
  refine gw_iconst hC 0 d_Mod_quantify_1 (by decide) ?_
  obtain ⟨q2, hq2, hf⟩ := g_bind hf
  refine gw_callV hC [.int 0] [] (Mod_see_m _ _ _ ao aa N _ _ _ _ hq2) kc_Mod_158 0 (g_lay_obj rfl) rfl rfl ⟨by decide, by decide⟩ (Nat.le_of_ble_eq_true rfl) [.int 0, .ref (ao 0)] [.int q2.1] rfl rfl d_Mod_quantify_2 ?_
  refine gw_istore_n hC [(2, .int q2.1), (0, .ref (ao 0)), (1, .int x1)] d_Mod_quantify_5 rfl (by decide) rfl ?_
  refine gw_iload_n hC 2 d_Mod_quantify_6 rfl rfl ?_
  refine gw_istore_n hC [(3, .int x1), (2, .int q2.1), (0, .ref (ao 0)), (1, .int x1)] d_Mod_quantify_7 rfl (by decide) rfl ?_
  refine gw_aload_n hC 2 d_Mod_quantify_8 rfl rfl ?_
  refine Mg11 hC kf_Mod_129 d_Mod_quantify_9 (q2.2.1 11) rfl ?_
  refine gw_istore hC [(4, .int (q2.2.1 11)), (3, .int x1), (2, .int q2.1), (0, .ref (ao 0)), (1, .int x1)] d_Mod_quantify_12 (by decide) rfl ?_
  refine gw_iload_n hC 2 d_Mod_quantify_14 rfl rfl ?_
  refine gw_bipush hC 43 d_Mod_quantify_15 (by decide) ?_
  refine gw_icmp_ne hC 24 d_Mod_quantify_17 (by decide) (fun hh => ?_) (fun hh => ?_)
  · rw [if_neg hh] at hf
    refine gw_lv [3, 4, 2, 1, 0] rfl ?_
    exact Mod_quantify_p24 ao aa hC N _ _ _ _ _ _ _ hf
  · rw [if_pos hh] at hf
    refine gw_lv [3, 4, 2, 1, 0] rfl ?_
    exact Mod_quantify_p20 ao aa hC N _ _ _ _ _ _ _ hf
def Mod_quantify (N : Nat) (x1 : Int32) (σ : g_S) : Option (Int32 × g_S) := Mod_quantify_b0 N x1 σ
theorem Mod_quantify_m (l : Launch) (D : va_G) (cA : ClassId) (ao aa : Nat → Nat) (N : Nat) (x1 : Int32) (σ : g_S) (r : Int32) (σe : g_S) (hf : Mod_quantify N x1 σ = some (r, σe)) : Mt l D cA y_Mod_quantify c_Mod_quantify 11 none 3 63 [.ref (ao 0), .int x1] (LM ao aa cA σ) none (LM ao aa cA σe) := by
  refine g_met (by decide +kernel) (by simp [lg_sl, Value.category]) (fun X e1 e2 e3 hC => ?_)
  subst e1 e2 e3
  refine gw_lv [0, 1] rfl ?_
  exact Mod_quantify_p0 ao aa hC N _ _ (r) _ hf
def Mod_openGroup_b183 (N : Nat) (x2 : Int32) (s1 : Int32) (s2 : Int32) (σ : g_S) : Option (Int32 × g_S) := (Mod_opens N x2 (gF (gF σ 11 (s1 + s2)) 14 ((σ.1 14) + 1))).bind fun q199 => some (0, q199.2)
theorem Mod_openGroup_p183 (ao aa : Nat → Nat) {X : g_X} (hC : gC X c_Mod_openGroup R_Mod 3 65 3 none) (N : Nat) (x2 : Int32) (s1 : Int32) (s2 : Int32) (σ : g_S) (r : Int32) (σe : g_S) (hf : Mod_openGroup_b183 N x2 s1 s2 σ = some (r, σe)) : gw X (.inl none) (LM ao aa X.2.2.1 σe) (LM ao aa X.2.2.1 σ) [(0, .ref (ao 0)), (2, .int x2)] 183 [.int s2, .int s1, .ref (ao 0)] := by
  unfold Mod_openGroup_b183 at hf
  refine gw_iadd hC d_Mod_openGroup_183 ?_
  refine Mp11 hC kf_Mod_129 d_Mod_openGroup_184 ?_
  refine gw_aload_n hC 0 d_Mod_openGroup_187 rfl rfl ?_
  refine gw_dup hC d_Mod_openGroup_188 rfl ?_
  refine Mg14 hC kf_Mod_144 d_Mod_openGroup_189 (σ.1 14) rfl ?_
  refine gw_iconst hC 1 d_Mod_openGroup_192 (by decide) ?_
  refine gw_iadd hC d_Mod_openGroup_193 ?_
  refine Mp14 hC kf_Mod_144 d_Mod_openGroup_194 ?_
  refine gw_aload_n hC 0 d_Mod_openGroup_197 rfl rfl ?_
  refine gw_iload_n hC 1 d_Mod_openGroup_198 rfl rfl ?_
  obtain ⟨q199, hq199, hf⟩ := g_bind hf
  refine gw_callV hC [.int x2] [] (Mod_opens_m _ _ _ ao aa N _ _ _ _ hq199) kc_Mod_198 0 (g_lay_obj rfl) rfl rfl ⟨by decide, by decide⟩ (Nat.le_of_ble_eq_true rfl) [.int x2, .ref (ao 0)] [] rfl rfl d_Mod_openGroup_199 ?_
  cases hf
  exact gw_vret hC d_Mod_openGroup_202
def Mod_openGroup_b182 (N : Nat) (x2 : Int32) (s1 : Int32) (σ : g_S) : Option (Int32 × g_S) := Mod_openGroup_b183 N x2 s1 3 σ
theorem Mod_openGroup_p182 (ao aa : Nat → Nat) {X : g_X} (hC : gC X c_Mod_openGroup R_Mod 3 65 3 none) (N : Nat) (x2 : Int32) (s1 : Int32) (σ : g_S) (r : Int32) (σe : g_S) (hf : Mod_openGroup_b182 N x2 s1 σ = some (r, σe)) : gw X (.inl none) (LM ao aa X.2.2.1 σe) (LM ao aa X.2.2.1 σ) [(0, .ref (ao 0)), (2, .int x2)] 182 [.int s1, .ref (ao 0)] := by
  unfold Mod_openGroup_b182 at hf
  refine gw_iconst hC 3 d_Mod_openGroup_182 (by decide) ?_
  exact Mod_openGroup_p183 ao aa hC N _ _ _ _ _ _ hf
def Mod_openGroup_b178 (N : Nat) (x2 : Int32) (s1 : Int32) (σ : g_S) : Option (Int32 × g_S) := Mod_openGroup_b183 N x2 s1 1 σ
theorem Mod_openGroup_p178 (ao aa : Nat → Nat) {X : g_X} (hC : gC X c_Mod_openGroup R_Mod 3 65 3 none) (N : Nat) (x2 : Int32) (s1 : Int32) (σ : g_S) (r : Int32) (σe : g_S) (hf : Mod_openGroup_b178 N x2 s1 σ = some (r, σe)) : gw X (.inl none) (LM ao aa X.2.2.1 σe) (LM ao aa X.2.2.1 σ) [(0, .ref (ao 0)), (2, .int x2)] 178 [.int s1, .ref (ao 0)] := by
  unfold Mod_openGroup_b178 at hf
  refine gw_iconst hC 1 d_Mod_openGroup_178 (by decide) ?_
  refine gw_goto hC 183 d_Mod_openGroup_179 (by decide) ?_
  exact Mod_openGroup_p183 ao aa hC N _ _ _ _ _ _ hf
def Mod_openGroup_b167 (N : Nat) (x1 : Int32) (x2 : Int32) (σ : g_S) : Option (Int32 × g_S) := if x1 = 12 then Mod_openGroup_b178 N x2 (σ.1 11) σ else Mod_openGroup_b182 N x2 (σ.1 11) σ
theorem Mod_openGroup_p167 (ao aa : Nat → Nat) {X : g_X} (hC : gC X c_Mod_openGroup R_Mod 3 65 3 none) (N : Nat) (x1 : Int32) (x2 : Int32) (σ : g_S) (r : Int32) (σe : g_S) (hf : Mod_openGroup_b167 N x1 x2 σ = some (r, σe)) : gw X (.inl none) (LM ao aa X.2.2.1 σe) (LM ao aa X.2.2.1 σ) [(0, .ref (ao 0)), (1, .int x1), (2, .int x2)] 167 [] := by
  unfold Mod_openGroup_b167 at hf
  refine gw_aload_n hC 0 d_Mod_openGroup_167 rfl rfl ?_
  refine gw_aload_n hC 0 d_Mod_openGroup_168 rfl rfl ?_
  refine Mg11 hC kf_Mod_129 d_Mod_openGroup_169 (σ.1 11) rfl ?_
  refine gw_iload_n hC 1 d_Mod_openGroup_172 rfl rfl ?_
  refine gw_bipush hC 12 d_Mod_openGroup_173 (by decide) ?_
  refine gw_icmp_ne hC 182 d_Mod_openGroup_175 (by decide) (fun hh => ?_) (fun hh => ?_)
  · rw [if_neg hh] at hf
    refine gw_lv [0, 2] rfl ?_
    exact Mod_openGroup_p182 ao aa hC N _ _ _ _ _ hf
  · rw [if_pos hh] at hf
    refine gw_lv [0, 2] rfl ?_
    exact Mod_openGroup_p178 ao aa hC N _ _ _ _ _ hf
def Mod_openGroup_b157 (N : Nat) (x1 : Int32) (x2 : Int32) (σ : g_S) : Option (Int32 × g_S) := Mod_openGroup_b167 N x1 x2 (gF σ 9 ((σ.1 9) + 1))
theorem Mod_openGroup_p157 (ao aa : Nat → Nat) {X : g_X} (hC : gC X c_Mod_openGroup R_Mod 3 65 3 none) (N : Nat) (x1 : Int32) (x2 : Int32) (σ : g_S) (r : Int32) (σe : g_S) (hf : Mod_openGroup_b157 N x1 x2 σ = some (r, σe)) : gw X (.inl none) (LM ao aa X.2.2.1 σe) (LM ao aa X.2.2.1 σ) [(0, .ref (ao 0)), (1, .int x1), (2, .int x2)] 157 [] := by
  unfold Mod_openGroup_b157 at hf
  refine gw_aload_n hC 0 d_Mod_openGroup_157 rfl rfl ?_
  refine gw_dup hC d_Mod_openGroup_158 rfl ?_
  refine Mg9 hC kf_Mod_141 d_Mod_openGroup_159 (σ.1 9) rfl ?_
  refine gw_iconst hC 1 d_Mod_openGroup_162 (by decide) ?_
  refine gw_iadd hC d_Mod_openGroup_163 ?_
  refine Mp9 hC kf_Mod_141 d_Mod_openGroup_164 ?_
  exact Mod_openGroup_p167 ao aa hC N _ _ _ _ _ hf
def Mod_openGroup_b137 (N : Nat) (x1 : Int32) (σ : g_S) : Option (Int32 × g_S) := (Mod_node N x1 ((σ.1 9) + 1) 0 0 σ).bind fun q147 => if x1 = 12 then Mod_openGroup_b157 N x1 q147.1 q147.2 else Mod_openGroup_b167 N x1 q147.1 q147.2
theorem Mod_openGroup_p137 (ao aa : Nat → Nat) {X : g_X} (hC : gC X c_Mod_openGroup R_Mod 3 65 3 none) (N : Nat) (x1 : Int32) (σ : g_S) (r : Int32) (σe : g_S) (hf : Mod_openGroup_b137 N x1 σ = some (r, σe)) : gw X (.inl none) (LM ao aa X.2.2.1 σe) (LM ao aa X.2.2.1 σ) [(0, .ref (ao 0)), (1, .int x1)] 137 [] := by
  unfold Mod_openGroup_b137 at hf
  refine gw_aload_n hC 0 d_Mod_openGroup_137 rfl rfl ?_
  refine gw_iload_n hC 1 d_Mod_openGroup_138 rfl rfl ?_
  refine gw_aload_n hC 0 d_Mod_openGroup_139 rfl rfl ?_
  refine Mg9 hC kf_Mod_141 d_Mod_openGroup_140 (σ.1 9) rfl ?_
  refine gw_iconst hC 1 d_Mod_openGroup_143 (by decide) ?_
  refine gw_iadd hC d_Mod_openGroup_144 ?_
  refine gw_iconst hC 0 d_Mod_openGroup_145 (by decide) ?_
  refine gw_iconst hC 0 d_Mod_openGroup_146 (by decide) ?_
  obtain ⟨q147, hq147, hf⟩ := g_bind hf
  refine gw_callV hC [.int x1, .int ((σ.1 9) + 1), .int 0, .int 0] [] (Mod_node_m _ _ _ ao aa N _ _ _ _ _ _ _ hq147) kc_Mod_147 0 (g_lay_obj rfl) rfl rfl ⟨by decide, by decide⟩ (Nat.le_of_ble_eq_true rfl) [.int 0, .int 0, .int ((σ.1 9) + 1), .int x1, .ref (ao 0)] [.int q147.1] rfl rfl d_Mod_openGroup_147 ?_
  refine gw_istore_n hC [(2, .int q147.1), (0, .ref (ao 0)), (1, .int x1)] d_Mod_openGroup_150 rfl (by decide) rfl ?_
  refine gw_iload_n hC 2 d_Mod_openGroup_151 rfl rfl ?_
  refine gw_bipush hC 12 d_Mod_openGroup_152 (by decide) ?_
  refine gw_icmp_ne hC 167 d_Mod_openGroup_154 (by decide) (fun hh => ?_) (fun hh => ?_)
  · rw [if_neg hh] at hf
    refine gw_lv [1, 2, 0] rfl ?_
    exact Mod_openGroup_p167 ao aa hC N _ _ _ _ _ hf
  · rw [if_pos hh] at hf
    refine gw_lv [1, 2, 0] rfl ?_
    exact Mod_openGroup_p157 ao aa hC N _ _ _ _ _ hf
def Mod_openGroup_b136 (N : Nat) (σ : g_S) : Option (Int32 × g_S) := some (0, σ)
theorem Mod_openGroup_p136 (ao aa : Nat → Nat) {X : g_X} (hC : gC X c_Mod_openGroup R_Mod 3 65 3 none) (N : Nat) (σ : g_S) (r : Int32) (σe : g_S) (hf : Mod_openGroup_b136 N σ = some (r, σe)) : gw X (.inl none) (LM ao aa X.2.2.1 σe) (LM ao aa X.2.2.1 σ) [(0, .ref (ao 0))] 136 [] := by
  unfold Mod_openGroup_b136 at hf
  cases hf
  exact gw_vret hC d_Mod_openGroup_136
def Mod_openGroup_b129 (N : Nat) (x1 : Int32) (σ : g_S) : Option (Int32 × g_S) := if (σ.1 12) < 0 then Mod_openGroup_b137 N x1 σ else Mod_openGroup_b136 N σ
theorem Mod_openGroup_p129 (ao aa : Nat → Nat) {X : g_X} (hC : gC X c_Mod_openGroup R_Mod 3 65 3 none) (N : Nat) (x1 : Int32) (σ : g_S) (r : Int32) (σe : g_S) (hf : Mod_openGroup_b129 N x1 σ = some (r, σe)) : gw X (.inl none) (LM ao aa X.2.2.1 σe) (LM ao aa X.2.2.1 σ) [(0, .ref (ao 0)), (1, .int x1)] 129 [] := by
  unfold Mod_openGroup_b129 at hf
  refine gw_aload_n hC 0 d_Mod_openGroup_129 rfl rfl ?_
  refine Mg12 hC kf_Mod_135 d_Mod_openGroup_130 (σ.1 12) rfl ?_
  refine gw_if_lt hC 137 d_Mod_openGroup_133 (by decide) (fun hh => ?_) (fun hh => ?_)
  · rw [if_pos hh] at hf
    exact Mod_openGroup_p137 ao aa hC N _ _ _ _ hf
  · rw [if_neg hh] at hf
    refine gw_lv [0] rfl ?_
    exact Mod_openGroup_p136 ao aa hC N _ _ _ hf
def Mod_openGroup_b121 (N : Nat) (x1 : Int32) (σ : g_S) : Option (Int32 × g_S) := (Mod_fail N (σ.1 11) σ).bind fun q126 => Mod_openGroup_b129 N x1 q126.2
theorem Mod_openGroup_p121 (ao aa : Nat → Nat) {X : g_X} (hC : gC X c_Mod_openGroup R_Mod 3 65 3 none) (N : Nat) (x1 : Int32) (σ : g_S) (r : Int32) (σe : g_S) (hf : Mod_openGroup_b121 N x1 σ = some (r, σe)) : gw X (.inl none) (LM ao aa X.2.2.1 σe) (LM ao aa X.2.2.1 σ) [(0, .ref (ao 0)), (1, .int x1)] 121 [] := by
  unfold Mod_openGroup_b121 at hf
  refine gw_aload_n hC 0 d_Mod_openGroup_121 rfl rfl ?_
  refine gw_aload_n hC 0 d_Mod_openGroup_122 rfl rfl ?_
  refine Mg11 hC kf_Mod_129 d_Mod_openGroup_123 (σ.1 11) rfl ?_
  obtain ⟨q126, hq126, hf⟩ := g_bind hf
  refine gw_callV hC [.int (σ.1 11)] [] (Mod_fail_m _ _ _ ao aa N _ _ _ _ hq126) kc_Mod_165 0 (g_lay_obj rfl) rfl rfl ⟨by decide, by decide⟩ (Nat.le_of_ble_eq_true rfl) [.int (σ.1 11), .ref (ao 0)] [] rfl rfl d_Mod_openGroup_126 ?_
  exact Mod_openGroup_p129 ao aa hC N _ _ _ _ hf
def Mod_openGroup_b112 (N : Nat) (x1 : Int32) (σ : g_S) : Option (Int32 × g_S) := if (σ.1 9) = 20 then Mod_openGroup_b121 N x1 σ else Mod_openGroup_b129 N x1 σ
theorem Mod_openGroup_p112 (ao aa : Nat → Nat) {X : g_X} (hC : gC X c_Mod_openGroup R_Mod 3 65 3 none) (N : Nat) (x1 : Int32) (σ : g_S) (r : Int32) (σe : g_S) (hf : Mod_openGroup_b112 N x1 σ = some (r, σe)) : gw X (.inl none) (LM ao aa X.2.2.1 σe) (LM ao aa X.2.2.1 σ) [(0, .ref (ao 0)), (1, .int x1)] 112 [] := by
  unfold Mod_openGroup_b112 at hf
  refine gw_aload_n hC 0 d_Mod_openGroup_112 rfl rfl ?_
  refine Mg9 hC kf_Mod_141 d_Mod_openGroup_113 (σ.1 9) rfl ?_
  refine gw_bipush hC 20 d_Mod_openGroup_116 (by decide) ?_
  refine gw_icmp_ne hC 129 d_Mod_openGroup_118 (by decide) (fun hh => ?_) (fun hh => ?_)
  · rw [if_neg hh] at hf
    exact Mod_openGroup_p129 ao aa hC N _ _ _ _ hf
  · rw [if_pos hh] at hf
    exact Mod_openGroup_p121 ao aa hC N _ _ _ _ hf
def Mod_openGroup_b109 (N : Nat) (x1 : Int32) (σ : g_S) : Option (Int32 × g_S) := Mod_openGroup_b129 N x1 σ
theorem Mod_openGroup_p109 (ao aa : Nat → Nat) {X : g_X} (hC : gC X c_Mod_openGroup R_Mod 3 65 3 none) (N : Nat) (x1 : Int32) (σ : g_S) (r : Int32) (σe : g_S) (hf : Mod_openGroup_b109 N x1 σ = some (r, σe)) : gw X (.inl none) (LM ao aa X.2.2.1 σe) (LM ao aa X.2.2.1 σ) [(0, .ref (ao 0)), (1, .int x1)] 109 [] := by
  unfold Mod_openGroup_b109 at hf
  refine gw_goto hC 129 d_Mod_openGroup_109 (by decide) ?_
  exact Mod_openGroup_p129 ao aa hC N _ _ _ _ hf
def Mod_openGroup_b106 (N : Nat) (x1 : Int32) (s1 : Int32) (σ : g_S) : Option (Int32 × g_S) := (Mod_fail N s1 σ).bind fun q106 => Mod_openGroup_b109 N x1 q106.2
theorem Mod_openGroup_p106 (ao aa : Nat → Nat) {X : g_X} (hC : gC X c_Mod_openGroup R_Mod 3 65 3 none) (N : Nat) (x1 : Int32) (s1 : Int32) (σ : g_S) (r : Int32) (σe : g_S) (hf : Mod_openGroup_b106 N x1 s1 σ = some (r, σe)) : gw X (.inl none) (LM ao aa X.2.2.1 σe) (LM ao aa X.2.2.1 σ) [(0, .ref (ao 0)), (1, .int x1)] 106 [.int s1, .ref (ao 0)] := by
  unfold Mod_openGroup_b106 at hf
  obtain ⟨q106, hq106, hf⟩ := g_bind hf
  refine gw_callV hC [.int s1] [] (Mod_fail_m _ _ _ ao aa N _ _ _ _ hq106) kc_Mod_165 0 (g_lay_obj rfl) rfl rfl ⟨by decide, by decide⟩ (Nat.le_of_ble_eq_true rfl) [.int s1, .ref (ao 0)] [] rfl rfl d_Mod_openGroup_106 ?_
  exact Mod_openGroup_p109 ao aa hC N _ _ _ _ hf
def Mod_openGroup_b102 (N : Nat) (x1 : Int32) (σ : g_S) : Option (Int32 × g_S) := Mod_openGroup_b106 N x1 (σ.1 2) σ
theorem Mod_openGroup_p102 (ao aa : Nat → Nat) {X : g_X} (hC : gC X c_Mod_openGroup R_Mod 3 65 3 none) (N : Nat) (x1 : Int32) (σ : g_S) (r : Int32) (σe : g_S) (hf : Mod_openGroup_b102 N x1 σ = some (r, σe)) : gw X (.inl none) (LM ao aa X.2.2.1 σe) (LM ao aa X.2.2.1 σ) [(0, .ref (ao 0)), (1, .int x1)] 102 [.ref (ao 0)] := by
  unfold Mod_openGroup_b102 at hf
  refine gw_aload_n hC 0 d_Mod_openGroup_102 rfl rfl ?_
  refine Mg2 hC kf_Mod_132 d_Mod_openGroup_103 (σ.1 2) rfl ?_
  exact Mod_openGroup_p106 ao aa hC N _ _ _ _ _ hf
def Mod_openGroup_b93 (N : Nat) (x1 : Int32) (σ : g_S) : Option (Int32 × g_S) := Mod_openGroup_b106 N x1 ((σ.1 11) + 2) σ
theorem Mod_openGroup_p93 (ao aa : Nat → Nat) {X : g_X} (hC : gC X c_Mod_openGroup R_Mod 3 65 3 none) (N : Nat) (x1 : Int32) (σ : g_S) (r : Int32) (σe : g_S) (hf : Mod_openGroup_b93 N x1 σ = some (r, σe)) : gw X (.inl none) (LM ao aa X.2.2.1 σe) (LM ao aa X.2.2.1 σ) [(0, .ref (ao 0)), (1, .int x1)] 93 [.ref (ao 0)] := by
  unfold Mod_openGroup_b93 at hf
  refine gw_aload_n hC 0 d_Mod_openGroup_93 rfl rfl ?_
  refine Mg11 hC kf_Mod_129 d_Mod_openGroup_94 (σ.1 11) rfl ?_
  refine gw_iconst hC 2 d_Mod_openGroup_97 (by decide) ?_
  refine gw_iadd hC d_Mod_openGroup_98 ?_
  refine gw_goto hC 106 d_Mod_openGroup_99 (by decide) ?_
  exact Mod_openGroup_p106 ao aa hC N _ _ _ _ _ hf
def Mod_openGroup_b79 (N : Nat) (x1 : Int32) (σ : g_S) : Option (Int32 × g_S) := if (σ.1 2) ≤ ((σ.1 11) + 2) then Mod_openGroup_b102 N x1 σ else Mod_openGroup_b93 N x1 σ
theorem Mod_openGroup_p79 (ao aa : Nat → Nat) {X : g_X} (hC : gC X c_Mod_openGroup R_Mod 3 65 3 none) (N : Nat) (x1 : Int32) (σ : g_S) (r : Int32) (σe : g_S) (hf : Mod_openGroup_b79 N x1 σ = some (r, σe)) : gw X (.inl none) (LM ao aa X.2.2.1 σe) (LM ao aa X.2.2.1 σ) [(0, .ref (ao 0)), (1, .int x1)] 79 [] := by
  unfold Mod_openGroup_b79 at hf
  refine gw_aload_n hC 0 d_Mod_openGroup_79 rfl rfl ?_
  refine gw_aload_n hC 0 d_Mod_openGroup_80 rfl rfl ?_
  refine Mg11 hC kf_Mod_129 d_Mod_openGroup_81 (σ.1 11) rfl ?_
  refine gw_iconst hC 2 d_Mod_openGroup_84 (by decide) ?_
  refine gw_iadd hC d_Mod_openGroup_85 ?_
  refine gw_aload_n hC 0 d_Mod_openGroup_86 rfl rfl ?_
  refine Mg2 hC kf_Mod_132 d_Mod_openGroup_87 (σ.1 2) rfl ?_
  refine gw_icmp_ge hC 102 d_Mod_openGroup_90 (by decide) (fun hh => ?_) (fun hh => ?_)
  · rw [if_pos hh] at hf
    exact Mod_openGroup_p102 ao aa hC N _ _ _ _ hf
  · rw [if_neg hh] at hf
    exact Mod_openGroup_p93 ao aa hC N _ _ _ _ hf
def Mod_openGroup_b73 (N : Nat) (x1 : Int32) (x2 : Int32) (σ : g_S) : Option (Int32 × g_S) := if x2 = 33 then Mod_openGroup_b109 N x1 σ else Mod_openGroup_b79 N x1 σ
theorem Mod_openGroup_p73 (ao aa : Nat → Nat) {X : g_X} (hC : gC X c_Mod_openGroup R_Mod 3 65 3 none) (N : Nat) (x1 : Int32) (x2 : Int32) (σ : g_S) (r : Int32) (σe : g_S) (hf : Mod_openGroup_b73 N x1 x2 σ = some (r, σe)) : gw X (.inl none) (LM ao aa X.2.2.1 σe) (LM ao aa X.2.2.1 σ) [(0, .ref (ao 0)), (1, .int x1), (2, .int x2)] 73 [] := by
  unfold Mod_openGroup_b73 at hf
  refine gw_iload_n hC 2 d_Mod_openGroup_73 rfl rfl ?_
  refine gw_bipush hC 33 d_Mod_openGroup_74 (by decide) ?_
  refine gw_icmp_eq hC 109 d_Mod_openGroup_76 (by decide) (fun hh => ?_) (fun hh => ?_)
  · rw [if_pos hh] at hf
    refine gw_lv [0, 1] rfl ?_
    exact Mod_openGroup_p109 ao aa hC N _ _ _ _ hf
  · rw [if_neg hh] at hf
    refine gw_lv [0, 1] rfl ?_
    exact Mod_openGroup_p79 ao aa hC N _ _ _ _ hf
def Mod_openGroup_b67 (N : Nat) (x1 : Int32) (x2 : Int32) (σ : g_S) : Option (Int32 × g_S) := if x2 = 61 then Mod_openGroup_b109 N x1 σ else Mod_openGroup_b73 N x1 x2 σ
theorem Mod_openGroup_p67 (ao aa : Nat → Nat) {X : g_X} (hC : gC X c_Mod_openGroup R_Mod 3 65 3 none) (N : Nat) (x1 : Int32) (x2 : Int32) (σ : g_S) (r : Int32) (σe : g_S) (hf : Mod_openGroup_b67 N x1 x2 σ = some (r, σe)) : gw X (.inl none) (LM ao aa X.2.2.1 σe) (LM ao aa X.2.2.1 σ) [(0, .ref (ao 0)), (1, .int x1), (2, .int x2)] 67 [] := by
  unfold Mod_openGroup_b67 at hf
  refine gw_iload_n hC 2 d_Mod_openGroup_67 rfl rfl ?_
  refine gw_bipush hC 61 d_Mod_openGroup_68 (by decide) ?_
  refine gw_icmp_eq hC 109 d_Mod_openGroup_70 (by decide) (fun hh => ?_) (fun hh => ?_)
  · rw [if_pos hh] at hf
    refine gw_lv [0, 1] rfl ?_
    exact Mod_openGroup_p109 ao aa hC N _ _ _ _ hf
  · rw [if_neg hh] at hf
    exact Mod_openGroup_p73 ao aa hC N _ _ _ _ _ hf
def Mod_openGroup_b60 (N : Nat) (x2 : Int32) (s0 : Int32) (σ : g_S) : Option (Int32 × g_S) := if x2 = 58 then Mod_openGroup_b109 N s0 σ else Mod_openGroup_b67 N s0 x2 σ
theorem Mod_openGroup_p60 (ao aa : Nat → Nat) {X : g_X} (hC : gC X c_Mod_openGroup R_Mod 3 65 3 none) (N : Nat) (x2 : Int32) (s0 : Int32) (σ : g_S) (r : Int32) (σe : g_S) (hf : Mod_openGroup_b60 N x2 s0 σ = some (r, σe)) : gw X (.inl none) (LM ao aa X.2.2.1 σe) (LM ao aa X.2.2.1 σ) [(0, .ref (ao 0)), (2, .int x2)] 60 [.int s0] := by
  unfold Mod_openGroup_b60 at hf
  refine gw_istore_n hC [(1, .int s0), (0, .ref (ao 0)), (2, .int x2)] d_Mod_openGroup_60 rfl (by decide) rfl ?_
  refine gw_iload_n hC 2 d_Mod_openGroup_61 rfl rfl ?_
  refine gw_bipush hC 58 d_Mod_openGroup_62 (by decide) ?_
  refine gw_icmp_eq hC 109 d_Mod_openGroup_64 (by decide) (fun hh => ?_) (fun hh => ?_)
  · rw [if_pos hh] at hf
    refine gw_lv [1, 0] rfl ?_
    exact Mod_openGroup_p109 ao aa hC N _ _ _ _ hf
  · rw [if_neg hh] at hf
    refine gw_lv [1, 0, 2] rfl ?_
    exact Mod_openGroup_p67 ao aa hC N _ _ _ _ _ hf
def Mod_openGroup_b58 (N : Nat) (x2 : Int32) (σ : g_S) : Option (Int32 × g_S) := Mod_openGroup_b60 N x2 15 σ
theorem Mod_openGroup_p58 (ao aa : Nat → Nat) {X : g_X} (hC : gC X c_Mod_openGroup R_Mod 3 65 3 none) (N : Nat) (x2 : Int32) (σ : g_S) (r : Int32) (σe : g_S) (hf : Mod_openGroup_b58 N x2 σ = some (r, σe)) : gw X (.inl none) (LM ao aa X.2.2.1 σe) (LM ao aa X.2.2.1 σ) [(0, .ref (ao 0)), (2, .int x2)] 58 [] := by
  unfold Mod_openGroup_b58 at hf
  refine gw_bipush hC 15 d_Mod_openGroup_58 (by decide) ?_
  exact Mod_openGroup_p60 ao aa hC N _ _ _ _ _ hf
def Mod_openGroup_b53 (N : Nat) (x2 : Int32) (σ : g_S) : Option (Int32 × g_S) := Mod_openGroup_b60 N x2 14 σ
theorem Mod_openGroup_p53 (ao aa : Nat → Nat) {X : g_X} (hC : gC X c_Mod_openGroup R_Mod 3 65 3 none) (N : Nat) (x2 : Int32) (σ : g_S) (r : Int32) (σe : g_S) (hf : Mod_openGroup_b53 N x2 σ = some (r, σe)) : gw X (.inl none) (LM ao aa X.2.2.1 σe) (LM ao aa X.2.2.1 σ) [(0, .ref (ao 0)), (2, .int x2)] 53 [] := by
  unfold Mod_openGroup_b53 at hf
  refine gw_bipush hC 14 d_Mod_openGroup_53 (by decide) ?_
  refine gw_goto hC 60 d_Mod_openGroup_55 (by decide) ?_
  exact Mod_openGroup_p60 ao aa hC N _ _ _ _ _ hf
def Mod_openGroup_b47 (N : Nat) (x2 : Int32) (σ : g_S) : Option (Int32 × g_S) := if x2 = 61 then Mod_openGroup_b53 N x2 σ else Mod_openGroup_b58 N x2 σ
theorem Mod_openGroup_p47 (ao aa : Nat → Nat) {X : g_X} (hC : gC X c_Mod_openGroup R_Mod 3 65 3 none) (N : Nat) (x2 : Int32) (σ : g_S) (r : Int32) (σe : g_S) (hf : Mod_openGroup_b47 N x2 σ = some (r, σe)) : gw X (.inl none) (LM ao aa X.2.2.1 σe) (LM ao aa X.2.2.1 σ) [(0, .ref (ao 0)), (2, .int x2)] 47 [] := by
  unfold Mod_openGroup_b47 at hf
  refine gw_iload_n hC 1 d_Mod_openGroup_47 rfl rfl ?_
  refine gw_bipush hC 61 d_Mod_openGroup_48 (by decide) ?_
  refine gw_icmp_ne hC 58 d_Mod_openGroup_50 (by decide) (fun hh => ?_) (fun hh => ?_)
  · rw [if_neg hh] at hf
    exact Mod_openGroup_p58 ao aa hC N _ _ _ _ hf
  · rw [if_pos hh] at hf
    exact Mod_openGroup_p53 ao aa hC N _ _ _ _ hf
def Mod_openGroup_b42 (N : Nat) (x2 : Int32) (σ : g_S) : Option (Int32 × g_S) := Mod_openGroup_b60 N x2 13 σ
theorem Mod_openGroup_p42 (ao aa : Nat → Nat) {X : g_X} (hC : gC X c_Mod_openGroup R_Mod 3 65 3 none) (N : Nat) (x2 : Int32) (σ : g_S) (r : Int32) (σe : g_S) (hf : Mod_openGroup_b42 N x2 σ = some (r, σe)) : gw X (.inl none) (LM ao aa X.2.2.1 σe) (LM ao aa X.2.2.1 σ) [(0, .ref (ao 0)), (2, .int x2)] 42 [] := by
  unfold Mod_openGroup_b42 at hf
  refine gw_bipush hC 13 d_Mod_openGroup_42 (by decide) ?_
  refine gw_goto hC 60 d_Mod_openGroup_44 (by decide) ?_
  exact Mod_openGroup_p60 ao aa hC N _ _ _ _ _ hf
def Mod_openGroup_b30 (N : Nat) (σ : g_S) : Option (Int32 × g_S) := (Mod_see N 2 σ).bind fun q32 => if q32.1 = 58 then Mod_openGroup_b42 N q32.1 q32.2 else Mod_openGroup_b47 N q32.1 q32.2
theorem Mod_openGroup_p30 (ao aa : Nat → Nat) {X : g_X} (hC : gC X c_Mod_openGroup R_Mod 3 65 3 none) (N : Nat) (σ : g_S) (r : Int32) (σe : g_S) (hf : Mod_openGroup_b30 N σ = some (r, σe)) : gw X (.inl none) (LM ao aa X.2.2.1 σe) (LM ao aa X.2.2.1 σ) [(0, .ref (ao 0))] 30 [] := by
  unfold Mod_openGroup_b30 at hf
  refine gw_aload_n hC 0 d_Mod_openGroup_30 rfl rfl ?_
  refine gw_iconst hC 2 d_Mod_openGroup_31 (by decide) ?_
  obtain ⟨q32, hq32, hf⟩ := g_bind hf
  refine gw_callV hC [.int 2] [] (Mod_see_m _ _ _ ao aa N _ _ _ _ hq32) kc_Mod_158 0 (g_lay_obj rfl) rfl rfl ⟨by decide, by decide⟩ (Nat.le_of_ble_eq_true rfl) [.int 2, .ref (ao 0)] [.int q32.1] rfl rfl d_Mod_openGroup_32 ?_
  refine gw_istore_n hC [(2, .int q32.1), (0, .ref (ao 0))] d_Mod_openGroup_35 rfl (by decide) rfl ?_
  refine gw_iload_n hC 0 d_Mod_openGroup_36 rfl rfl ?_
  refine gw_bipush hC 58 d_Mod_openGroup_37 (by decide) ?_
  refine gw_icmp_ne hC 47 d_Mod_openGroup_39 (by decide) (fun hh => ?_) (fun hh => ?_)
  · rw [if_neg hh] at hf
    refine gw_lv [1, 0] rfl ?_
    exact Mod_openGroup_p47 ao aa hC N _ _ _ _ hf
  · rw [if_pos hh] at hf
    refine gw_lv [1, 0] rfl ?_
    exact Mod_openGroup_p42 ao aa hC N _ _ _ _ hf
def Mod_openGroup_b20 (N : Nat) (x1 : Int32) (σ : g_S) : Option (Int32 × g_S) := (Mod_see N 1 σ).bind fun q22 => if q22.1 = 63 then Mod_openGroup_b30 N q22.2 else Mod_openGroup_b112 N x1 q22.2
theorem Mod_openGroup_p20 (ao aa : Nat → Nat) {X : g_X} (hC : gC X c_Mod_openGroup R_Mod 3 65 3 none) (N : Nat) (x1 : Int32) (σ : g_S) (r : Int32) (σe : g_S) (hf : Mod_openGroup_b20 N x1 σ = some (r, σe)) : gw X (.inl none) (LM ao aa X.2.2.1 σe) (LM ao aa X.2.2.1 σ) [(0, .ref (ao 0)), (1, .int x1)] 20 [] := by
  unfold Mod_openGroup_b20 at hf
  refine gw_aload_n hC 0 d_Mod_openGroup_20 rfl rfl ?_
  refine gw_iconst hC 1 d_Mod_openGroup_21 (by decide) ?_
  obtain ⟨q22, hq22, hf⟩ := g_bind hf
  refine gw_callV hC [.int 1] [] (Mod_see_m _ _ _ ao aa N _ _ _ _ hq22) kc_Mod_158 0 (g_lay_obj rfl) rfl rfl ⟨by decide, by decide⟩ (Nat.le_of_ble_eq_true rfl) [.int 1, .ref (ao 0)] [.int q22.1] rfl rfl d_Mod_openGroup_22 ?_
  refine gw_bipush hC 63 d_Mod_openGroup_25 (by decide) ?_
  refine gw_icmp_ne hC 112 d_Mod_openGroup_27 (by decide) (fun hh => ?_) (fun hh => ?_)
  · rw [if_neg hh] at hf
    exact Mod_openGroup_p112 ao aa hC N _ _ _ _ hf
  · rw [if_pos hh] at hf
    refine gw_lv [0] rfl ?_
    exact Mod_openGroup_p30 ao aa hC N _ _ _ hf
def Mod_openGroup_b12 (N : Nat) (x1 : Int32) (σ : g_S) : Option (Int32 × g_S) := (Mod_fail N (σ.1 11) σ).bind fun q17 => Mod_openGroup_b20 N x1 q17.2
theorem Mod_openGroup_p12 (ao aa : Nat → Nat) {X : g_X} (hC : gC X c_Mod_openGroup R_Mod 3 65 3 none) (N : Nat) (x1 : Int32) (σ : g_S) (r : Int32) (σe : g_S) (hf : Mod_openGroup_b12 N x1 σ = some (r, σe)) : gw X (.inl none) (LM ao aa X.2.2.1 σe) (LM ao aa X.2.2.1 σ) [(0, .ref (ao 0)), (1, .int x1)] 12 [] := by
  unfold Mod_openGroup_b12 at hf
  refine gw_aload_n hC 0 d_Mod_openGroup_12 rfl rfl ?_
  refine gw_aload_n hC 0 d_Mod_openGroup_13 rfl rfl ?_
  refine Mg11 hC kf_Mod_129 d_Mod_openGroup_14 (σ.1 11) rfl ?_
  obtain ⟨q17, hq17, hf⟩ := g_bind hf
  refine gw_callV hC [.int (σ.1 11)] [] (Mod_fail_m _ _ _ ao aa N _ _ _ _ hq17) kc_Mod_165 0 (g_lay_obj rfl) rfl rfl ⟨by decide, by decide⟩ (Nat.le_of_ble_eq_true rfl) [.int (σ.1 11), .ref (ao 0)] [] rfl rfl d_Mod_openGroup_17 ?_
  exact Mod_openGroup_p20 ao aa hC N _ _ _ _ hf
def Mod_openGroup_b0 (N : Nat) (σ : g_S) : Option (Int32 × g_S) := if (σ.1 14) = 40 then Mod_openGroup_b12 N 12 σ else Mod_openGroup_b20 N 12 σ
theorem Mod_openGroup_p0 (ao aa : Nat → Nat) {X : g_X} (hC : gC X c_Mod_openGroup R_Mod 3 65 3 none) (N : Nat) (σ : g_S) (r : Int32) (σe : g_S) (hf : Mod_openGroup_b0 N σ = some (r, σe)) : gw X (.inl none) (LM ao aa X.2.2.1 σe) (LM ao aa X.2.2.1 σ) [(0, .ref (ao 0))] 0 [] := by
  unfold Mod_openGroup_b0 at hf
  refine gw_bipush hC 12 d_Mod_openGroup_0 (by decide) ?_
  refine gw_istore_n hC [(1, .int 12), (0, .ref (ao 0))] d_Mod_openGroup_2 rfl (by decide) rfl ?_
  refine gw_aload_n hC 1 d_Mod_openGroup_3 rfl rfl ?_
  refine Mg14 hC kf_Mod_144 d_Mod_openGroup_4 (σ.1 14) rfl ?_
  refine gw_bipush hC 40 d_Mod_openGroup_7 (by decide) ?_
  refine gw_icmp_ne hC 20 d_Mod_openGroup_9 (by decide) (fun hh => ?_) (fun hh => ?_)
  · rw [if_neg hh] at hf
    refine gw_lv [1, 0] rfl ?_
    exact Mod_openGroup_p20 ao aa hC N _ _ _ _ hf
  · rw [if_pos hh] at hf
    refine gw_lv [1, 0] rfl ?_
    exact Mod_openGroup_p12 ao aa hC N _ _ _ _ hf
def Mod_openGroup (N : Nat) (σ : g_S) : Option (Int32 × g_S) := Mod_openGroup_b0 N  σ
theorem Mod_openGroup_m (l : Launch) (D : va_G) (cA : ClassId) (ao aa : Nat → Nat) (N : Nat) (σ : g_S) (r : Int32) (σe : g_S) (hf : Mod_openGroup N σ = some (r, σe)) : Mt l D cA y_Mod_openGroup c_Mod_openGroup 3 none 3 65 [.ref (ao 0)] (LM ao aa cA σ) none (LM ao aa cA σe) := by
  refine g_met (by decide +kernel) (by simp [lg_sl, Value.category]) (fun X e1 e2 e3 hC => ?_)
  subst e1 e2 e3
  refine gw_lv [0] rfl ?_
  exact Mod_openGroup_p0 ao aa hC N _ (r) _ hf
def Mod_closeGroup_b84 (N : Nat) (σ : g_S) : Option (Int32 × g_S) := some (0, σ)
theorem Mod_closeGroup_p84 (ao aa : Nat → Nat) {X : g_X} (hC : gC X c_Mod_closeGroup R_Mod 4 93 2 none) (N : Nat) (σ : g_S) (r : Int32) (σe : g_S) (hf : Mod_closeGroup_b84 N σ = some (r, σe)) : gw X (.inl none) (LM ao aa X.2.2.1 σe) (LM ao aa X.2.2.1 σ) [(0, .ref (ao 0))] 84 [] := by
  unfold Mod_closeGroup_b84 at hf
  cases hf
  exact gw_vret hC d_Mod_closeGroup_84
def Mod_closeGroup_b52 (N : Nat) (x1 : Int32) (σ : g_S) : Option (Int32 × g_S) := if gIn x1 1300 = true then if gIn (σ.1 14) 41 = true then (Mod_add N (σ.2 16 ((σ.1 14)).toNatClampNeg) x1 (gA σ 11 (x1).toNatClampNeg (σ.1 9))).bind fun q73 => Mod_closeGroup_b84 N q73.2 else none else none
theorem Mod_closeGroup_p52 (ao aa : Nat → Nat) {X : g_X} (hC : gC X c_Mod_closeGroup R_Mod 4 93 2 none) (N : Nat) (x1 : Int32) (σ : g_S) (r : Int32) (σe : g_S) (hf : Mod_closeGroup_b52 N x1 σ = some (r, σe)) : gw X (.inl none) (LM ao aa X.2.2.1 σe) (LM ao aa X.2.2.1 σ) [(0, .ref (ao 0)), (1, .int x1)] 52 [] := by
  unfold Mod_closeGroup_b52 at hf
  refine gw_aload_n hC 0 d_Mod_closeGroup_52 rfl rfl ?_
  refine Mr_Mod_groupTo hC kf_Mod_47 d_Mod_closeGroup_53 ?_
  refine gw_iload_n hC 1 d_Mod_closeGroup_56 rfl rfl ?_
  refine gw_aload_n hC 0 d_Mod_closeGroup_57 rfl rfl ?_
  refine Mg9 hC kf_Mod_141 d_Mod_closeGroup_58 (σ.1 9) rfl ?_
  obtain ⟨hg61, hf⟩ := g_guard hf
  refine Mast (j := 11) hC (by decide) hg61 d_Mod_closeGroup_61 ?_
  refine gw_aload_n hC 0 d_Mod_closeGroup_62 rfl rfl ?_
  refine gw_aload_n hC 0 d_Mod_closeGroup_63 rfl rfl ?_
  refine Mr_Mod_alternative hC kf_Mod_62 d_Mod_closeGroup_64 ?_
  refine gw_aload_n hC 0 d_Mod_closeGroup_67 rfl rfl ?_
  refine Mg14 hC kf_Mod_144 d_Mod_closeGroup_68 (σ.1 14) rfl ?_
  obtain ⟨hg71, hf⟩ := g_guard hf
  refine Mald (j := 16) hC (by decide) hg71 d_Mod_closeGroup_71 (σ.2 16 ((σ.1 14)).toNatClampNeg) rfl ?_
  refine gw_iload_n hC 1 d_Mod_closeGroup_72 rfl rfl ?_
  obtain ⟨q73, hq73, hf⟩ := g_bind hf
  refine gw_callV hC [.int (σ.2 16 ((σ.1 14)).toNatClampNeg), .int x1] [] (Mod_add_m _ _ _ ao aa N _ _ _ _ _ hq73) kc_Mod_151 0 (g_lay_obj rfl) rfl rfl ⟨by decide, by decide⟩ (Nat.le_of_ble_eq_true rfl) [.int x1, .int (σ.2 16 ((σ.1 14)).toNatClampNeg), .ref (ao 0)] [] rfl rfl d_Mod_closeGroup_73 ?_
  refine gw_goto hC 84 d_Mod_closeGroup_76 (by decide) ?_
  refine gw_lv [0] rfl ?_
  exact Mod_closeGroup_p84 ao aa hC N _ _ _ hf
def Mod_closeGroup_b79 (N : Nat) (x1 : Int32) (σ : g_S) : Option (Int32 × g_S) := (Mod_quantify N x1 σ).bind fun q81 => Mod_closeGroup_b84 N q81.2
theorem Mod_closeGroup_p79 (ao aa : Nat → Nat) {X : g_X} (hC : gC X c_Mod_closeGroup R_Mod 4 93 2 none) (N : Nat) (x1 : Int32) (σ : g_S) (r : Int32) (σe : g_S) (hf : Mod_closeGroup_b79 N x1 σ = some (r, σe)) : gw X (.inl none) (LM ao aa X.2.2.1 σe) (LM ao aa X.2.2.1 σ) [(0, .ref (ao 0)), (1, .int x1)] 79 [] := by
  unfold Mod_closeGroup_b79 at hf
  refine gw_aload_n hC 0 d_Mod_closeGroup_79 rfl rfl ?_
  refine gw_iload_n hC 1 d_Mod_closeGroup_80 rfl rfl ?_
  obtain ⟨q81, hq81, hf⟩ := g_bind hf
  refine gw_callV hC [.int x1] [] (Mod_quantify_m _ _ _ ao aa N _ _ _ _ hq81) kc_Mod_201 0 (g_lay_obj rfl) rfl rfl ⟨by decide, by decide⟩ (Nat.le_of_ble_eq_true rfl) [.int x1, .ref (ao 0)] [] rfl rfl d_Mod_closeGroup_81 ?_
  refine gw_lv [0] rfl ?_
  exact Mod_closeGroup_p84 ao aa hC N _ _ _ hf
def Mod_closeGroup_b41 (N : Nat) (x1 : Int32) (σ : g_S) : Option (Int32 × g_S) := if gIn x1 1300 = true then if (σ.2 3 (x1).toNatClampNeg) = 15 then Mod_closeGroup_b52 N x1 σ else Mod_closeGroup_b79 N x1 σ else none
theorem Mod_closeGroup_p41 (ao aa : Nat → Nat) {X : g_X} (hC : gC X c_Mod_closeGroup R_Mod 4 93 2 none) (N : Nat) (x1 : Int32) (σ : g_S) (r : Int32) (σe : g_S) (hf : Mod_closeGroup_b41 N x1 σ = some (r, σe)) : gw X (.inl none) (LM ao aa X.2.2.1 σe) (LM ao aa X.2.2.1 σ) [(0, .ref (ao 0)), (1, .int x1)] 41 [] := by
  unfold Mod_closeGroup_b41 at hf
  refine gw_aload_n hC 0 d_Mod_closeGroup_41 rfl rfl ?_
  refine Mr_Mod_kind hC kf_Mod_23 d_Mod_closeGroup_42 ?_
  refine gw_iload_n hC 1 d_Mod_closeGroup_45 rfl rfl ?_
  obtain ⟨hg46, hf⟩ := g_guard hf
  refine Mald (j := 3) hC (by decide) hg46 d_Mod_closeGroup_46 (σ.2 3 (x1).toNatClampNeg) rfl ?_
  refine gw_bipush hC 15 d_Mod_closeGroup_47 (by decide) ?_
  refine gw_icmp_ne hC 79 d_Mod_closeGroup_49 (by decide) (fun hh => ?_) (fun hh => ?_)
  · rw [if_neg hh] at hf
    exact Mod_closeGroup_p79 ao aa hC N _ _ _ _ hf
  · rw [if_pos hh] at hf
    exact Mod_closeGroup_p52 ao aa hC N _ _ _ _ hf
def Mod_closeGroup_b0 (N : Nat) (σ : g_S) : Option (Int32 × g_S) := if gIn (σ.1 14) 41 = true then if gIn (σ.2 14 ((σ.1 14)).toNatClampNeg) 1300 = true then if (σ.2 3 ((σ.2 14 ((σ.1 14)).toNatClampNeg)).toNatClampNeg) = 14 then Mod_closeGroup_b52 N (σ.2 14 ((σ.1 14)).toNatClampNeg) (gF (gF σ 14 ((σ.1 14) - 1)) 11 ((σ.1 11) + 1)) else Mod_closeGroup_b41 N (σ.2 14 ((σ.1 14)).toNatClampNeg) (gF (gF σ 14 ((σ.1 14) - 1)) 11 ((σ.1 11) + 1)) else none else none
theorem Mod_closeGroup_p0 (ao aa : Nat → Nat) {X : g_X} (hC : gC X c_Mod_closeGroup R_Mod 4 93 2 none) (N : Nat) (σ : g_S) (r : Int32) (σe : g_S) (hf : Mod_closeGroup_b0 N σ = some (r, σe)) : gw X (.inl none) (LM ao aa X.2.2.1 σe) (LM ao aa X.2.2.1 σ) [(0, .ref (ao 0))] 0 [] := by
  unfold Mod_closeGroup_b0 at hf
  refine gw_aload_n hC 0 d_Mod_closeGroup_0 rfl rfl ?_
  refine Mr_Mod_open hC kf_Mod_56 d_Mod_closeGroup_1 ?_
  refine gw_aload_n hC 0 d_Mod_closeGroup_4 rfl rfl ?_
  refine Mg14 hC kf_Mod_144 d_Mod_closeGroup_5 (σ.1 14) rfl ?_
  obtain ⟨hg8, hf⟩ := g_guard hf
  refine Mald (j := 14) hC (by decide) hg8 d_Mod_closeGroup_8 (σ.2 14 ((σ.1 14)).toNatClampNeg) rfl ?_
  refine gw_istore_n hC [(1, .int (σ.2 14 ((σ.1 14)).toNatClampNeg)), (0, .ref (ao 0))] d_Mod_closeGroup_9 rfl (by decide) rfl ?_
  refine gw_aload_n hC 1 d_Mod_closeGroup_10 rfl rfl ?_
  refine gw_dup hC d_Mod_closeGroup_11 rfl ?_
  refine Mg14 hC kf_Mod_144 d_Mod_closeGroup_12 (σ.1 14) rfl ?_
  refine gw_iconst hC 1 d_Mod_closeGroup_15 (by decide) ?_
  refine gw_isub hC d_Mod_closeGroup_16 ?_
  refine Mp14 hC kf_Mod_144 d_Mod_closeGroup_17 ?_
  refine gw_aload_n hC 1 d_Mod_closeGroup_20 rfl rfl ?_
  refine gw_dup hC d_Mod_closeGroup_21 rfl ?_
  refine Mg11 hC kf_Mod_129 d_Mod_closeGroup_22 (σ.1 11) rfl ?_
  refine gw_iconst hC 1 d_Mod_closeGroup_25 (by decide) ?_
  refine gw_iadd hC d_Mod_closeGroup_26 ?_
  refine Mp11 hC kf_Mod_129 d_Mod_closeGroup_27 ?_
  refine gw_aload_n hC 1 d_Mod_closeGroup_30 rfl rfl ?_
  refine Mr_Mod_kind hC kf_Mod_23 d_Mod_closeGroup_31 ?_
  refine gw_iload_n hC 0 d_Mod_closeGroup_34 rfl rfl ?_
  obtain ⟨hg35, hf⟩ := g_guard hf
  refine Mald (j := 3) hC (by decide) hg35 d_Mod_closeGroup_35 (σ.2 3 ((σ.2 14 ((σ.1 14)).toNatClampNeg)).toNatClampNeg) rfl ?_
  refine gw_bipush hC 14 d_Mod_closeGroup_36 (by decide) ?_
  refine gw_icmp_eq hC 52 d_Mod_closeGroup_38 (by decide) (fun hh => ?_) (fun hh => ?_)
  · rw [if_pos hh] at hf
    refine gw_lv [1, 0] rfl ?_
    exact Mod_closeGroup_p52 ao aa hC N _ _ _ _ hf
  · rw [if_neg hh] at hf
    refine gw_lv [1, 0] rfl ?_
    exact Mod_closeGroup_p41 ao aa hC N _ _ _ _ hf
def Mod_closeGroup (N : Nat) (σ : g_S) : Option (Int32 × g_S) := Mod_closeGroup_b0 N  σ
theorem Mod_closeGroup_m (l : Launch) (D : va_G) (cA : ClassId) (ao aa : Nat → Nat) (N : Nat) (σ : g_S) (r : Int32) (σe : g_S) (hf : Mod_closeGroup N σ = some (r, σe)) : Mt l D cA y_Mod_closeGroup c_Mod_closeGroup 2 none 4 93 [.ref (ao 0)] (LM ao aa cA σ) none (LM ao aa cA σe) := by
  refine g_met (by decide +kernel) (by simp [lg_sl, Value.category]) (fun X e1 e2 e3 hC => ?_)
  subst e1 e2 e3
  refine gw_lv [0] rfl ?_
  exact Mod_closeGroup_p0 ao aa hC N _ (r) _ hf
def Mod_assertion_b0 (N : Nat) (x1 : Int32) (x2 : Int32) (σ : g_S) : Option (Int32 × g_S) := if gIn (σ.1 14) 41 = true then (Mod_node N x1 0 0 0 σ).bind fun q15 => (Mod_add N (σ.2 16 ((σ.1 14)).toNatClampNeg) q15.1 q15.2).bind fun q18 => some (0, (gF q18.2 11 ((q18.2.1 11) + x2))) else none
theorem Mod_assertion_p0 (ao aa : Nat → Nat) {X : g_X} (hC : gC X c_Mod_assertion R_Mod 1 24 3 none) (N : Nat) (x1 : Int32) (x2 : Int32) (σ : g_S) (r : Int32) (σe : g_S) (hf : Mod_assertion_b0 N x1 x2 σ = some (r, σe)) : gw X (.inl none) (LM ao aa X.2.2.1 σe) (LM ao aa X.2.2.1 σ) [(0, .ref (ao 0)), (1, .int x1), (2, .int x2)] 0 [] := by
  unfold Mod_assertion_b0 at hf
  refine gw_aload_n hC 0 d_Mod_assertion_0 rfl rfl ?_
  refine gw_aload_n hC 0 d_Mod_assertion_1 rfl rfl ?_
  refine Mr_Mod_alternative hC kf_Mod_62 d_Mod_assertion_2 ?_
  refine gw_aload_n hC 0 d_Mod_assertion_5 rfl rfl ?_
  refine Mg14 hC kf_Mod_144 d_Mod_assertion_6 (σ.1 14) rfl ?_
  obtain ⟨hg9, hf⟩ := g_guard hf
  refine Mald (j := 16) hC (by decide) hg9 d_Mod_assertion_9 (σ.2 16 ((σ.1 14)).toNatClampNeg) rfl ?_
  refine gw_aload_n hC 0 d_Mod_assertion_10 rfl rfl ?_
  refine gw_iload_n hC 1 d_Mod_assertion_11 rfl rfl ?_
  refine gw_iconst hC 0 d_Mod_assertion_12 (by decide) ?_
  refine gw_iconst hC 0 d_Mod_assertion_13 (by decide) ?_
  refine gw_iconst hC 0 d_Mod_assertion_14 (by decide) ?_
  obtain ⟨q15, hq15, hf⟩ := g_bind hf
  refine gw_callV hC [.int x1, .int 0, .int 0, .int 0] [.int (σ.2 16 ((σ.1 14)).toNatClampNeg), .ref (ao 0)] (Mod_node_m _ _ _ ao aa N _ _ _ _ _ _ _ hq15) kc_Mod_147 0 (g_lay_obj rfl) rfl rfl ⟨by decide, by decide⟩ (Nat.le_of_ble_eq_true rfl) [.int 0, .int 0, .int 0, .int x1, .ref (ao 0), .int (σ.2 16 ((σ.1 14)).toNatClampNeg), .ref (ao 0)] [.int q15.1, .int (σ.2 16 ((σ.1 14)).toNatClampNeg), .ref (ao 0)] rfl rfl d_Mod_assertion_15 ?_
  obtain ⟨q18, hq18, hf⟩ := g_bind hf
  refine gw_callV hC [.int (σ.2 16 ((σ.1 14)).toNatClampNeg), .int q15.1] [] (Mod_add_m _ _ _ ao aa N _ _ _ _ _ hq18) kc_Mod_151 0 (g_lay_obj rfl) rfl rfl ⟨by decide, by decide⟩ (Nat.le_of_ble_eq_true rfl) [.int q15.1, .int (σ.2 16 ((σ.1 14)).toNatClampNeg), .ref (ao 0)] [] rfl rfl d_Mod_assertion_18 ?_
  refine gw_aload_n hC 0 d_Mod_assertion_21 rfl rfl ?_
  refine gw_aload_n hC 0 d_Mod_assertion_22 rfl rfl ?_
  refine Mg11 hC kf_Mod_129 d_Mod_assertion_23 (q18.2.1 11) rfl ?_
  refine gw_iload_n hC 2 d_Mod_assertion_26 rfl rfl ?_
  refine gw_iadd hC d_Mod_assertion_27 ?_
  refine Mp11 hC kf_Mod_129 d_Mod_assertion_28 ?_
  cases hf
  exact gw_vret hC d_Mod_assertion_31
def Mod_assertion (N : Nat) (x1 : Int32) (x2 : Int32) (σ : g_S) : Option (Int32 × g_S) := Mod_assertion_b0 N x1 x2 σ
theorem Mod_assertion_m (l : Launch) (D : va_G) (cA : ClassId) (ao aa : Nat → Nat) (N : Nat) (x1 : Int32) (x2 : Int32) (σ : g_S) (r : Int32) (σe : g_S) (hf : Mod_assertion N x1 x2 σ = some (r, σe)) : Mt l D cA y_Mod_assertion c_Mod_assertion 3 none 1 24 [.ref (ao 0), .int x1, .int x2] (LM ao aa cA σ) none (LM ao aa cA σe) := by
  refine g_met (by decide +kernel) (by simp [lg_sl, Value.category]) (fun X e1 e2 e3 hC => ?_)
  subst e1 e2 e3
  refine gw_lv [0, 1, 2] rfl ?_
  exact Mod_assertion_p0 ao aa hC N _ _ _ (r) _ hf
