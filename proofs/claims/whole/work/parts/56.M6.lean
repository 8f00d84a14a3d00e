theorem kc_Mod_263 : g_okV R_Mod 263 y_Mod_isWordAt c_Mod_isWordAt 2 (some .boolean) 1 := ⟨g_mem (List.mem_append_right _ (List.mem_append_right _ (List.mem_append_right _ (List.mem_append_right _ (List.mem_append_right _ (List.mem_of_getElem? (i := 18) rfl)))))) rfl, g_mem (List.mem_append_right _ (List.mem_append_left _ (List.mem_of_getElem? (i := 5) (by decide +kernel)))) rfl, g_mem (List.mem_append_right _ (List.mem_append_right _ (List.mem_append_right _ (List.mem_append_right _ (List.mem_append_right _ (List.mem_of_getElem? (i := 15) (by decide +kernel))))))) rfl, g_mem (List.mem_append_right _ (List.mem_append_right _ (List.mem_append_right _ (List.mem_append_right _ (List.mem_append_right _ (List.mem_of_getElem? (i := 17) (by decide +kernel))))))) rfl, g_mem (List.mem_append_left _ (List.mem_of_getElem? (i := 72) (by decide +kernel))) rfl, by decide +kernel, by decide +kernel, by decide +kernel⟩
theorem kc_Mod_272 : g_okV R_Mod 272 y_Mod_hasMember c_Mod_hasMember 5 (some .boolean) 2 := ⟨g_mem (List.mem_append_right _ (List.mem_append_right _ (List.mem_append_right _ (List.mem_append_right _ (List.mem_append_right _ (List.mem_of_getElem? (i := 40) rfl)))))) rfl, g_mem (List.mem_append_right _ (List.mem_append_left _ (List.mem_of_getElem? (i := 5) (by decide +kernel)))) rfl, g_mem (List.mem_append_right _ (List.mem_append_right _ (List.mem_append_right _ (List.mem_append_right _ (List.mem_append_right _ (List.mem_of_getElem? (i := 37) (by decide +kernel))))))) rfl, g_mem (List.mem_append_right _ (List.mem_append_right _ (List.mem_append_right _ (List.mem_append_right _ (List.mem_append_right _ (List.mem_of_getElem? (i := 39) (by decide +kernel))))))) rfl, g_mem (List.mem_append_left _ (List.mem_of_getElem? (i := 75) (by decide +kernel))) rfl, by decide +kernel, by decide +kernel, by decide +kernel⟩
theorem kc_Mod_266 : g_okV R_Mod 266 y_Mod_refers c_Mod_refers 5 (some .boolean) 1 := ⟨g_mem (List.mem_append_right _ (List.mem_append_right _ (List.mem_append_right _ (List.mem_append_right _ (List.mem_append_right _ (List.mem_of_getElem? (i := 22) rfl)))))) rfl, g_mem (List.mem_append_right _ (List.mem_append_left _ (List.mem_of_getElem? (i := 5) (by decide +kernel)))) rfl, g_mem (List.mem_append_right _ (List.mem_append_right _ (List.mem_append_right _ (List.mem_append_right _ (List.mem_append_right _ (List.mem_of_getElem? (i := 19) (by decide +kernel))))))) rfl, g_mem (List.mem_append_right _ (List.mem_append_right _ (List.mem_append_right _ (List.mem_append_right _ (List.mem_append_right _ (List.mem_of_getElem? (i := 21) (by decide +kernel))))))) rfl, g_mem (List.mem_append_left _ (List.mem_of_getElem? (i := 73) (by decide +kernel))) rfl, by decide +kernel, by decide +kernel, by decide +kernel⟩
theorem kc_Mod_279 : g_okV R_Mod 279 y_Mod_push c_Mod_push 5 none 3 := ⟨g_mem (List.mem_append_right _ (List.mem_append_right _ (List.mem_append_right _ (List.mem_append_right _ (List.mem_append_right _ (List.mem_of_getElem? (i := 3) rfl)))))) rfl, g_mem (List.mem_append_right _ (List.mem_append_left _ (List.mem_of_getElem? (i := 5) (by decide +kernel)))) rfl, g_mem (List.mem_append_right _ (List.mem_append_right _ (List.mem_append_right _ (List.mem_append_right _ (List.mem_append_right _ (List.mem_of_getElem? (i := 0) (by decide +kernel))))))) rfl, g_mem (List.mem_append_right _ (List.mem_append_right _ (List.mem_append_right _ (List.mem_append_right _ (List.mem_append_right _ (List.mem_of_getElem? (i := 2) (by decide +kernel))))))) rfl, g_mem (List.mem_append_left _ (List.mem_of_getElem? (i := 69) (by decide +kernel))) rfl, by decide +kernel, by decide +kernel, by decide +kernel⟩
theorem kc_Mod_275 : g_okV R_Mod 275 y_Mod_row c_Mod_row 7 (some .int) 6 := ⟨g_mem (List.mem_append_right _ (List.mem_append_right _ (List.mem_append_right _ (List.mem_append_right _ (List.mem_append_left _ (List.mem_of_getElem? (i := 231) rfl)))))) rfl, g_mem (List.mem_append_right _ (List.mem_append_left _ (List.mem_of_getElem? (i := 5) (by decide +kernel)))) rfl, g_mem (List.mem_append_right _ (List.mem_append_right _ (List.mem_append_right _ (List.mem_append_right _ (List.mem_append_left _ (List.mem_of_getElem? (i := 228) (by decide +kernel))))))) rfl, g_mem (List.mem_append_right _ (List.mem_append_right _ (List.mem_append_right _ (List.mem_append_right _ (List.mem_append_left _ (List.mem_of_getElem? (i := 230) (by decide +kernel))))))) rfl, g_mem (List.mem_append_left _ (List.mem_of_getElem? (i := 66) (by decide +kernel))) rfl, by decide +kernel, by decide +kernel, by decide +kernel⟩
theorem kc_Mod_287 : g_okV R_Mod 287 y_Mod_holds c_Mod_holds 4 (some .boolean) 1 := ⟨g_mem (List.mem_append_right _ (List.mem_append_right _ (List.mem_append_right _ (List.mem_append_right _ (List.mem_append_right _ (List.mem_of_getElem? (i := 11) rfl)))))) rfl, g_mem (List.mem_append_right _ (List.mem_append_left _ (List.mem_of_getElem? (i := 5) (by decide +kernel)))) rfl, g_mem (List.mem_append_right _ (List.mem_append_right _ (List.mem_append_right _ (List.mem_append_right _ (List.mem_append_right _ (List.mem_of_getElem? (i := 8) (by decide +kernel))))))) rfl, g_mem (List.mem_append_right _ (List.mem_append_right _ (List.mem_append_right _ (List.mem_append_right _ (List.mem_append_right _ (List.mem_of_getElem? (i := 10) (by decide +kernel))))))) rfl, g_mem (List.mem_append_left _ (List.mem_of_getElem? (i := 71) (by decide +kernel))) rfl, by decide +kernel, by decide +kernel, by decide +kernel⟩
theorem kc_Mod_283 : g_okV R_Mod 283 y_Mod_spends c_Mod_spends 1 (some .boolean) 0 := ⟨g_mem (List.mem_append_right _ (List.mem_append_right _ (List.mem_append_right _ (List.mem_append_right _ (List.mem_append_right _ (List.mem_of_getElem? (i := 7) rfl)))))) rfl, g_mem (List.mem_append_right _ (List.mem_append_left _ (List.mem_of_getElem? (i := 5) (by decide +kernel)))) rfl, g_mem (List.mem_append_right _ (List.mem_append_right _ (List.mem_append_right _ (List.mem_append_right _ (List.mem_append_right _ (List.mem_of_getElem? (i := 4) (by decide +kernel))))))) rfl, g_mem (List.mem_append_right _ (List.mem_append_right _ (List.mem_append_right _ (List.mem_append_right _ (List.mem_append_right _ (List.mem_of_getElem? (i := 6) (by decide +kernel))))))) rfl, g_mem (List.mem_append_left _ (List.mem_of_getElem? (i := 70) (by decide +kernel))) rfl, by decide +kernel, by decide +kernel, by decide +kernel⟩
theorem d_Mod_holds_0 : decode c_Mod_holds 0 = .ok (.aload_n 0, 1) := by decide +kernel
theorem d_Mod_holds_1 : decode c_Mod_holds 1 = .ok (.getfield 23, 3) := by decide +kernel
theorem d_Mod_holds_4 : decode c_Mod_holds 4 = .ok (.iload_n 1, 1) := by decide +kernel
theorem d_Mod_holds_5 : decode c_Mod_holds 5 = .ok (.iaload, 1) := by decide +kernel
theorem d_Mod_holds_6 : decode c_Mod_holds 6 = .ok (.istore_n 2, 1) := by decide +kernel
theorem d_Mod_holds_7 : decode c_Mod_holds 7 = .ok (.iload_n 2, 1) := by decide +kernel
theorem d_Mod_holds_8 : decode c_Mod_holds 8 = .ok (.bipush 8, 2) := by decide +kernel
theorem d_Mod_holds_10 : decode c_Mod_holds 10 = .ok (.if_icmp .ne 40, 3) := by decide +kernel
theorem d_Mod_holds_13 : decode c_Mod_holds 13 = .ok (.aload_n 0, 1) := by decide +kernel
theorem d_Mod_holds_14 : decode c_Mod_holds 14 = .ok (.getfield 129, 3) := by decide +kernel
theorem d_Mod_holds_17 : decode c_Mod_holds 17 = .ok (.ifCond .eq 27, 3) := by decide +kernel
theorem d_Mod_holds_20 : decode c_Mod_holds 20 = .ok (.aload_n 0, 1) := by decide +kernel
theorem d_Mod_holds_21 : decode c_Mod_holds 21 = .ok (.getfield 232, 3) := by decide +kernel
theorem d_Mod_holds_24 : decode c_Mod_holds 24 = .ok (.ifCond .eq 24, 3) := by decide +kernel
theorem d_Mod_holds_27 : decode c_Mod_holds 27 = .ok (.aload_n 0, 1) := by decide +kernel
theorem d_Mod_holds_28 : decode c_Mod_holds 28 = .ok (.getfield 20, 3) := by decide +kernel
theorem d_Mod_holds_31 : decode c_Mod_holds 31 = .ok (.aload_n 0, 1) := by decide +kernel
theorem d_Mod_holds_32 : decode c_Mod_holds 32 = .ok (.getfield 129, 3) := by decide +kernel
theorem d_Mod_holds_35 : decode c_Mod_holds 35 = .ok (.iconst 1, 1) := by decide +kernel
theorem d_Mod_holds_36 : decode c_Mod_holds 36 = .ok (.isub, 1) := by decide +kernel
theorem d_Mod_holds_37 : decode c_Mod_holds 37 = .ok (.iaload, 1) := by decide +kernel
theorem d_Mod_holds_38 : decode c_Mod_holds 38 = .ok (.invokestatic 126, 3) := by decide +kernel
theorem d_Mod_holds_41 : decode c_Mod_holds 41 = .ok (.ifCond .eq 7, 3) := by decide +kernel
theorem d_Mod_holds_44 : decode c_Mod_holds 44 = .ok (.iconst 1, 1) := by decide +kernel
theorem d_Mod_holds_45 : decode c_Mod_holds 45 = .ok (.goto 4, 3) := by decide +kernel
theorem d_Mod_holds_48 : decode c_Mod_holds 48 = .ok (.iconst 0, 1) := by decide +kernel
theorem d_Mod_holds_49 : decode c_Mod_holds 49 = .ok (.ireturn, 1) := by decide +kernel
theorem d_Mod_holds_50 : decode c_Mod_holds 50 = .ok (.iload_n 2, 1) := by decide +kernel
theorem d_Mod_holds_51 : decode c_Mod_holds 51 = .ok (.bipush 9, 2) := by decide +kernel
theorem d_Mod_holds_53 : decode c_Mod_holds 53 = .ok (.if_icmp .ne 42, 3) := by decide +kernel
theorem d_Mod_holds_56 : decode c_Mod_holds 56 = .ok (.aload_n 0, 1) := by decide +kernel
theorem d_Mod_holds_57 : decode c_Mod_holds 57 = .ok (.getfield 129, 3) := by decide +kernel
theorem d_Mod_holds_60 : decode c_Mod_holds 60 = .ok (.aload_n 0, 1) := by decide +kernel
theorem d_Mod_holds_61 : decode c_Mod_holds 61 = .ok (.getfield 238, 3) := by decide +kernel
theorem d_Mod_holds_64 : decode c_Mod_holds 64 = .ok (.if_icmp .eq 25, 3) := by decide +kernel
theorem d_Mod_holds_67 : decode c_Mod_holds 67 = .ok (.aload_n 0, 1) := by decide +kernel
theorem d_Mod_holds_68 : decode c_Mod_holds 68 = .ok (.getfield 232, 3) := by decide +kernel
theorem d_Mod_holds_71 : decode c_Mod_holds 71 = .ok (.ifCond .eq 22, 3) := by decide +kernel
theorem d_Mod_holds_74 : decode c_Mod_holds 74 = .ok (.aload_n 0, 1) := by decide +kernel
theorem d_Mod_holds_75 : decode c_Mod_holds 75 = .ok (.getfield 20, 3) := by decide +kernel
theorem d_Mod_holds_78 : decode c_Mod_holds 78 = .ok (.aload_n 0, 1) := by decide +kernel
theorem d_Mod_holds_79 : decode c_Mod_holds 79 = .ok (.getfield 129, 3) := by decide +kernel
theorem d_Mod_holds_82 : decode c_Mod_holds 82 = .ok (.iaload, 1) := by decide +kernel
theorem d_Mod_holds_83 : decode c_Mod_holds 83 = .ok (.invokestatic 126, 3) := by decide +kernel
theorem d_Mod_holds_86 : decode c_Mod_holds 86 = .ok (.ifCond .eq 7, 3) := by decide +kernel
theorem d_Mod_holds_89 : decode c_Mod_holds 89 = .ok (.iconst 1, 1) := by decide +kernel
theorem d_Mod_holds_90 : decode c_Mod_holds 90 = .ok (.goto 4, 3) := by decide +kernel
theorem d_Mod_holds_93 : decode c_Mod_holds 93 = .ok (.iconst 0, 1) := by decide +kernel
theorem d_Mod_holds_94 : decode c_Mod_holds 94 = .ok (.ireturn, 1) := by decide +kernel
theorem d_Mod_holds_95 : decode c_Mod_holds 95 = .ok (.iload_n 2, 1) := by decide +kernel
theorem d_Mod_holds_96 : decode c_Mod_holds 96 = .ok (.bipush 10, 2) := by decide +kernel
theorem d_Mod_holds_98 : decode c_Mod_holds 98 = .ok (.if_icmp .eq 9, 3) := by decide +kernel
theorem d_Mod_holds_101 : decode c_Mod_holds 101 = .ok (.iload_n 2, 1) := by decide +kernel
theorem d_Mod_holds_102 : decode c_Mod_holds 102 = .ok (.bipush 11, 2) := by decide +kernel
theorem d_Mod_holds_104 : decode c_Mod_holds 104 = .ok (.if_icmp .ne 49, 3) := by decide +kernel
theorem d_Mod_holds_107 : decode c_Mod_holds 107 = .ok (.aload_n 0, 1) := by decide +kernel
theorem d_Mod_holds_108 : decode c_Mod_holds 108 = .ok (.aload_n 0, 1) := by decide +kernel
theorem d_Mod_holds_109 : decode c_Mod_holds 109 = .ok (.getfield 129, 3) := by decide +kernel
theorem d_Mod_holds_112 : decode c_Mod_holds 112 = .ok (.iconst 1, 1) := by decide +kernel
theorem d_Mod_holds_113 : decode c_Mod_holds 113 = .ok (.isub, 1) := by decide +kernel
theorem d_Mod_holds_114 : decode c_Mod_holds 114 = .ok (.invokevirtual 263, 3) := by decide +kernel
theorem d_Mod_holds_117 : decode c_Mod_holds 117 = .ok (.aload_n 0, 1) := by decide +kernel
theorem d_Mod_holds_118 : decode c_Mod_holds 118 = .ok (.aload_n 0, 1) := by decide +kernel
theorem d_Mod_holds_119 : decode c_Mod_holds 119 = .ok (.getfield 129, 3) := by decide +kernel
theorem d_Mod_holds_122 : decode c_Mod_holds 122 = .ok (.invokevirtual 263, 3) := by decide +kernel
theorem d_Mod_holds_125 : decode c_Mod_holds 125 = .ok (.if_icmp .eq 7, 3) := by decide +kernel
theorem d_Mod_holds_128 : decode c_Mod_holds 128 = .ok (.iconst 1, 1) := by decide +kernel
theorem d_Mod_holds_129 : decode c_Mod_holds 129 = .ok (.goto 4, 3) := by decide +kernel
theorem d_Mod_holds_132 : decode c_Mod_holds 132 = .ok (.iconst 0, 1) := by decide +kernel
theorem d_Mod_holds_133 : decode c_Mod_holds 133 = .ok (.iload_n 2, 1) := by decide +kernel
theorem d_Mod_holds_134 : decode c_Mod_holds 134 = .ok (.bipush 10, 2) := by decide +kernel
theorem d_Mod_holds_136 : decode c_Mod_holds 136 = .ok (.if_icmp .ne 7, 3) := by decide +kernel
theorem d_Mod_holds_139 : decode c_Mod_holds 139 = .ok (.iconst 1, 1) := by decide +kernel
theorem d_Mod_holds_140 : decode c_Mod_holds 140 = .ok (.goto 4, 3) := by decide +kernel
theorem d_Mod_holds_143 : decode c_Mod_holds 143 = .ok (.iconst 0, 1) := by decide +kernel
theorem d_Mod_holds_144 : decode c_Mod_holds 144 = .ok (.if_icmp .ne 7, 3) := by decide +kernel
theorem d_Mod_holds_147 : decode c_Mod_holds 147 = .ok (.iconst 1, 1) := by decide +kernel
theorem d_Mod_holds_148 : decode c_Mod_holds 148 = .ok (.goto 4, 3) := by decide +kernel
theorem d_Mod_holds_151 : decode c_Mod_holds 151 = .ok (.iconst 0, 1) := by decide +kernel
theorem d_Mod_holds_152 : decode c_Mod_holds 152 = .ok (.ireturn, 1) := by decide +kernel
theorem d_Mod_holds_153 : decode c_Mod_holds 153 = .ok (.iload_n 2, 1) := by decide +kernel
theorem d_Mod_holds_154 : decode c_Mod_holds 154 = .ok (.bipush 7, 2) := by decide +kernel
theorem d_Mod_holds_156 : decode c_Mod_holds 156 = .ok (.if_icmp .ne 14, 3) := by decide +kernel
theorem d_Mod_holds_159 : decode c_Mod_holds 159 = .ok (.aload_n 0, 1) := by decide +kernel
theorem d_Mod_holds_160 : decode c_Mod_holds 160 = .ok (.aload_n 0, 1) := by decide +kernel
theorem d_Mod_holds_161 : decode c_Mod_holds 161 = .ok (.getfield 26, 3) := by decide +kernel
theorem d_Mod_holds_164 : decode c_Mod_holds 164 = .ok (.iload_n 1, 1) := by decide +kernel
theorem d_Mod_holds_165 : decode c_Mod_holds 165 = .ok (.iaload, 1) := by decide +kernel
theorem d_Mod_holds_166 : decode c_Mod_holds 166 = .ok (.invokevirtual 266, 3) := by decide +kernel
theorem d_Mod_holds_169 : decode c_Mod_holds 169 = .ok (.ireturn, 1) := by decide +kernel
theorem d_Mod_holds_170 : decode c_Mod_holds 170 = .ok (.aload_n 0, 1) := by decide +kernel
theorem d_Mod_holds_171 : decode c_Mod_holds 171 = .ok (.getfield 129, 3) := by decide +kernel
theorem d_Mod_holds_174 : decode c_Mod_holds 174 = .ok (.aload_n 0, 1) := by decide +kernel
theorem d_Mod_holds_175 : decode c_Mod_holds 175 = .ok (.getfield 238, 3) := by decide +kernel
theorem d_Mod_holds_178 : decode c_Mod_holds 178 = .ok (.if_icmp .ne 5, 3) := by decide +kernel
theorem d_Mod_holds_181 : decode c_Mod_holds 181 = .ok (.iconst 0, 1) := by decide +kernel
theorem d_Mod_holds_182 : decode c_Mod_holds 182 = .ok (.ireturn, 1) := by decide +kernel
theorem d_Mod_holds_183 : decode c_Mod_holds 183 = .ok (.aload_n 0, 1) := by decide +kernel
theorem d_Mod_holds_184 : decode c_Mod_holds 184 = .ok (.getfield 20, 3) := by decide +kernel
theorem d_Mod_holds_187 : decode c_Mod_holds 187 = .ok (.aload_n 0, 1) := by decide +kernel
theorem d_Mod_holds_188 : decode c_Mod_holds 188 = .ok (.getfield 129, 3) := by decide +kernel
theorem d_Mod_holds_191 : decode c_Mod_holds 191 = .ok (.iaload, 1) := by decide +kernel
theorem d_Mod_holds_192 : decode c_Mod_holds 192 = .ok (.istore_n 3, 1) := by decide +kernel
theorem d_Mod_holds_193 : decode c_Mod_holds 193 = .ok (.aload_n 0, 1) := by decide +kernel
theorem d_Mod_holds_194 : decode c_Mod_holds 194 = .ok (.dup, 1) := by decide +kernel
theorem d_Mod_holds_195 : decode c_Mod_holds 195 = .ok (.getfield 129, 3) := by decide +kernel
theorem d_Mod_holds_198 : decode c_Mod_holds 198 = .ok (.iconst 1, 1) := by decide +kernel
theorem d_Mod_holds_199 : decode c_Mod_holds 199 = .ok (.iadd, 1) := by decide +kernel
theorem d_Mod_holds_200 : decode c_Mod_holds 200 = .ok (.putfield 129, 3) := by decide +kernel
theorem d_Mod_holds_203 : decode c_Mod_holds 203 = .ok (.iload_n 2, 1) := by decide +kernel
theorem d_Mod_holds_204 : decode c_Mod_holds 204 = .ok (.iconst 3, 1) := by decide +kernel
theorem d_Mod_holds_205 : decode c_Mod_holds 205 = .ok (.if_icmp .ne 15, 3) := by decide +kernel
theorem d_Mod_holds_208 : decode c_Mod_holds 208 = .ok (.aload_n 0, 1) := by decide +kernel
theorem d_Mod_holds_209 : decode c_Mod_holds 209 = .ok (.iload_n 3, 1) := by decide +kernel
theorem d_Mod_holds_210 : decode c_Mod_holds 210 = .ok (.aload_n 0, 1) := by decide +kernel
theorem d_Mod_holds_211 : decode c_Mod_holds 211 = .ok (.getfield 26, 3) := by decide +kernel
theorem d_Mod_holds_214 : decode c_Mod_holds 214 = .ok (.iload_n 1, 1) := by decide +kernel
theorem d_Mod_holds_215 : decode c_Mod_holds 215 = .ok (.iaload, 1) := by decide +kernel
theorem d_Mod_holds_216 : decode c_Mod_holds 216 = .ok (.invokevirtual 269, 3) := by decide +kernel
theorem d_Mod_holds_219 : decode c_Mod_holds 219 = .ok (.ireturn, 1) := by decide +kernel
theorem d_Mod_holds_220 : decode c_Mod_holds 220 = .ok (.iload_n 2, 1) := by decide +kernel
theorem d_Mod_holds_221 : decode c_Mod_holds 221 = .ok (.iconst 4, 1) := by decide +kernel
theorem d_Mod_holds_222 : decode c_Mod_holds 222 = .ok (.if_icmp .ne 16, 3) := by decide +kernel
theorem d_Mod_holds_225 : decode c_Mod_holds 225 = .ok (.iload_n 3, 1) := by decide +kernel
theorem d_Mod_holds_226 : decode c_Mod_holds 226 = .ok (.invokestatic 126, 3) := by decide +kernel
theorem d_Mod_holds_229 : decode c_Mod_holds 229 = .ok (.ifCond .ne 7, 3) := by decide +kernel
theorem d_Mod_holds_232 : decode c_Mod_holds 232 = .ok (.iconst 1, 1) := by decide +kernel
theorem d_Mod_holds_233 : decode c_Mod_holds 233 = .ok (.goto 4, 3) := by decide +kernel
theorem d_Mod_holds_236 : decode c_Mod_holds 236 = .ok (.iconst 0, 1) := by decide +kernel
theorem d_Mod_holds_237 : decode c_Mod_holds 237 = .ok (.ireturn, 1) := by decide +kernel
theorem d_Mod_holds_238 : decode c_Mod_holds 238 = .ok (.iload_n 2, 1) := by decide +kernel
theorem d_Mod_holds_239 : decode c_Mod_holds 239 = .ok (.iconst 5, 1) := by decide +kernel
theorem d_Mod_holds_240 : decode c_Mod_holds 240 = .ok (.if_icmp .ne 14, 3) := by decide +kernel
theorem d_Mod_holds_243 : decode c_Mod_holds 243 = .ok (.aload_n 0, 1) := by decide +kernel
theorem d_Mod_holds_244 : decode c_Mod_holds 244 = .ok (.getfield 26, 3) := by decide +kernel
theorem d_Mod_holds_247 : decode c_Mod_holds 247 = .ok (.iload_n 1, 1) := by decide +kernel
theorem d_Mod_holds_248 : decode c_Mod_holds 248 = .ok (.iaload, 1) := by decide +kernel
theorem d_Mod_holds_249 : decode c_Mod_holds 249 = .ok (.iload_n 3, 1) := by decide +kernel
theorem d_Mod_holds_250 : decode c_Mod_holds 250 = .ok (.invokestatic 253, 3) := by decide +kernel
theorem d_Mod_holds_253 : decode c_Mod_holds 253 = .ok (.ireturn, 1) := by decide +kernel
theorem d_Mod_holds_254 : decode c_Mod_holds 254 = .ok (.aload_n 0, 1) := by decide +kernel
theorem d_Mod_holds_255 : decode c_Mod_holds 255 = .ok (.iload_n 1, 1) := by decide +kernel
theorem d_Mod_holds_256 : decode c_Mod_holds 256 = .ok (.iload_n 3, 1) := by decide +kernel
theorem d_Mod_holds_257 : decode c_Mod_holds 257 = .ok (.invokevirtual 272, 3) := by decide +kernel
theorem d_Mod_holds_260 : decode c_Mod_holds 260 = .ok (.aload_n 0, 1) := by decide +kernel
theorem d_Mod_holds_261 : decode c_Mod_holds 261 = .ok (.getfield 32, 3) := by decide +kernel
theorem d_Mod_holds_264 : decode c_Mod_holds 264 = .ok (.iload_n 1, 1) := by decide +kernel
theorem d_Mod_holds_265 : decode c_Mod_holds 265 = .ok (.iaload, 1) := by decide +kernel
theorem d_Mod_holds_266 : decode c_Mod_holds 266 = .ok (.ifCond .ne 7, 3) := by decide +kernel
theorem d_Mod_holds_269 : decode c_Mod_holds 269 = .ok (.iconst 1, 1) := by decide +kernel
theorem d_Mod_holds_270 : decode c_Mod_holds 270 = .ok (.goto 4, 3) := by decide +kernel
theorem d_Mod_holds_273 : decode c_Mod_holds 273 = .ok (.iconst 0, 1) := by decide +kernel
theorem d_Mod_holds_274 : decode c_Mod_holds 274 = .ok (.if_icmp .ne 7, 3) := by decide +kernel
theorem d_Mod_holds_277 : decode c_Mod_holds 277 = .ok (.iconst 1, 1) := by decide +kernel
theorem d_Mod_holds_278 : decode c_Mod_holds 278 = .ok (.goto 4, 3) := by decide +kernel
theorem d_Mod_holds_281 : decode c_Mod_holds 281 = .ok (.iconst 0, 1) := by decide +kernel
theorem d_Mod_holds_282 : decode c_Mod_holds 282 = .ok (.ireturn, 1) := by decide +kernel
theorem d_Mod_doNode_0 : decode c_Mod_doNode 0 = .ok (.aload_n 0, 1) := by decide +kernel
theorem d_Mod_doNode_1 : decode c_Mod_doNode 1 = .ok (.getfield 23, 3) := by decide +kernel
theorem d_Mod_doNode_4 : decode c_Mod_doNode 4 = .ok (.iload_n 1, 1) := by decide +kernel
theorem d_Mod_doNode_5 : decode c_Mod_doNode 5 = .ok (.iaload, 1) := by decide +kernel
theorem d_Mod_doNode_6 : decode c_Mod_doNode 6 = .ok (.istore_n 3, 1) := by decide +kernel
theorem d_Mod_doNode_7 : decode c_Mod_doNode 7 = .ok (.iload_n 3, 1) := by decide +kernel
theorem d_Mod_doNode_8 : decode c_Mod_doNode 8 = .ok (.iconst 1, 1) := by decide +kernel
theorem d_Mod_doNode_9 : decode c_Mod_doNode 9 = .ok (.if_icmp .ne 19, 3) := by decide +kernel
theorem d_Mod_doNode_12 : decode c_Mod_doNode 12 = .ok (.aload_n 0, 1) := by decide +kernel
theorem d_Mod_doNode_13 : decode c_Mod_doNode 13 = .ok (.iconst 1, 1) := by decide +kernel
theorem d_Mod_doNode_14 : decode c_Mod_doNode 14 = .ok (.aload_n 0, 1) := by decide +kernel
theorem d_Mod_doNode_15 : decode c_Mod_doNode 15 = .ok (.getfield 35, 3) := by decide +kernel
theorem d_Mod_doNode_18 : decode c_Mod_doNode 18 = .ok (.iload_n 1, 1) := by decide +kernel
theorem d_Mod_doNode_19 : decode c_Mod_doNode 19 = .ok (.iaload, 1) := by decide +kernel
theorem d_Mod_doNode_20 : decode c_Mod_doNode 20 = .ok (.iload_n 2, 1) := by decide +kernel
theorem d_Mod_doNode_21 : decode c_Mod_doNode 21 = .ok (.iconst 0, 1) := by decide +kernel
theorem d_Mod_doNode_22 : decode c_Mod_doNode 22 = .ok (.iconst 0, 1) := by decide +kernel
theorem d_Mod_doNode_23 : decode c_Mod_doNode 23 = .ok (.iconst 0, 1) := by decide +kernel
theorem d_Mod_doNode_24 : decode c_Mod_doNode 24 = .ok (.invokevirtual 275, 3) := by decide +kernel
theorem d_Mod_doNode_27 : decode c_Mod_doNode 27 = .ok (.ireturn, 1) := by decide +kernel
theorem d_Mod_doNode_28 : decode c_Mod_doNode 28 = .ok (.iload_n 3, 1) := by decide +kernel
theorem d_Mod_doNode_29 : decode c_Mod_doNode 29 = .ok (.bipush 12, 2) := by decide +kernel
theorem d_Mod_doNode_31 : decode c_Mod_doNode 31 = .ok (.if_icmp .ne 31, 3) := by decide +kernel
theorem d_Mod_doNode_34 : decode c_Mod_doNode 34 = .ok (.aload_n 0, 1) := by decide +kernel
theorem d_Mod_doNode_35 : decode c_Mod_doNode 35 = .ok (.iconst 0, 1) := by decide +kernel
theorem d_Mod_doNode_36 : decode c_Mod_doNode 36 = .ok (.aload_n 0, 1) := by decide +kernel
theorem d_Mod_doNode_37 : decode c_Mod_doNode 37 = .ok (.getfield 35, 3) := by decide +kernel
theorem d_Mod_doNode_40 : decode c_Mod_doNode 40 = .ok (.iload_n 1, 1) := by decide +kernel
theorem d_Mod_doNode_41 : decode c_Mod_doNode 41 = .ok (.iaload, 1) := by decide +kernel
theorem d_Mod_doNode_42 : decode c_Mod_doNode 42 = .ok (.aload_n 0, 1) := by decide +kernel
theorem d_Mod_doNode_43 : decode c_Mod_doNode 43 = .ok (.iconst 3, 1) := by decide +kernel
theorem d_Mod_doNode_44 : decode c_Mod_doNode 44 = .ok (.iload_n 1, 1) := by decide +kernel
theorem d_Mod_doNode_45 : decode c_Mod_doNode 45 = .ok (.iload_n 2, 1) := by decide +kernel
theorem d_Mod_doNode_46 : decode c_Mod_doNode 46 = .ok (.aload_n 0, 1) := by decide +kernel
theorem d_Mod_doNode_47 : decode c_Mod_doNode 47 = .ok (.getfield 129, 3) := by decide +kernel
theorem d_Mod_doNode_50 : decode c_Mod_doNode 50 = .ok (.iconst 0, 1) := by decide +kernel
theorem d_Mod_doNode_51 : decode c_Mod_doNode 51 = .ok (.iconst 0, 1) := by decide +kernel
theorem d_Mod_doNode_52 : decode c_Mod_doNode 52 = .ok (.invokevirtual 275, 3) := by decide +kernel
theorem d_Mod_doNode_55 : decode c_Mod_doNode 55 = .ok (.iconst 0, 1) := by decide +kernel
theorem d_Mod_doNode_56 : decode c_Mod_doNode 56 = .ok (.iconst 0, 1) := by decide +kernel
theorem d_Mod_doNode_57 : decode c_Mod_doNode 57 = .ok (.iconst 0, 1) := by decide +kernel
theorem d_Mod_doNode_58 : decode c_Mod_doNode 58 = .ok (.invokevirtual 275, 3) := by decide +kernel
theorem d_Mod_doNode_61 : decode c_Mod_doNode 61 = .ok (.ireturn, 1) := by decide +kernel
theorem d_Mod_doNode_62 : decode c_Mod_doNode 62 = .ok (.iload_n 3, 1) := by decide +kernel
theorem d_Mod_doNode_63 : decode c_Mod_doNode 63 = .ok (.bipush 13, 2) := by decide +kernel
theorem d_Mod_doNode_65 : decode c_Mod_doNode 65 = .ok (.if_icmp .ne 19, 3) := by decide +kernel
theorem d_Mod_doNode_68 : decode c_Mod_doNode 68 = .ok (.aload_n 0, 1) := by decide +kernel
theorem d_Mod_doNode_69 : decode c_Mod_doNode 69 = .ok (.iconst 0, 1) := by decide +kernel
theorem d_Mod_doNode_70 : decode c_Mod_doNode 70 = .ok (.aload_n 0, 1) := by decide +kernel
theorem d_Mod_doNode_71 : decode c_Mod_doNode 71 = .ok (.getfield 35, 3) := by decide +kernel
theorem d_Mod_doNode_74 : decode c_Mod_doNode 74 = .ok (.iload_n 1, 1) := by decide +kernel
theorem d_Mod_doNode_75 : decode c_Mod_doNode 75 = .ok (.iaload, 1) := by decide +kernel
theorem d_Mod_doNode_76 : decode c_Mod_doNode 76 = .ok (.iload_n 2, 1) := by decide +kernel
theorem d_Mod_doNode_77 : decode c_Mod_doNode 77 = .ok (.iconst 0, 1) := by decide +kernel
theorem d_Mod_doNode_78 : decode c_Mod_doNode 78 = .ok (.iconst 0, 1) := by decide +kernel
theorem d_Mod_doNode_79 : decode c_Mod_doNode 79 = .ok (.iconst 0, 1) := by decide +kernel
theorem d_Mod_doNode_80 : decode c_Mod_doNode 80 = .ok (.invokevirtual 275, 3) := by decide +kernel
theorem d_Mod_doNode_83 : decode c_Mod_doNode 83 = .ok (.ireturn, 1) := by decide +kernel
theorem d_Mod_doNode_84 : decode c_Mod_doNode 84 = .ok (.iload_n 3, 1) := by decide +kernel
theorem d_Mod_doNode_85 : decode c_Mod_doNode 85 = .ok (.bipush 14, 2) := by decide +kernel
theorem d_Mod_doNode_87 : decode c_Mod_doNode 87 = .ok (.if_icmp .eq 9, 3) := by decide +kernel
theorem d_Mod_doNode_90 : decode c_Mod_doNode 90 = .ok (.iload_n 3, 1) := by decide +kernel
theorem d_Mod_doNode_91 : decode c_Mod_doNode 91 = .ok (.bipush 15, 2) := by decide +kernel
theorem d_Mod_doNode_93 : decode c_Mod_doNode 93 = .ok (.if_icmp .ne 55, 3) := by decide +kernel
theorem d_Mod_doNode_96 : decode c_Mod_doNode 96 = .ok (.aload_n 0, 1) := by decide +kernel
theorem d_Mod_doNode_97 : decode c_Mod_doNode 97 = .ok (.iload_n 2, 1) := by decide +kernel
theorem d_Mod_doNode_98 : decode c_Mod_doNode 98 = .ok (.aload_n 0, 1) := by decide +kernel
theorem d_Mod_doNode_99 : decode c_Mod_doNode 99 = .ok (.getfield 129, 3) := by decide +kernel
theorem d_Mod_doNode_102 : decode c_Mod_doNode 102 = .ok (.iload_n 3, 1) := by decide +kernel
theorem d_Mod_doNode_103 : decode c_Mod_doNode 103 = .ok (.bipush 14, 2) := by decide +kernel
theorem d_Mod_doNode_105 : decode c_Mod_doNode 105 = .ok (.if_icmp .ne 7, 3) := by decide +kernel
theorem d_Mod_doNode_108 : decode c_Mod_doNode 108 = .ok (.iconst 1, 1) := by decide +kernel
theorem d_Mod_doNode_109 : decode c_Mod_doNode 109 = .ok (.goto 4, 3) := by decide +kernel
theorem d_Mod_doNode_112 : decode c_Mod_doNode 112 = .ok (.iconst 2, 1) := by decide +kernel
theorem d_Mod_doNode_113 : decode c_Mod_doNode 113 = .ok (.invokevirtual 279, 3) := by decide +kernel
theorem d_Mod_doNode_116 : decode c_Mod_doNode 116 = .ok (.aload_n 0, 1) := by decide +kernel
theorem d_Mod_doNode_117 : decode c_Mod_doNode 117 = .ok (.iconst 0, 1) := by decide +kernel
theorem d_Mod_doNode_118 : decode c_Mod_doNode 118 = .ok (.aload_n 0, 1) := by decide +kernel
theorem d_Mod_doNode_119 : decode c_Mod_doNode 119 = .ok (.getfield 35, 3) := by decide +kernel
theorem d_Mod_doNode_122 : decode c_Mod_doNode 122 = .ok (.iload_n 1, 1) := by decide +kernel
theorem d_Mod_doNode_123 : decode c_Mod_doNode 123 = .ok (.iaload, 1) := by decide +kernel
theorem d_Mod_doNode_124 : decode c_Mod_doNode 124 = .ok (.aload_n 0, 1) := by decide +kernel
theorem d_Mod_doNode_125 : decode c_Mod_doNode 125 = .ok (.bipush 7, 2) := by decide +kernel
theorem d_Mod_doNode_127 : decode c_Mod_doNode 127 = .ok (.iload_n 1, 1) := by decide +kernel
theorem d_Mod_doNode_128 : decode c_Mod_doNode 128 = .ok (.iload_n 2, 1) := by decide +kernel
theorem d_Mod_doNode_129 : decode c_Mod_doNode 129 = .ok (.aload_n 0, 1) := by decide +kernel
theorem d_Mod_doNode_130 : decode c_Mod_doNode 130 = .ok (.getfield 129, 3) := by decide +kernel
theorem d_Mod_doNode_133 : decode c_Mod_doNode 133 = .ok (.aload_n 0, 1) := by decide +kernel
theorem d_Mod_doNode_134 : decode c_Mod_doNode 134 = .ok (.getfield 244, 3) := by decide +kernel
theorem d_Mod_doNode_137 : decode c_Mod_doNode 137 = .ok (.iconst 0, 1) := by decide +kernel
theorem d_Mod_doNode_138 : decode c_Mod_doNode 138 = .ok (.invokevirtual 275, 3) := by decide +kernel
theorem d_Mod_doNode_141 : decode c_Mod_doNode 141 = .ok (.iconst 0, 1) := by decide +kernel
theorem d_Mod_doNode_142 : decode c_Mod_doNode 142 = .ok (.iconst 0, 1) := by decide +kernel
theorem d_Mod_doNode_143 : decode c_Mod_doNode 143 = .ok (.iconst 0, 1) := by decide +kernel
theorem d_Mod_doNode_144 : decode c_Mod_doNode 144 = .ok (.invokevirtual 275, 3) := by decide +kernel
theorem d_Mod_doNode_147 : decode c_Mod_doNode 147 = .ok (.ireturn, 1) := by decide +kernel
theorem d_Mod_doNode_148 : decode c_Mod_doNode 148 = .ok (.iload_n 3, 1) := by decide +kernel
theorem d_Mod_doNode_149 : decode c_Mod_doNode 149 = .ok (.bipush 16, 2) := by decide +kernel
theorem d_Mod_doNode_151 : decode c_Mod_doNode 151 = .ok (.if_icmp .ne 24, 3) := by decide +kernel
theorem d_Mod_doNode_154 : decode c_Mod_doNode 154 = .ok (.aload_n 0, 1) := by decide +kernel
theorem d_Mod_doNode_155 : decode c_Mod_doNode 155 = .ok (.iconst 4, 1) := by decide +kernel
theorem d_Mod_doNode_156 : decode c_Mod_doNode 156 = .ok (.iload_n 1, 1) := by decide +kernel
theorem d_Mod_doNode_157 : decode c_Mod_doNode 157 = .ok (.iload_n 2, 1) := by decide +kernel
theorem d_Mod_doNode_158 : decode c_Mod_doNode 158 = .ok (.aload_n 0, 1) := by decide +kernel
theorem d_Mod_doNode_159 : decode c_Mod_doNode 159 = .ok (.getfield 26, 3) := by decide +kernel
theorem d_Mod_doNode_162 : decode c_Mod_doNode 162 = .ok (.iload_n 1, 1) := by decide +kernel
theorem d_Mod_doNode_163 : decode c_Mod_doNode 163 = .ok (.iaload, 1) := by decide +kernel
theorem d_Mod_doNode_164 : decode c_Mod_doNode 164 = .ok (.aload_n 0, 1) := by decide +kernel
theorem d_Mod_doNode_165 : decode c_Mod_doNode 165 = .ok (.getfield 29, 3) := by decide +kernel
theorem d_Mod_doNode_168 : decode c_Mod_doNode 168 = .ok (.iload_n 1, 1) := by decide +kernel
theorem d_Mod_doNode_169 : decode c_Mod_doNode 169 = .ok (.iaload, 1) := by decide +kernel
theorem d_Mod_doNode_170 : decode c_Mod_doNode 170 = .ok (.iconst 0, 1) := by decide +kernel
theorem d_Mod_doNode_171 : decode c_Mod_doNode 171 = .ok (.invokevirtual 275, 3) := by decide +kernel
theorem d_Mod_doNode_174 : decode c_Mod_doNode 174 = .ok (.ireturn, 1) := by decide +kernel
theorem d_Mod_doNode_175 : decode c_Mod_doNode 175 = .ok (.aload_n 0, 1) := by decide +kernel
theorem d_Mod_doNode_176 : decode c_Mod_doNode 176 = .ok (.invokevirtual 283, 3) := by decide +kernel
theorem d_Mod_doNode_179 : decode c_Mod_doNode 179 = .ok (.ifCond .ne 6, 3) := by decide +kernel
theorem d_Mod_doNode_182 : decode c_Mod_doNode 182 = .ok (.bipush (-2), 2) := by decide +kernel
theorem d_Mod_doNode_184 : decode c_Mod_doNode 184 = .ok (.ireturn, 1) := by decide +kernel
theorem d_Mod_doNode_185 : decode c_Mod_doNode 185 = .ok (.aload_n 0, 1) := by decide +kernel
theorem d_Mod_doNode_186 : decode c_Mod_doNode 186 = .ok (.iload_n 1, 1) := by decide +kernel
theorem d_Mod_doNode_187 : decode c_Mod_doNode 187 = .ok (.invokevirtual 287, 3) := by decide +kernel
theorem d_Mod_doNode_190 : decode c_Mod_doNode 190 = .ok (.ifCond .eq 7, 3) := by decide +kernel
theorem d_Mod_doNode_193 : decode c_Mod_doNode 193 = .ok (.iload_n 2, 1) := by decide +kernel
theorem d_Mod_doNode_194 : decode c_Mod_doNode 194 = .ok (.goto 4, 3) := by decide +kernel
theorem d_Mod_doNode_197 : decode c_Mod_doNode 197 = .ok (.iconst (-1), 1) := by decide +kernel
theorem d_Mod_doNode_198 : decode c_Mod_doNode 198 = .ok (.ireturn, 1) := by decide +kernel
theorem d_Mod_anew_0 : decode c_Mod_anew 0 = .ok (.aload_n 0, 1) := by decide +kernel
theorem d_Mod_anew_1 : decode c_Mod_anew 1 = .ok (.getfield 72, 3) := by decide +kernel
theorem d_Mod_anew_4 : decode c_Mod_anew 4 = .ok (.iload_n 1, 1) := by decide +kernel
theorem d_Mod_anew_5 : decode c_Mod_anew 5 = .ok (.iaload, 1) := by decide +kernel
theorem d_Mod_anew_6 : decode c_Mod_anew 6 = .ok (.istore_n 2, 1) := by decide +kernel
theorem d_Mod_anew_7 : decode c_Mod_anew 7 = .ok (.aload_n 0, 1) := by decide +kernel
theorem d_Mod_anew_8 : decode c_Mod_anew 8 = .ok (.getfield 44, 3) := by decide +kernel
theorem d_Mod_anew_11 : decode c_Mod_anew 11 = .ok (.iload_n 2, 1) := by decide +kernel
theorem d_Mod_anew_12 : decode c_Mod_anew 12 = .ok (.iaload, 1) := by decide +kernel
theorem d_Mod_anew_13 : decode c_Mod_anew 13 = .ok (.iconst 1, 1) := by decide +kernel
theorem d_Mod_anew_14 : decode c_Mod_anew 14 = .ok (.iadd, 1) := by decide +kernel
theorem d_Mod_anew_15 : decode c_Mod_anew 15 = .ok (.istore_n 3, 1) := by decide +kernel
theorem d_Mod_anew_16 : decode c_Mod_anew 16 = .ok (.iload_n 3, 1) := by decide +kernel
theorem d_Mod_anew_17 : decode c_Mod_anew 17 = .ok (.aload_n 0, 1) := by decide +kernel
theorem d_Mod_anew_18 : decode c_Mod_anew 18 = .ok (.getfield 47, 3) := by decide +kernel
theorem d_Mod_anew_21 : decode c_Mod_anew 21 = .ok (.iload_n 2, 1) := by decide +kernel
theorem d_Mod_anew_22 : decode c_Mod_anew 22 = .ok (.iaload, 1) := by decide +kernel
theorem d_Mod_anew_23 : decode c_Mod_anew 23 = .ok (.if_icmp .gt 29, 3) := by decide +kernel
theorem d_Mod_anew_26 : decode c_Mod_anew 26 = .ok (.aload_n 0, 1) := by decide +kernel
theorem d_Mod_anew_27 : decode c_Mod_anew 27 = .ok (.getfield 65, 3) := by decide +kernel
theorem d_Mod_anew_30 : decode c_Mod_anew 30 = .ok (.iconst 2, 1) := by decide +kernel
theorem d_Mod_anew_31 : decode c_Mod_anew 31 = .ok (.iload_n 3, 1) := by decide +kernel
theorem d_Mod_anew_32 : decode c_Mod_anew 32 = .ok (.imul, 1) := by decide +kernel
theorem d_Mod_anew_33 : decode c_Mod_anew 33 = .ok (.iconst (-1), 1) := by decide +kernel
theorem d_Mod_anew_34 : decode c_Mod_anew 34 = .ok (.iastore, 1) := by decide +kernel
theorem d_Mod_anew_35 : decode c_Mod_anew 35 = .ok (.aload_n 0, 1) := by decide +kernel
theorem d_Mod_anew_36 : decode c_Mod_anew 36 = .ok (.getfield 65, 3) := by decide +kernel
theorem d_Mod_anew_39 : decode c_Mod_anew 39 = .ok (.iconst 2, 1) := by decide +kernel
theorem d_Mod_anew_40 : decode c_Mod_anew 40 = .ok (.iload_n 3, 1) := by decide +kernel
theorem d_Mod_anew_41 : decode c_Mod_anew 41 = .ok (.imul, 1) := by decide +kernel
theorem d_Mod_anew_42 : decode c_Mod_anew 42 = .ok (.iconst 1, 1) := by decide +kernel
theorem d_Mod_anew_43 : decode c_Mod_anew 43 = .ok (.iadd, 1) := by decide +kernel
theorem d_Mod_anew_44 : decode c_Mod_anew 44 = .ok (.iconst (-1), 1) := by decide +kernel
theorem d_Mod_anew_45 : decode c_Mod_anew 45 = .ok (.iastore, 1) := by decide +kernel
theorem d_Mod_anew_46 : decode c_Mod_anew 46 = .ok (.iinc 3 1, 3) := by decide +kernel
theorem d_Mod_anew_49 : decode c_Mod_anew 49 = .ok (.goto (-33), 3) := by decide +kernel
theorem d_Mod_anew_52 : decode c_Mod_anew 52 = .ok (.aload_n 0, 1) := by decide +kernel
theorem d_Mod_anew_53 : decode c_Mod_anew 53 = .ok (.iconst 0, 1) := by decide +kernel
theorem d_Mod_anew_54 : decode c_Mod_anew 54 = .ok (.aload_n 0, 1) := by decide +kernel
theorem d_Mod_anew_55 : decode c_Mod_anew 55 = .ok (.getfield 35, 3) := by decide +kernel
theorem d_Mod_anew_58 : decode c_Mod_anew 58 = .ok (.iload_n 2, 1) := by decide +kernel
theorem d_Mod_anew_59 : decode c_Mod_anew 59 = .ok (.iaload, 1) := by decide +kernel
theorem d_Mod_anew_60 : decode c_Mod_anew 60 = .ok (.aload_n 0, 1) := by decide +kernel
theorem d_Mod_anew_61 : decode c_Mod_anew 61 = .ok (.bipush 6, 2) := by decide +kernel
theorem d_Mod_anew_63 : decode c_Mod_anew 63 = .ok (.iload_n 2, 1) := by decide +kernel
theorem d_Mod_anew_64 : decode c_Mod_anew 64 = .ok (.aload_n 0, 1) := by decide +kernel
theorem d_Mod_anew_65 : decode c_Mod_anew 65 = .ok (.getfield 75, 3) := by decide +kernel
theorem d_Mod_anew_68 : decode c_Mod_anew 68 = .ok (.iload_n 1, 1) := by decide +kernel
theorem d_Mod_anew_69 : decode c_Mod_anew 69 = .ok (.iaload, 1) := by decide +kernel
theorem d_Mod_anew_70 : decode c_Mod_anew 70 = .ok (.aload_n 0, 1) := by decide +kernel
theorem d_Mod_anew_71 : decode c_Mod_anew 71 = .ok (.getfield 78, 3) := by decide +kernel
theorem d_Mod_anew_74 : decode c_Mod_anew 74 = .ok (.iload_n 1, 1) := by decide +kernel
theorem d_Mod_anew_75 : decode c_Mod_anew 75 = .ok (.iaload, 1) := by decide +kernel
theorem d_Mod_anew_76 : decode c_Mod_anew 76 = .ok (.aload_n 0, 1) := by decide +kernel
theorem d_Mod_anew_77 : decode c_Mod_anew 77 = .ok (.getfield 81, 3) := by decide +kernel
theorem d_Mod_anew_80 : decode c_Mod_anew 80 = .ok (.iload_n 1, 1) := by decide +kernel
theorem d_Mod_anew_81 : decode c_Mod_anew 81 = .ok (.iaload, 1) := by decide +kernel
theorem d_Mod_anew_82 : decode c_Mod_anew 82 = .ok (.aload_n 0, 1) := by decide +kernel
theorem d_Mod_anew_83 : decode c_Mod_anew 83 = .ok (.getfield 129, 3) := by decide +kernel
theorem d_Mod_anew_86 : decode c_Mod_anew 86 = .ok (.invokevirtual 275, 3) := by decide +kernel
theorem d_Mod_anew_89 : decode c_Mod_anew 89 = .ok (.iconst 0, 1) := by decide +kernel
theorem d_Mod_anew_90 : decode c_Mod_anew 90 = .ok (.iconst 0, 1) := by decide +kernel
theorem d_Mod_anew_91 : decode c_Mod_anew 91 = .ok (.iconst 0, 1) := by decide +kernel
theorem d_Mod_anew_92 : decode c_Mod_anew 92 = .ok (.invokevirtual 275, 3) := by decide +kernel
theorem d_Mod_anew_95 : decode c_Mod_anew 95 = .ok (.ireturn, 1) := by decide +kernel
def Mod_holds_b152 (N : Nat) (s0 : Int32) (σ : g_S) : Option (Int32 × g_S) := if gB s0 = true then some (s0, σ) else none
theorem Mod_holds_p152 (ao aa : Nat → Nat) {X : g_X} (hC : gC X c_Mod_holds R_Mod 6 130 4 (some .boolean)) (N : Nat) (s0 : Int32) (σ : g_S) (r : Int32) (σe : g_S) (hf : Mod_holds_b152 N s0 σ = some (r, σe)) : gw X (.inl (some (.int r))) (LM ao aa X.2.2.1 σe) (LM ao aa X.2.2.1 σ) [(0, .ref (ao 0))] 152 [.int s0] := by
  unfold Mod_holds_b152 at hf
  obtain ⟨hg152, hf⟩ := g_guard hf
  cases hf
  exact gw_zret hC hg152 d_Mod_holds_152
def Mod_holds_b151 (N : Nat) (σ : g_S) : Option (Int32 × g_S) := Mod_holds_b152 N 0 σ
theorem Mod_holds_p151 (ao aa : Nat → Nat) {X : g_X} (hC : gC X c_Mod_holds R_Mod 6 130 4 (some .boolean)) (N : Nat) (σ : g_S) (r : Int32) (σe : g_S) (hf : Mod_holds_b151 N σ = some (r, σe)) : gw X (.inl (some (.int r))) (LM ao aa X.2.2.1 σe) (LM ao aa X.2.2.1 σ) [(0, .ref (ao 0))] 151 [] := by
  unfold Mod_holds_b151 at hf
  refine gw_iconst hC 0 d_Mod_holds_151 (by decide) ?_
  exact Mod_holds_p152 ao aa hC N _ _ _ _ hf
def Mod_holds_b147 (N : Nat) (σ : g_S) : Option (Int32 × g_S) := Mod_holds_b152 N 1 σ
theorem Mod_holds_p147 (ao aa : Nat → Nat) {X : g_X} (hC : gC X c_Mod_holds R_Mod 6 130 4 (some .boolean)) (N : Nat) (σ : g_S) (r : Int32) (σe : g_S) (hf : Mod_holds_b147 N σ = some (r, σe)) : gw X (.inl (some (.int r))) (LM ao aa X.2.2.1 σe) (LM ao aa X.2.2.1 σ) [(0, .ref (ao 0))] 147 [] := by
  unfold Mod_holds_b147 at hf
  refine gw_iconst hC 1 d_Mod_holds_147 (by decide) ?_
  refine gw_goto hC 152 d_Mod_holds_148 (by decide) ?_
  exact Mod_holds_p152 ao aa hC N _ _ _ _ hf
def Mod_holds_b144 (N : Nat) (s0 : Int32) (s1 : Int32) (σ : g_S) : Option (Int32 × g_S) := if s0 = s1 then Mod_holds_b147 N σ else Mod_holds_b151 N σ
theorem Mod_holds_p144 (ao aa : Nat → Nat) {X : g_X} (hC : gC X c_Mod_holds R_Mod 6 130 4 (some .boolean)) (N : Nat) (s0 : Int32) (s1 : Int32) (σ : g_S) (r : Int32) (σe : g_S) (hf : Mod_holds_b144 N s0 s1 σ = some (r, σe)) : gw X (.inl (some (.int r))) (LM ao aa X.2.2.1 σe) (LM ao aa X.2.2.1 σ) [(0, .ref (ao 0))] 144 [.int s1, .int s0] := by
  unfold Mod_holds_b144 at hf
  refine gw_icmp_ne hC 151 d_Mod_holds_144 (by decide) (fun hh => ?_) (fun hh => ?_)
  · rw [if_neg hh] at hf
    exact Mod_holds_p151 ao aa hC N _ _ _ hf
  · rw [if_pos hh] at hf
    exact Mod_holds_p147 ao aa hC N _ _ _ hf
def Mod_holds_b143 (N : Nat) (s0 : Int32) (σ : g_S) : Option (Int32 × g_S) := Mod_holds_b144 N s0 0 σ
theorem Mod_holds_p143 (ao aa : Nat → Nat) {X : g_X} (hC : gC X c_Mod_holds R_Mod 6 130 4 (some .boolean)) (N : Nat) (s0 : Int32) (σ : g_S) (r : Int32) (σe : g_S) (hf : Mod_holds_b143 N s0 σ = some (r, σe)) : gw X (.inl (some (.int r))) (LM ao aa X.2.2.1 σe) (LM ao aa X.2.2.1 σ) [(0, .ref (ao 0))] 143 [.int s0] := by
  unfold Mod_holds_b143 at hf
  refine gw_iconst hC 0 d_Mod_holds_143 (by decide) ?_
  exact Mod_holds_p144 ao aa hC N _ _ _ _ _ hf
def Mod_holds_b139 (N : Nat) (s0 : Int32) (σ : g_S) : Option (Int32 × g_S) := Mod_holds_b144 N s0 1 σ
theorem Mod_holds_p139 (ao aa : Nat → Nat) {X : g_X} (hC : gC X c_Mod_holds R_Mod 6 130 4 (some .boolean)) (N : Nat) (s0 : Int32) (σ : g_S) (r : Int32) (σe : g_S) (hf : Mod_holds_b139 N s0 σ = some (r, σe)) : gw X (.inl (some (.int r))) (LM ao aa X.2.2.1 σe) (LM ao aa X.2.2.1 σ) [(0, .ref (ao 0))] 139 [.int s0] := by
  unfold Mod_holds_b139 at hf
  refine gw_iconst hC 1 d_Mod_holds_139 (by decide) ?_
  refine gw_goto hC 144 d_Mod_holds_140 (by decide) ?_
  exact Mod_holds_p144 ao aa hC N _ _ _ _ _ hf
def Mod_holds_b133 (N : Nat) (x2 : Int32) (s0 : Int32) (σ : g_S) : Option (Int32 × g_S) := if x2 = 10 then Mod_holds_b139 N s0 σ else Mod_holds_b143 N s0 σ
theorem Mod_holds_p133 (ao aa : Nat → Nat) {X : g_X} (hC : gC X c_Mod_holds R_Mod 6 130 4 (some .boolean)) (N : Nat) (x2 : Int32) (s0 : Int32) (σ : g_S) (r : Int32) (σe : g_S) (hf : Mod_holds_b133 N x2 s0 σ = some (r, σe)) : gw X (.inl (some (.int r))) (LM ao aa X.2.2.1 σe) (LM ao aa X.2.2.1 σ) [(0, .ref (ao 0)), (2, .int x2)] 133 [.int s0] := by
  unfold Mod_holds_b133 at hf
  refine gw_iload_n hC 1 d_Mod_holds_133 rfl rfl ?_
  refine gw_bipush hC 10 d_Mod_holds_134 (by decide) ?_
  refine gw_icmp_ne hC 143 d_Mod_holds_136 (by decide) (fun hh => ?_) (fun hh => ?_)
  · rw [if_neg hh] at hf
    refine gw_lv [0] rfl ?_
    exact Mod_holds_p143 ao aa hC N _ _ _ _ hf
  · rw [if_pos hh] at hf
    refine gw_lv [0] rfl ?_
    exact Mod_holds_p139 ao aa hC N _ _ _ _ hf
def Mod_holds_b132 (N : Nat) (x2 : Int32) (σ : g_S) : Option (Int32 × g_S) := Mod_holds_b133 N x2 0 σ
theorem Mod_holds_p132 (ao aa : Nat → Nat) {X : g_X} (hC : gC X c_Mod_holds R_Mod 6 130 4 (some .boolean)) (N : Nat) (x2 : Int32) (σ : g_S) (r : Int32) (σe : g_S) (hf : Mod_holds_b132 N x2 σ = some (r, σe)) : gw X (.inl (some (.int r))) (LM ao aa X.2.2.1 σe) (LM ao aa X.2.2.1 σ) [(0, .ref (ao 0)), (2, .int x2)] 132 [] := by
  unfold Mod_holds_b132 at hf
  refine gw_iconst hC 0 d_Mod_holds_132 (by decide) ?_
  exact Mod_holds_p133 ao aa hC N _ _ _ _ _ hf
def Mod_holds_b128 (N : Nat) (x2 : Int32) (σ : g_S) : Option (Int32 × g_S) := Mod_holds_b133 N x2 1 σ
theorem Mod_holds_p128 (ao aa : Nat → Nat) {X : g_X} (hC : gC X c_Mod_holds R_Mod 6 130 4 (some .boolean)) (N : Nat) (x2 : Int32) (σ : g_S) (r : Int32) (σe : g_S) (hf : Mod_holds_b128 N x2 σ = some (r, σe)) : gw X (.inl (some (.int r))) (LM ao aa X.2.2.1 σe) (LM ao aa X.2.2.1 σ) [(0, .ref (ao 0)), (2, .int x2)] 128 [] := by
  unfold Mod_holds_b128 at hf
  refine gw_iconst hC 1 d_Mod_holds_128 (by decide) ?_
  refine gw_goto hC 133 d_Mod_holds_129 (by decide) ?_
  exact Mod_holds_p133 ao aa hC N _ _ _ _ _ hf
def Mod_holds_b107 (N : Nat) (x2 : Int32) (σ : g_S) : Option (Int32 × g_S) := (Mod_isWordAt N ((σ.1 11) - 1) σ).bind fun q114 => (Mod_isWordAt N (q114.2.1 11) q114.2).bind fun q122 => if q114.1 = q122.1 then Mod_holds_b132 N x2 q122.2 else Mod_holds_b128 N x2 q122.2
theorem Mod_holds_p107 (ao aa : Nat → Nat) {X : g_X} (hC : gC X c_Mod_holds R_Mod 6 130 4 (some .boolean)) (N : Nat) (x2 : Int32) (σ : g_S) (r : Int32) (σe : g_S) (hf : Mod_holds_b107 N x2 σ = some (r, σe)) : gw X (.inl (some (.int r))) (LM ao aa X.2.2.1 σe) (LM ao aa X.2.2.1 σ) [(0, .ref (ao 0)), (2, .int x2)] 107 [] := by
  unfold Mod_holds_b107 at hf
  refine gw_aload_n hC 0 d_Mod_holds_107 rfl rfl ?_
  refine gw_aload_n hC 0 d_Mod_holds_108 rfl rfl ?_
  refine Mg11 hC kf_Mod_129 d_Mod_holds_109 (σ.1 11) rfl ?_
  refine gw_iconst hC 1 d_Mod_holds_112 (by decide) ?_
  refine gw_isub hC d_Mod_holds_113 ?_
  obtain ⟨q114, hq114, hf⟩ := g_bind hf
  refine gw_callV hC [.int ((σ.1 11) - 1)] [] (Mod_isWordAt_m _ _ _ ao aa N _ _ _ _ hq114) kc_Mod_263 0 (g_lay_obj rfl) rfl rfl ⟨by decide, by decide⟩ (Nat.le_of_ble_eq_true rfl) [.int ((σ.1 11) - 1), .ref (ao 0)] [.int q114.1] rfl rfl d_Mod_holds_114 ?_
  refine gw_aload_n hC 0 d_Mod_holds_117 rfl rfl ?_
  refine gw_aload_n hC 0 d_Mod_holds_118 rfl rfl ?_
  refine Mg11 hC kf_Mod_129 d_Mod_holds_119 (q114.2.1 11) rfl ?_
  obtain ⟨q122, hq122, hf⟩ := g_bind hf
  refine gw_callV hC [.int (q114.2.1 11)] [.int q114.1] (Mod_isWordAt_m _ _ _ ao aa N _ _ _ _ hq122) kc_Mod_263 0 (g_lay_obj rfl) rfl rfl ⟨by decide, by decide⟩ (Nat.le_of_ble_eq_true rfl) [.int (q114.2.1 11), .ref (ao 0), .int q114.1] [.int q122.1, .int q114.1] rfl rfl d_Mod_holds_122 ?_
  refine gw_icmp_eq hC 132 d_Mod_holds_125 (by decide) (fun hh => ?_) (fun hh => ?_)
  · rw [if_pos hh] at hf
    exact Mod_holds_p132 ao aa hC N _ _ _ _ hf
  · rw [if_neg hh] at hf
    exact Mod_holds_p128 ao aa hC N _ _ _ _ hf
def Mod_holds_b282 (N : Nat) (s0 : Int32) (σ : g_S) : Option (Int32 × g_S) := if gB s0 = true then some (s0, σ) else none
theorem Mod_holds_p282 (ao aa : Nat → Nat) {X : g_X} (hC : gC X c_Mod_holds R_Mod 6 130 4 (some .boolean)) (N : Nat) (s0 : Int32) (σ : g_S) (r : Int32) (σe : g_S) (hf : Mod_holds_b282 N s0 σ = some (r, σe)) : gw X (.inl (some (.int r))) (LM ao aa X.2.2.1 σe) (LM ao aa X.2.2.1 σ) [(0, .ref (ao 0))] 282 [.int s0] := by
  unfold Mod_holds_b282 at hf
  obtain ⟨hg282, hf⟩ := g_guard hf
  cases hf
  exact gw_zret hC hg282 d_Mod_holds_282
def Mod_holds_b281 (N : Nat) (σ : g_S) : Option (Int32 × g_S) := Mod_holds_b282 N 0 σ
theorem Mod_holds_p281 (ao aa : Nat → Nat) {X : g_X} (hC : gC X c_Mod_holds R_Mod 6 130 4 (some .boolean)) (N : Nat) (σ : g_S) (r : Int32) (σe : g_S) (hf : Mod_holds_b281 N σ = some (r, σe)) : gw X (.inl (some (.int r))) (LM ao aa X.2.2.1 σe) (LM ao aa X.2.2.1 σ) [(0, .ref (ao 0))] 281 [] := by
  unfold Mod_holds_b281 at hf
  refine gw_iconst hC 0 d_Mod_holds_281 (by decide) ?_
  exact Mod_holds_p282 ao aa hC N _ _ _ _ hf
def Mod_holds_b277 (N : Nat) (σ : g_S) : Option (Int32 × g_S) := Mod_holds_b282 N 1 σ
theorem Mod_holds_p277 (ao aa : Nat → Nat) {X : g_X} (hC : gC X c_Mod_holds R_Mod 6 130 4 (some .boolean)) (N : Nat) (σ : g_S) (r : Int32) (σe : g_S) (hf : Mod_holds_b277 N σ = some (r, σe)) : gw X (.inl (some (.int r))) (LM ao aa X.2.2.1 σe) (LM ao aa X.2.2.1 σ) [(0, .ref (ao 0))] 277 [] := by
  unfold Mod_holds_b277 at hf
  refine gw_iconst hC 1 d_Mod_holds_277 (by decide) ?_
  refine gw_goto hC 282 d_Mod_holds_278 (by decide) ?_
  exact Mod_holds_p282 ao aa hC N _ _ _ _ hf
def Mod_holds_b274 (N : Nat) (s0 : Int32) (s1 : Int32) (σ : g_S) : Option (Int32 × g_S) := if s0 = s1 then Mod_holds_b277 N σ else Mod_holds_b281 N σ
theorem Mod_holds_p274 (ao aa : Nat → Nat) {X : g_X} (hC : gC X c_Mod_holds R_Mod 6 130 4 (some .boolean)) (N : Nat) (s0 : Int32) (s1 : Int32) (σ : g_S) (r : Int32) (σe : g_S) (hf : Mod_holds_b274 N s0 s1 σ = some (r, σe)) : gw X (.inl (some (.int r))) (LM ao aa X.2.2.1 σe) (LM ao aa X.2.2.1 σ) [(0, .ref (ao 0))] 274 [.int s1, .int s0] := by
  unfold Mod_holds_b274 at hf
  refine gw_icmp_ne hC 281 d_Mod_holds_274 (by decide) (fun hh => ?_) (fun hh => ?_)
  · rw [if_neg hh] at hf
    exact Mod_holds_p281 ao aa hC N _ _ _ hf
  · rw [if_pos hh] at hf
    exact Mod_holds_p277 ao aa hC N _ _ _ hf
def Mod_holds_b273 (N : Nat) (s0 : Int32) (σ : g_S) : Option (Int32 × g_S) := Mod_holds_b274 N s0 0 σ
theorem Mod_holds_p273 (ao aa : Nat → Nat) {X : g_X} (hC : gC X c_Mod_holds R_Mod 6 130 4 (some .boolean)) (N : Nat) (s0 : Int32) (σ : g_S) (r : Int32) (σe : g_S) (hf : Mod_holds_b273 N s0 σ = some (r, σe)) : gw X (.inl (some (.int r))) (LM ao aa X.2.2.1 σe) (LM ao aa X.2.2.1 σ) [(0, .ref (ao 0))] 273 [.int s0] := by
  unfold Mod_holds_b273 at hf
  refine gw_iconst hC 0 d_Mod_holds_273 (by decide) ?_
  exact Mod_holds_p274 ao aa hC N _ _ _ _ _ hf
def Mod_holds_b269 (N : Nat) (s0 : Int32) (σ : g_S) : Option (Int32 × g_S) := Mod_holds_b274 N s0 1 σ
theorem Mod_holds_p269 (ao aa : Nat → Nat) {X : g_X} (hC : gC X c_Mod_holds R_Mod 6 130 4 (some .boolean)) (N : Nat) (s0 : Int32) (σ : g_S) (r : Int32) (σe : g_S) (hf : Mod_holds_b269 N s0 σ = some (r, σe)) : gw X (.inl (some (.int r))) (LM ao aa X.2.2.1 σe) (LM ao aa X.2.2.1 σ) [(0, .ref (ao 0))] 269 [.int s0] := by
  unfold Mod_holds_b269 at hf
  refine gw_iconst hC 1 d_Mod_holds_269 (by decide) ?_
  refine gw_goto hC 274 d_Mod_holds_270 (by decide) ?_
  exact Mod_holds_p274 ao aa hC N _ _ _ _ _ hf
def Mod_holds_b254 (N : Nat) (x1 : Int32) (x3 : Int32) (σ : g_S) : Option (Int32 × g_S) := (Mod_hasMember N x1 x3 σ).bind fun q257 => if gIn x1 1300 = true then if (q257.2.2 6 (x1).toNatClampNeg) = 0 then Mod_holds_b269 N q257.1 q257.2 else Mod_holds_b273 N q257.1 q257.2 else none
theorem Mod_holds_p254 (ao aa : Nat → Nat) {X : g_X} (hC : gC X c_Mod_holds R_Mod 6 130 4 (some .boolean)) (N : Nat) (x1 : Int32) (x3 : Int32) (σ : g_S) (r : Int32) (σe : g_S) (hf : Mod_holds_b254 N x1 x3 σ = some (r, σe)) : gw X (.inl (some (.int r))) (LM ao aa X.2.2.1 σe) (LM ao aa X.2.2.1 σ) [(0, .ref (ao 0)), (1, .int x1), (3, .int x3)] 254 [] := by
  unfold Mod_holds_b254 at hf
  refine gw_aload_n hC 0 d_Mod_holds_254 rfl rfl ?_
  refine gw_iload_n hC 1 d_Mod_holds_255 rfl rfl ?_
  refine gw_iload_n hC 2 d_Mod_holds_256 rfl rfl ?_
  obtain ⟨q257, hq257, hf⟩ := g_bind hf
  refine gw_callV hC [.int x1, .int x3] [] (Mod_hasMember_m _ _ _ ao aa N _ _ _ _ _ hq257) kc_Mod_272 0 (g_lay_obj rfl) rfl rfl ⟨by decide, by decide⟩ (Nat.le_of_ble_eq_true rfl) [.int x3, .int x1, .ref (ao 0)] [.int q257.1] rfl rfl d_Mod_holds_257 ?_
  refine gw_aload_n hC 0 d_Mod_holds_260 rfl rfl ?_
  refine Mr_Mod_c hC kf_Mod_32 d_Mod_holds_261 ?_
  refine gw_iload_n hC 1 d_Mod_holds_264 rfl rfl ?_
  obtain ⟨hg265, hf⟩ := g_guard hf
  refine Mald (j := 6) hC (by decide) hg265 d_Mod_holds_265 (q257.2.2 6 (x1).toNatClampNeg) rfl ?_
  refine gw_if_ne hC 273 d_Mod_holds_266 (by decide) (fun hh => ?_) (fun hh => ?_)
  · rw [if_neg hh] at hf
    refine gw_lv [0] rfl ?_
    exact Mod_holds_p273 ao aa hC N _ _ _ _ hf
  · rw [if_pos hh] at hf
    refine gw_lv [0] rfl ?_
    exact Mod_holds_p269 ao aa hC N _ _ _ _ hf
def Mod_holds_b243 (N : Nat) (x1 : Int32) (x3 : Int32) (σ : g_S) : Option (Int32 × g_S) := if gIn x1 1300 = true then (Mod_inSet N (σ.2 4 (x1).toNatClampNeg) x3 σ).bind fun q250 => if gB q250.1 = true then some (q250.1, q250.2) else none else none
theorem Mod_holds_p243 (ao aa : Nat → Nat) {X : g_X} (hC : gC X c_Mod_holds R_Mod 6 130 4 (some .boolean)) (N : Nat) (x1 : Int32) (x3 : Int32) (σ : g_S) (r : Int32) (σe : g_S) (hf : Mod_holds_b243 N x1 x3 σ = some (r, σe)) : gw X (.inl (some (.int r))) (LM ao aa X.2.2.1 σe) (LM ao aa X.2.2.1 σ) [(0, .ref (ao 0)), (1, .int x1), (3, .int x3)] 243 [] := by
  unfold Mod_holds_b243 at hf
  refine gw_aload_n hC 0 d_Mod_holds_243 rfl rfl ?_
  refine Mr_Mod_a hC kf_Mod_26 d_Mod_holds_244 ?_
  refine gw_iload_n hC 1 d_Mod_holds_247 rfl rfl ?_
  obtain ⟨hg248, hf⟩ := g_guard hf
  refine Mald (j := 4) hC (by decide) hg248 d_Mod_holds_248 (σ.2 4 (x1).toNatClampNeg) rfl ?_
  refine gw_iload_n hC 2 d_Mod_holds_249 rfl rfl ?_
  obtain ⟨q250, hq250, hf⟩ := g_bind hf
  refine gw_callS hC [.int (σ.2 4 (x1).toNatClampNeg), .int x3] [] (Mod_inSet_m _ _ _ ao aa N _ _ _ _ _ hq250) kc_Mod_253 ⟨by decide, by decide⟩ (Nat.le_of_ble_eq_true rfl) [.int x3, .int (σ.2 4 (x1).toNatClampNeg)] [.int q250.1] rfl rfl d_Mod_holds_250 ?_
  obtain ⟨hg253, hf⟩ := g_guard hf
  cases hf
  exact gw_zret hC hg253 d_Mod_holds_253
def Mod_holds_b238 (N : Nat) (x1 : Int32) (x2 : Int32) (x3 : Int32) (σ : g_S) : Option (Int32 × g_S) := if x2 = 5 then Mod_holds_b243 N x1 x3 σ else Mod_holds_b254 N x1 x3 σ
theorem Mod_holds_p238 (ao aa : Nat → Nat) {X : g_X} (hC : gC X c_Mod_holds R_Mod 6 130 4 (some .boolean)) (N : Nat) (x1 : Int32) (x2 : Int32) (x3 : Int32) (σ : g_S) (r : Int32) (σe : g_S) (hf : Mod_holds_b238 N x1 x2 x3 σ = some (r, σe)) : gw X (.inl (some (.int r))) (LM ao aa X.2.2.1 σe) (LM ao aa X.2.2.1 σ) [(0, .ref (ao 0)), (1, .int x1), (2, .int x2), (3, .int x3)] 238 [] := by
  unfold Mod_holds_b238 at hf
  refine gw_iload_n hC 2 d_Mod_holds_238 rfl rfl ?_
  refine gw_iconst hC 5 d_Mod_holds_239 (by decide) ?_
  refine gw_icmp_ne hC 254 d_Mod_holds_240 (by decide) (fun hh => ?_) (fun hh => ?_)
  · rw [if_neg hh] at hf
    refine gw_lv [0, 1, 3] rfl ?_
    exact Mod_holds_p254 ao aa hC N _ _ _ _ _ hf
  · rw [if_pos hh] at hf
    refine gw_lv [0, 1, 3] rfl ?_
    exact Mod_holds_p243 ao aa hC N _ _ _ _ _ hf
def Mod_holds_b237 (N : Nat) (s0 : Int32) (σ : g_S) : Option (Int32 × g_S) := if gB s0 = true then some (s0, σ) else none
theorem Mod_holds_p237 (ao aa : Nat → Nat) {X : g_X} (hC : gC X c_Mod_holds R_Mod 6 130 4 (some .boolean)) (N : Nat) (s0 : Int32) (σ : g_S) (r : Int32) (σe : g_S) (hf : Mod_holds_b237 N s0 σ = some (r, σe)) : gw X (.inl (some (.int r))) (LM ao aa X.2.2.1 σe) (LM ao aa X.2.2.1 σ) [(0, .ref (ao 0))] 237 [.int s0] := by
  unfold Mod_holds_b237 at hf
  obtain ⟨hg237, hf⟩ := g_guard hf
  cases hf
  exact gw_zret hC hg237 d_Mod_holds_237
def Mod_holds_b236 (N : Nat) (σ : g_S) : Option (Int32 × g_S) := Mod_holds_b237 N 0 σ
theorem Mod_holds_p236 (ao aa : Nat → Nat) {X : g_X} (hC : gC X c_Mod_holds R_Mod 6 130 4 (some .boolean)) (N : Nat) (σ : g_S) (r : Int32) (σe : g_S) (hf : Mod_holds_b236 N σ = some (r, σe)) : gw X (.inl (some (.int r))) (LM ao aa X.2.2.1 σe) (LM ao aa X.2.2.1 σ) [(0, .ref (ao 0))] 236 [] := by
  unfold Mod_holds_b236 at hf
  refine gw_iconst hC 0 d_Mod_holds_236 (by decide) ?_
  exact Mod_holds_p237 ao aa hC N _ _ _ _ hf
def Mod_holds_b232 (N : Nat) (σ : g_S) : Option (Int32 × g_S) := Mod_holds_b237 N 1 σ
theorem Mod_holds_p232 (ao aa : Nat → Nat) {X : g_X} (hC : gC X c_Mod_holds R_Mod 6 130 4 (some .boolean)) (N : Nat) (σ : g_S) (r : Int32) (σe : g_S) (hf : Mod_holds_b232 N σ = some (r, σe)) : gw X (.inl (some (.int r))) (LM ao aa X.2.2.1 σe) (LM ao aa X.2.2.1 σ) [(0, .ref (ao 0))] 232 [] := by
  unfold Mod_holds_b232 at hf
  refine gw_iconst hC 1 d_Mod_holds_232 (by decide) ?_
  refine gw_goto hC 237 d_Mod_holds_233 (by decide) ?_
  exact Mod_holds_p237 ao aa hC N _ _ _ _ hf
def Mod_holds_b225 (N : Nat) (x3 : Int32) (σ : g_S) : Option (Int32 × g_S) := (Mod_isLineEnd N x3 σ).bind fun q226 => if q226.1 = 0 then Mod_holds_b232 N q226.2 else Mod_holds_b236 N q226.2
theorem Mod_holds_p225 (ao aa : Nat → Nat) {X : g_X} (hC : gC X c_Mod_holds R_Mod 6 130 4 (some .boolean)) (N : Nat) (x3 : Int32) (σ : g_S) (r : Int32) (σe : g_S) (hf : Mod_holds_b225 N x3 σ = some (r, σe)) : gw X (.inl (some (.int r))) (LM ao aa X.2.2.1 σe) (LM ao aa X.2.2.1 σ) [(0, .ref (ao 0)), (3, .int x3)] 225 [] := by
  unfold Mod_holds_b225 at hf
  refine gw_iload_n hC 1 d_Mod_holds_225 rfl rfl ?_
  obtain ⟨q226, hq226, hf⟩ := g_bind hf
  refine gw_callS hC [.int x3] [] (Mod_isLineEnd_m _ _ _ ao aa N _ _ _ _ hq226) kc_Mod_126 ⟨by decide, by decide⟩ (Nat.le_of_ble_eq_true rfl) [.int x3] [.int q226.1] rfl rfl d_Mod_holds_226 ?_
  refine gw_if_ne hC 236 d_Mod_holds_229 (by decide) (fun hh => ?_) (fun hh => ?_)
  · rw [if_neg hh] at hf
    refine gw_lv [0] rfl ?_
    exact Mod_holds_p236 ao aa hC N _ _ _ hf
  · rw [if_pos hh] at hf
    refine gw_lv [0] rfl ?_
    exact Mod_holds_p232 ao aa hC N _ _ _ hf
def Mod_holds_b220 (N : Nat) (x1 : Int32) (x2 : Int32) (x3 : Int32) (σ : g_S) : Option (Int32 × g_S) := if x2 = 4 then Mod_holds_b225 N x3 σ else Mod_holds_b238 N x1 x2 x3 σ
theorem Mod_holds_p220 (ao aa : Nat → Nat) {X : g_X} (hC : gC X c_Mod_holds R_Mod 6 130 4 (some .boolean)) (N : Nat) (x1 : Int32) (x2 : Int32) (x3 : Int32) (σ : g_S) (r : Int32) (σe : g_S) (hf : Mod_holds_b220 N x1 x2 x3 σ = some (r, σe)) : gw X (.inl (some (.int r))) (LM ao aa X.2.2.1 σe) (LM ao aa X.2.2.1 σ) [(0, .ref (ao 0)), (1, .int x1), (2, .int x2), (3, .int x3)] 220 [] := by
  unfold Mod_holds_b220 at hf
  refine gw_iload_n hC 2 d_Mod_holds_220 rfl rfl ?_
  refine gw_iconst hC 4 d_Mod_holds_221 (by decide) ?_
  refine gw_icmp_ne hC 238 d_Mod_holds_222 (by decide) (fun hh => ?_) (fun hh => ?_)
  · rw [if_neg hh] at hf
    exact Mod_holds_p238 ao aa hC N _ _ _ _ _ _ hf
  · rw [if_pos hh] at hf
    refine gw_lv [0, 3] rfl ?_
    exact Mod_holds_p225 ao aa hC N _ _ _ _ hf
def Mod_holds_b208 (N : Nat) (x1 : Int32) (x3 : Int32) (σ : g_S) : Option (Int32 × g_S) := if gIn x1 1300 = true then (Mod_isSame N x3 (σ.2 4 (x1).toNatClampNeg) σ).bind fun q216 => if gB q216.1 = true then some (q216.1, q216.2) else none else none
theorem Mod_holds_p208 (ao aa : Nat → Nat) {X : g_X} (hC : gC X c_Mod_holds R_Mod 6 130 4 (some .boolean)) (N : Nat) (x1 : Int32) (x3 : Int32) (σ : g_S) (r : Int32) (σe : g_S) (hf : Mod_holds_b208 N x1 x3 σ = some (r, σe)) : gw X (.inl (some (.int r))) (LM ao aa X.2.2.1 σe) (LM ao aa X.2.2.1 σ) [(0, .ref (ao 0)), (1, .int x1), (3, .int x3)] 208 [] := by
  unfold Mod_holds_b208 at hf
  refine gw_aload_n hC 0 d_Mod_holds_208 rfl rfl ?_
  refine gw_iload_n hC 2 d_Mod_holds_209 rfl rfl ?_
  refine gw_aload_n hC 0 d_Mod_holds_210 rfl rfl ?_
  refine Mr_Mod_a hC kf_Mod_26 d_Mod_holds_211 ?_
  refine gw_iload_n hC 1 d_Mod_holds_214 rfl rfl ?_
  obtain ⟨hg215, hf⟩ := g_guard hf
  refine Mald (j := 4) hC (by decide) hg215 d_Mod_holds_215 (σ.2 4 (x1).toNatClampNeg) rfl ?_
  obtain ⟨q216, hq216, hf⟩ := g_bind hf
  refine gw_callV hC [.int x3, .int (σ.2 4 (x1).toNatClampNeg)] [] (Mod_isSame_m _ _ _ ao aa N _ _ _ _ _ hq216) kc_Mod_269 0 (g_lay_obj rfl) rfl rfl ⟨by decide, by decide⟩ (Nat.le_of_ble_eq_true rfl) [.int (σ.2 4 (x1).toNatClampNeg), .int x3, .ref (ao 0)] [.int q216.1] rfl rfl d_Mod_holds_216 ?_
  obtain ⟨hg219, hf⟩ := g_guard hf
  cases hf
  exact gw_zret hC hg219 d_Mod_holds_219
def Mod_holds_b183 (N : Nat) (x1 : Int32) (x2 : Int32) (σ : g_S) : Option (Int32 × g_S) := if gIn (σ.1 11) 600 = true then if x2 = 3 then Mod_holds_b208 N x1 (σ.2 2 ((σ.1 11)).toNatClampNeg) (gF σ 11 ((σ.1 11) + 1)) else Mod_holds_b220 N x1 x2 (σ.2 2 ((σ.1 11)).toNatClampNeg) (gF σ 11 ((σ.1 11) + 1)) else none
theorem Mod_holds_p183 (ao aa : Nat → Nat) {X : g_X} (hC : gC X c_Mod_holds R_Mod 6 130 4 (some .boolean)) (N : Nat) (x1 : Int32) (x2 : Int32) (σ : g_S) (r : Int32) (σe : g_S) (hf : Mod_holds_b183 N x1 x2 σ = some (r, σe)) : gw X (.inl (some (.int r))) (LM ao aa X.2.2.1 σe) (LM ao aa X.2.2.1 σ) [(0, .ref (ao 0)), (1, .int x1), (2, .int x2)] 183 [] := by
  unfold Mod_holds_b183 at hf
  refine gw_aload_n hC 0 d_Mod_holds_183 rfl rfl ?_
  refine Mr_Mod_text hC kf_Mod_20 d_Mod_holds_184 ?_
  refine gw_aload_n hC 0 d_Mod_holds_187 rfl rfl ?_
  refine Mg11 hC kf_Mod_129 d_Mod_holds_188 (σ.1 11) rfl ?_
  obtain ⟨hg191, hf⟩ := g_guard hf
  refine Mald (j := 2) hC (by decide) hg191 d_Mod_holds_191 (σ.2 2 ((σ.1 11)).toNatClampNeg) rfl ?_
  refine gw_istore_n hC [(3, .int (σ.2 2 ((σ.1 11)).toNatClampNeg)), (0, .ref (ao 0)), (1, .int x1), (2, .int x2)] d_Mod_holds_192 rfl (by decide) rfl ?_
  refine gw_aload_n hC 1 d_Mod_holds_193 rfl rfl ?_
  refine gw_dup hC d_Mod_holds_194 rfl ?_
  refine Mg11 hC kf_Mod_129 d_Mod_holds_195 (σ.1 11) rfl ?_
  refine gw_iconst hC 1 d_Mod_holds_198 (by decide) ?_
  refine gw_iadd hC d_Mod_holds_199 ?_
  refine Mp11 hC kf_Mod_129 d_Mod_holds_200 ?_
  refine gw_iload_n hC 3 d_Mod_holds_203 rfl rfl ?_
  refine gw_iconst hC 3 d_Mod_holds_204 (by decide) ?_
  refine gw_icmp_ne hC 220 d_Mod_holds_205 (by decide) (fun hh => ?_) (fun hh => ?_)
  · rw [if_neg hh] at hf
    refine gw_lv [1, 2, 3, 0] rfl ?_
    exact Mod_holds_p220 ao aa hC N _ _ _ _ _ _ hf
  · rw [if_pos hh] at hf
    refine gw_lv [1, 2, 0] rfl ?_
    exact Mod_holds_p208 ao aa hC N _ _ _ _ _ hf
def Mod_holds_b181 (N : Nat) (σ : g_S) : Option (Int32 × g_S) := some (0, σ)
theorem Mod_holds_p181 (ao aa : Nat → Nat) {X : g_X} (hC : gC X c_Mod_holds R_Mod 6 130 4 (some .boolean)) (N : Nat) (σ : g_S) (r : Int32) (σe : g_S) (hf : Mod_holds_b181 N σ = some (r, σe)) : gw X (.inl (some (.int r))) (LM ao aa X.2.2.1 σe) (LM ao aa X.2.2.1 σ) [(0, .ref (ao 0))] 181 [] := by
  unfold Mod_holds_b181 at hf
  refine gw_iconst hC 0 d_Mod_holds_181 (by decide) ?_
  cases hf
  exact gw_zret hC (by decide) d_Mod_holds_182
def Mod_holds_b170 (N : Nat) (x1 : Int32) (x2 : Int32) (σ : g_S) : Option (Int32 × g_S) := if (σ.1 11) = (σ.1 7) then Mod_holds_b181 N σ else Mod_holds_b183 N x1 x2 σ
theorem Mod_holds_p170 (ao aa : Nat → Nat) {X : g_X} (hC : gC X c_Mod_holds R_Mod 6 130 4 (some .boolean)) (N : Nat) (x1 : Int32) (x2 : Int32) (σ : g_S) (r : Int32) (σe : g_S) (hf : Mod_holds_b170 N x1 x2 σ = some (r, σe)) : gw X (.inl (some (.int r))) (LM ao aa X.2.2.1 σe) (LM ao aa X.2.2.1 σ) [(0, .ref (ao 0)), (1, .int x1), (2, .int x2)] 170 [] := by
  unfold Mod_holds_b170 at hf
  refine gw_aload_n hC 0 d_Mod_holds_170 rfl rfl ?_
  refine Mg11 hC kf_Mod_129 d_Mod_holds_171 (σ.1 11) rfl ?_
  refine gw_aload_n hC 0 d_Mod_holds_174 rfl rfl ?_
  refine Mg7 hC kf_Mod_238 d_Mod_holds_175 (σ.1 7) rfl ?_
  refine gw_icmp_ne hC 183 d_Mod_holds_178 (by decide) (fun hh => ?_) (fun hh => ?_)
  · rw [if_neg hh] at hf
    exact Mod_holds_p183 ao aa hC N _ _ _ _ _ hf
  · rw [if_pos hh] at hf
    refine gw_lv [0] rfl ?_
    exact Mod_holds_p181 ao aa hC N _ _ _ hf
def Mod_holds_b159 (N : Nat) (x1 : Int32) (σ : g_S) : Option (Int32 × g_S) := if gIn x1 1300 = true then (Mod_refers N (σ.2 4 (x1).toNatClampNeg) σ).bind fun q166 => if gB q166.1 = true then some (q166.1, q166.2) else none else none
theorem Mod_holds_p159 (ao aa : Nat → Nat) {X : g_X} (hC : gC X c_Mod_holds R_Mod 6 130 4 (some .boolean)) (N : Nat) (x1 : Int32) (σ : g_S) (r : Int32) (σe : g_S) (hf : Mod_holds_b159 N x1 σ = some (r, σe)) : gw X (.inl (some (.int r))) (LM ao aa X.2.2.1 σe) (LM ao aa X.2.2.1 σ) [(0, .ref (ao 0)), (1, .int x1)] 159 [] := by
  unfold Mod_holds_b159 at hf
  refine gw_aload_n hC 0 d_Mod_holds_159 rfl rfl ?_
  refine gw_aload_n hC 0 d_Mod_holds_160 rfl rfl ?_
  refine Mr_Mod_a hC kf_Mod_26 d_Mod_holds_161 ?_
  refine gw_iload_n hC 1 d_Mod_holds_164 rfl rfl ?_
  obtain ⟨hg165, hf⟩ := g_guard hf
  refine Mald (j := 4) hC (by decide) hg165 d_Mod_holds_165 (σ.2 4 (x1).toNatClampNeg) rfl ?_
  obtain ⟨q166, hq166, hf⟩ := g_bind hf
  refine gw_callV hC [.int (σ.2 4 (x1).toNatClampNeg)] [] (Mod_refers_m _ _ _ ao aa N _ _ _ _ hq166) kc_Mod_266 0 (g_lay_obj rfl) rfl rfl ⟨by decide, by decide⟩ (Nat.le_of_ble_eq_true rfl) [.int (σ.2 4 (x1).toNatClampNeg), .ref (ao 0)] [.int q166.1] rfl rfl d_Mod_holds_166 ?_
  obtain ⟨hg169, hf⟩ := g_guard hf
  cases hf
  exact gw_zret hC hg169 d_Mod_holds_169
def Mod_holds_b153 (N : Nat) (x1 : Int32) (x2 : Int32) (σ : g_S) : Option (Int32 × g_S) := if x2 = 7 then Mod_holds_b159 N x1 σ else Mod_holds_b170 N x1 x2 σ
theorem Mod_holds_p153 (ao aa : Nat → Nat) {X : g_X} (hC : gC X c_Mod_holds R_Mod 6 130 4 (some .boolean)) (N : Nat) (x1 : Int32) (x2 : Int32) (σ : g_S) (r : Int32) (σe : g_S) (hf : Mod_holds_b153 N x1 x2 σ = some (r, σe)) : gw X (.inl (some (.int r))) (LM ao aa X.2.2.1 σe) (LM ao aa X.2.2.1 σ) [(0, .ref (ao 0)), (1, .int x1), (2, .int x2)] 153 [] := by
  unfold Mod_holds_b153 at hf
  refine gw_iload_n hC 2 d_Mod_holds_153 rfl rfl ?_
  refine gw_bipush hC 7 d_Mod_holds_154 (by decide) ?_
  refine gw_icmp_ne hC 170 d_Mod_holds_156 (by decide) (fun hh => ?_) (fun hh => ?_)
  · rw [if_neg hh] at hf
    exact Mod_holds_p170 ao aa hC N _ _ _ _ _ hf
  · rw [if_pos hh] at hf
    refine gw_lv [0, 1] rfl ?_
    exact Mod_holds_p159 ao aa hC N _ _ _ _ hf
def Mod_holds_b101 (N : Nat) (x1 : Int32) (x2 : Int32) (σ : g_S) : Option (Int32 × g_S) := if x2 = 11 then Mod_holds_b107 N x2 σ else Mod_holds_b153 N x1 x2 σ
theorem Mod_holds_p101 (ao aa : Nat → Nat) {X : g_X} (hC : gC X c_Mod_holds R_Mod 6 130 4 (some .boolean)) (N : Nat) (x1 : Int32) (x2 : Int32) (σ : g_S) (r : Int32) (σe : g_S) (hf : Mod_holds_b101 N x1 x2 σ = some (r, σe)) : gw X (.inl (some (.int r))) (LM ao aa X.2.2.1 σe) (LM ao aa X.2.2.1 σ) [(0, .ref (ao 0)), (1, .int x1), (2, .int x2)] 101 [] := by
  unfold Mod_holds_b101 at hf
  refine gw_iload_n hC 2 d_Mod_holds_101 rfl rfl ?_
  refine gw_bipush hC 11 d_Mod_holds_102 (by decide) ?_
  refine gw_icmp_ne hC 153 d_Mod_holds_104 (by decide) (fun hh => ?_) (fun hh => ?_)
  · rw [if_neg hh] at hf
    exact Mod_holds_p153 ao aa hC N _ _ _ _ _ hf
  · rw [if_pos hh] at hf
    refine gw_lv [0, 2] rfl ?_
    exact Mod_holds_p107 ao aa hC N _ _ _ _ hf
def Mod_holds_b95 (N : Nat) (x1 : Int32) (x2 : Int32) (σ : g_S) : Option (Int32 × g_S) := if x2 = 10 then Mod_holds_b107 N x2 σ else Mod_holds_b101 N x1 x2 σ
theorem Mod_holds_p95 (ao aa : Nat → Nat) {X : g_X} (hC : gC X c_Mod_holds R_Mod 6 130 4 (some .boolean)) (N : Nat) (x1 : Int32) (x2 : Int32) (σ : g_S) (r : Int32) (σe : g_S) (hf : Mod_holds_b95 N x1 x2 σ = some (r, σe)) : gw X (.inl (some (.int r))) (LM ao aa X.2.2.1 σe) (LM ao aa X.2.2.1 σ) [(0, .ref (ao 0)), (1, .int x1), (2, .int x2)] 95 [] := by
  unfold Mod_holds_b95 at hf
  refine gw_iload_n hC 2 d_Mod_holds_95 rfl rfl ?_
  refine gw_bipush hC 10 d_Mod_holds_96 (by decide) ?_
  refine gw_icmp_eq hC 107 d_Mod_holds_98 (by decide) (fun hh => ?_) (fun hh => ?_)
  · rw [if_pos hh] at hf
    refine gw_lv [0, 2] rfl ?_
    exact Mod_holds_p107 ao aa hC N _ _ _ _ hf
  · rw [if_neg hh] at hf
    exact Mod_holds_p101 ao aa hC N _ _ _ _ _ hf
def Mod_holds_b94 (N : Nat) (s0 : Int32) (σ : g_S) : Option (Int32 × g_S) := if gB s0 = true then some (s0, σ) else none
theorem Mod_holds_p94 (ao aa : Nat → Nat) {X : g_X} (hC : gC X c_Mod_holds R_Mod 6 130 4 (some .boolean)) (N : Nat) (s0 : Int32) (σ : g_S) (r : Int32) (σe : g_S) (hf : Mod_holds_b94 N s0 σ = some (r, σe)) : gw X (.inl (some (.int r))) (LM ao aa X.2.2.1 σe) (LM ao aa X.2.2.1 σ) [(0, .ref (ao 0))] 94 [.int s0] := by
  unfold Mod_holds_b94 at hf
  obtain ⟨hg94, hf⟩ := g_guard hf
  cases hf
  exact gw_zret hC hg94 d_Mod_holds_94
def Mod_holds_b89 (N : Nat) (σ : g_S) : Option (Int32 × g_S) := Mod_holds_b94 N 1 σ
theorem Mod_holds_p89 (ao aa : Nat → Nat) {X : g_X} (hC : gC X c_Mod_holds R_Mod 6 130 4 (some .boolean)) (N : Nat) (σ : g_S) (r : Int32) (σe : g_S) (hf : Mod_holds_b89 N σ = some (r, σe)) : gw X (.inl (some (.int r))) (LM ao aa X.2.2.1 σe) (LM ao aa X.2.2.1 σ) [(0, .ref (ao 0))] 89 [] := by
  unfold Mod_holds_b89 at hf
  refine gw_iconst hC 1 d_Mod_holds_89 (by decide) ?_
  refine gw_goto hC 94 d_Mod_holds_90 (by decide) ?_
  exact Mod_holds_p94 ao aa hC N _ _ _ _ hf
def Mod_holds_b93 (N : Nat) (σ : g_S) : Option (Int32 × g_S) := Mod_holds_b94 N 0 σ
theorem Mod_holds_p93 (ao aa : Nat → Nat) {X : g_X} (hC : gC X c_Mod_holds R_Mod 6 130 4 (some .boolean)) (N : Nat) (σ : g_S) (r : Int32) (σe : g_S) (hf : Mod_holds_b93 N σ = some (r, σe)) : gw X (.inl (some (.int r))) (LM ao aa X.2.2.1 σe) (LM ao aa X.2.2.1 σ) [(0, .ref (ao 0))] 93 [] := by
  unfold Mod_holds_b93 at hf
  refine gw_iconst hC 0 d_Mod_holds_93 (by decide) ?_
  exact Mod_holds_p94 ao aa hC N _ _ _ _ hf
def Mod_holds_b74 (N : Nat) (σ : g_S) : Option (Int32 × g_S) := if gIn (σ.1 11) 600 = true then (Mod_isLineEnd N (σ.2 2 ((σ.1 11)).toNatClampNeg) σ).bind fun q83 => if q83.1 = 0 then Mod_holds_b93 N q83.2 else Mod_holds_b89 N q83.2 else none
theorem Mod_holds_p74 (ao aa : Nat → Nat) {X : g_X} (hC : gC X c_Mod_holds R_Mod 6 130 4 (some .boolean)) (N : Nat) (σ : g_S) (r : Int32) (σe : g_S) (hf : Mod_holds_b74 N σ = some (r, σe)) : gw X (.inl (some (.int r))) (LM ao aa X.2.2.1 σe) (LM ao aa X.2.2.1 σ) [(0, .ref (ao 0))] 74 [] := by
  unfold Mod_holds_b74 at hf
  refine gw_aload_n hC 0 d_Mod_holds_74 rfl rfl ?_
  refine Mr_Mod_text hC kf_Mod_20 d_Mod_holds_75 ?_
  refine gw_aload_n hC 0 d_Mod_holds_78 rfl rfl ?_
  refine Mg11 hC kf_Mod_129 d_Mod_holds_79 (σ.1 11) rfl ?_
  obtain ⟨hg82, hf⟩ := g_guard hf
  refine Mald (j := 2) hC (by decide) hg82 d_Mod_holds_82 (σ.2 2 ((σ.1 11)).toNatClampNeg) rfl ?_
  obtain ⟨q83, hq83, hf⟩ := g_bind hf
  refine gw_callS hC [.int (σ.2 2 ((σ.1 11)).toNatClampNeg)] [] (Mod_isLineEnd_m _ _ _ ao aa N _ _ _ _ hq83) kc_Mod_126 ⟨by decide, by decide⟩ (Nat.le_of_ble_eq_true rfl) [.int (σ.2 2 ((σ.1 11)).toNatClampNeg)] [.int q83.1] rfl rfl d_Mod_holds_83 ?_
  refine gw_if_eq hC 93 d_Mod_holds_86 (by decide) (fun hh => ?_) (fun hh => ?_)
  · rw [if_pos hh] at hf
    exact Mod_holds_p93 ao aa hC N _ _ _ hf
  · rw [if_neg hh] at hf
    exact Mod_holds_p89 ao aa hC N _ _ _ hf
def Mod_holds_b67 (N : Nat) (σ : g_S) : Option (Int32 × g_S) := if (σ.1 4) = 0 then Mod_holds_b93 N σ else Mod_holds_b74 N σ
theorem Mod_holds_p67 (ao aa : Nat → Nat) {X : g_X} (hC : gC X c_Mod_holds R_Mod 6 130 4 (some .boolean)) (N : Nat) (σ : g_S) (r : Int32) (σe : g_S) (hf : Mod_holds_b67 N σ = some (r, σe)) : gw X (.inl (some (.int r))) (LM ao aa X.2.2.1 σe) (LM ao aa X.2.2.1 σ) [(0, .ref (ao 0))] 67 [] := by
  unfold Mod_holds_b67 at hf
  refine gw_aload_n hC 0 d_Mod_holds_67 rfl rfl ?_
  refine Mg4 hC kf_Mod_232 d_Mod_holds_68 (σ.1 4) rfl ?_
  refine gw_if_eq hC 93 d_Mod_holds_71 (by decide) (fun hh => ?_) (fun hh => ?_)
  · rw [if_pos hh] at hf
    exact Mod_holds_p93 ao aa hC N _ _ _ hf
  · rw [if_neg hh] at hf
    exact Mod_holds_p74 ao aa hC N _ _ _ hf
def Mod_holds_b56 (N : Nat) (σ : g_S) : Option (Int32 × g_S) := if (σ.1 11) = (σ.1 7) then Mod_holds_b89 N σ else Mod_holds_b67 N σ
theorem Mod_holds_p56 (ao aa : Nat → Nat) {X : g_X} (hC : gC X c_Mod_holds R_Mod 6 130 4 (some .boolean)) (N : Nat) (σ : g_S) (r : Int32) (σe : g_S) (hf : Mod_holds_b56 N σ = some (r, σe)) : gw X (.inl (some (.int r))) (LM ao aa X.2.2.1 σe) (LM ao aa X.2.2.1 σ) [(0, .ref (ao 0))] 56 [] := by
  unfold Mod_holds_b56 at hf
  refine gw_aload_n hC 0 d_Mod_holds_56 rfl rfl ?_
  refine Mg11 hC kf_Mod_129 d_Mod_holds_57 (σ.1 11) rfl ?_
  refine gw_aload_n hC 0 d_Mod_holds_60 rfl rfl ?_
  refine Mg7 hC kf_Mod_238 d_Mod_holds_61 (σ.1 7) rfl ?_
  refine gw_icmp_eq hC 89 d_Mod_holds_64 (by decide) (fun hh => ?_) (fun hh => ?_)
  · rw [if_pos hh] at hf
    exact Mod_holds_p89 ao aa hC N _ _ _ hf
  · rw [if_neg hh] at hf
    exact Mod_holds_p67 ao aa hC N _ _ _ hf
def Mod_holds_b50 (N : Nat) (x1 : Int32) (x2 : Int32) (σ : g_S) : Option (Int32 × g_S) := if x2 = 9 then Mod_holds_b56 N σ else Mod_holds_b95 N x1 x2 σ
theorem Mod_holds_p50 (ao aa : Nat → Nat) {X : g_X} (hC : gC X c_Mod_holds R_Mod 6 130 4 (some .boolean)) (N : Nat) (x1 : Int32) (x2 : Int32) (σ : g_S) (r : Int32) (σe : g_S) (hf : Mod_holds_b50 N x1 x2 σ = some (r, σe)) : gw X (.inl (some (.int r))) (LM ao aa X.2.2.1 σe) (LM ao aa X.2.2.1 σ) [(0, .ref (ao 0)), (1, .int x1), (2, .int x2)] 50 [] := by
  unfold Mod_holds_b50 at hf
  refine gw_iload_n hC 2 d_Mod_holds_50 rfl rfl ?_
  refine gw_bipush hC 9 d_Mod_holds_51 (by decide) ?_
  refine gw_icmp_ne hC 95 d_Mod_holds_53 (by decide) (fun hh => ?_) (fun hh => ?_)
  · rw [if_neg hh] at hf
    exact Mod_holds_p95 ao aa hC N _ _ _ _ _ hf
  · rw [if_pos hh] at hf
    refine gw_lv [0] rfl ?_
    exact Mod_holds_p56 ao aa hC N _ _ _ hf
def Mod_holds_b49 (N : Nat) (s0 : Int32) (σ : g_S) : Option (Int32 × g_S) := if gB s0 = true then some (s0, σ) else none
theorem Mod_holds_p49 (ao aa : Nat → Nat) {X : g_X} (hC : gC X c_Mod_holds R_Mod 6 130 4 (some .boolean)) (N : Nat) (s0 : Int32) (σ : g_S) (r : Int32) (σe : g_S) (hf : Mod_holds_b49 N s0 σ = some (r, σe)) : gw X (.inl (some (.int r))) (LM ao aa X.2.2.1 σe) (LM ao aa X.2.2.1 σ) [(0, .ref (ao 0))] 49 [.int s0] := by
  unfold Mod_holds_b49 at hf
  obtain ⟨hg49, hf⟩ := g_guard hf
  cases hf
  exact gw_zret hC hg49 d_Mod_holds_49
def Mod_holds_b44 (N : Nat) (σ : g_S) : Option (Int32 × g_S) := Mod_holds_b49 N 1 σ
theorem Mod_holds_p44 (ao aa : Nat → Nat) {X : g_X} (hC : gC X c_Mod_holds R_Mod 6 130 4 (some .boolean)) (N : Nat) (σ : g_S) (r : Int32) (σe : g_S) (hf : Mod_holds_b44 N σ = some (r, σe)) : gw X (.inl (some (.int r))) (LM ao aa X.2.2.1 σe) (LM ao aa X.2.2.1 σ) [(0, .ref (ao 0))] 44 [] := by
  unfold Mod_holds_b44 at hf
  refine gw_iconst hC 1 d_Mod_holds_44 (by decide) ?_
  refine gw_goto hC 49 d_Mod_holds_45 (by decide) ?_
  exact Mod_holds_p49 ao aa hC N _ _ _ _ hf
def Mod_holds_b48 (N : Nat) (σ : g_S) : Option (Int32 × g_S) := Mod_holds_b49 N 0 σ
theorem Mod_holds_p48 (ao aa : Nat → Nat) {X : g_X} (hC : gC X c_Mod_holds R_Mod 6 130 4 (some .boolean)) (N : Nat) (σ : g_S) (r : Int32) (σe : g_S) (hf : Mod_holds_b48 N σ = some (r, σe)) : gw X (.inl (some (.int r))) (LM ao aa X.2.2.1 σe) (LM ao aa X.2.2.1 σ) [(0, .ref (ao 0))] 48 [] := by
  unfold Mod_holds_b48 at hf
  refine gw_iconst hC 0 d_Mod_holds_48 (by decide) ?_
  exact Mod_holds_p49 ao aa hC N _ _ _ _ hf
def Mod_holds_b27 (N : Nat) (σ : g_S) : Option (Int32 × g_S) := if gIn ((σ.1 11) - 1) 600 = true then (Mod_isLineEnd N (σ.2 2 (((σ.1 11) - 1)).toNatClampNeg) σ).bind fun q38 => if q38.1 = 0 then Mod_holds_b48 N q38.2 else Mod_holds_b44 N q38.2 else none
theorem Mod_holds_p27 (ao aa : Nat → Nat) {X : g_X} (hC : gC X c_Mod_holds R_Mod 6 130 4 (some .boolean)) (N : Nat) (σ : g_S) (r : Int32) (σe : g_S) (hf : Mod_holds_b27 N σ = some (r, σe)) : gw X (.inl (some (.int r))) (LM ao aa X.2.2.1 σe) (LM ao aa X.2.2.1 σ) [(0, .ref (ao 0))] 27 [] := by
  unfold Mod_holds_b27 at hf
  refine gw_aload_n hC 0 d_Mod_holds_27 rfl rfl ?_
  refine Mr_Mod_text hC kf_Mod_20 d_Mod_holds_28 ?_
  refine gw_aload_n hC 0 d_Mod_holds_31 rfl rfl ?_
  refine Mg11 hC kf_Mod_129 d_Mod_holds_32 (σ.1 11) rfl ?_
  refine gw_iconst hC 1 d_Mod_holds_35 (by decide) ?_
  refine gw_isub hC d_Mod_holds_36 ?_
  obtain ⟨hg37, hf⟩ := g_guard hf
  refine Mald (j := 2) hC (by decide) hg37 d_Mod_holds_37 (σ.2 2 (((σ.1 11) - 1)).toNatClampNeg) rfl ?_
  obtain ⟨q38, hq38, hf⟩ := g_bind hf
  refine gw_callS hC [.int (σ.2 2 (((σ.1 11) - 1)).toNatClampNeg)] [] (Mod_isLineEnd_m _ _ _ ao aa N _ _ _ _ hq38) kc_Mod_126 ⟨by decide, by decide⟩ (Nat.le_of_ble_eq_true rfl) [.int (σ.2 2 (((σ.1 11) - 1)).toNatClampNeg)] [.int q38.1] rfl rfl d_Mod_holds_38 ?_
  refine gw_if_eq hC 48 d_Mod_holds_41 (by decide) (fun hh => ?_) (fun hh => ?_)
  · rw [if_pos hh] at hf
    exact Mod_holds_p48 ao aa hC N _ _ _ hf
  · rw [if_neg hh] at hf
    exact Mod_holds_p44 ao aa hC N _ _ _ hf
def Mod_holds_b20 (N : Nat) (σ : g_S) : Option (Int32 × g_S) := if (σ.1 4) = 0 then Mod_holds_b48 N σ else Mod_holds_b27 N σ
theorem Mod_holds_p20 (ao aa : Nat → Nat) {X : g_X} (hC : gC X c_Mod_holds R_Mod 6 130 4 (some .boolean)) (N : Nat) (σ : g_S) (r : Int32) (σe : g_S) (hf : Mod_holds_b20 N σ = some (r, σe)) : gw X (.inl (some (.int r))) (LM ao aa X.2.2.1 σe) (LM ao aa X.2.2.1 σ) [(0, .ref (ao 0))] 20 [] := by
  unfold Mod_holds_b20 at hf
  refine gw_aload_n hC 0 d_Mod_holds_20 rfl rfl ?_
  refine Mg4 hC kf_Mod_232 d_Mod_holds_21 (σ.1 4) rfl ?_
  refine gw_if_eq hC 48 d_Mod_holds_24 (by decide) (fun hh => ?_) (fun hh => ?_)
  · rw [if_pos hh] at hf
    exact Mod_holds_p48 ao aa hC N _ _ _ hf
  · rw [if_neg hh] at hf
    exact Mod_holds_p27 ao aa hC N _ _ _ hf
def Mod_holds_b13 (N : Nat) (σ : g_S) : Option (Int32 × g_S) := if (σ.1 11) = 0 then Mod_holds_b44 N σ else Mod_holds_b20 N σ
theorem Mod_holds_p13 (ao aa : Nat → Nat) {X : g_X} (hC : gC X c_Mod_holds R_Mod 6 130 4 (some .boolean)) (N : Nat) (σ : g_S) (r : Int32) (σe : g_S) (hf : Mod_holds_b13 N σ = some (r, σe)) : gw X (.inl (some (.int r))) (LM ao aa X.2.2.1 σe) (LM ao aa X.2.2.1 σ) [(0, .ref (ao 0))] 13 [] := by
  unfold Mod_holds_b13 at hf
  refine gw_aload_n hC 0 d_Mod_holds_13 rfl rfl ?_
  refine Mg11 hC kf_Mod_129 d_Mod_holds_14 (σ.1 11) rfl ?_
  refine gw_if_eq hC 44 d_Mod_holds_17 (by decide) (fun hh => ?_) (fun hh => ?_)
  · rw [if_pos hh] at hf
    exact Mod_holds_p44 ao aa hC N _ _ _ hf
  · rw [if_neg hh] at hf
    exact Mod_holds_p20 ao aa hC N _ _ _ hf
def Mod_holds_b0 (N : Nat) (x1 : Int32) (σ : g_S) : Option (Int32 × g_S) := if gIn x1 1300 = true then if (σ.2 3 (x1).toNatClampNeg) = 8 then Mod_holds_b13 N σ else Mod_holds_b50 N x1 (σ.2 3 (x1).toNatClampNeg) σ else none
theorem Mod_holds_p0 (ao aa : Nat → Nat) {X : g_X} (hC : gC X c_Mod_holds R_Mod 6 130 4 (some .boolean)) (N : Nat) (x1 : Int32) (σ : g_S) (r : Int32) (σe : g_S) (hf : Mod_holds_b0 N x1 σ = some (r, σe)) : gw X (.inl (some (.int r))) (LM ao aa X.2.2.1 σe) (LM ao aa X.2.2.1 σ) [(0, .ref (ao 0)), (1, .int x1)] 0 [] := by
  unfold Mod_holds_b0 at hf
  refine gw_aload_n hC 0 d_Mod_holds_0 rfl rfl ?_
  refine Mr_Mod_kind hC kf_Mod_23 d_Mod_holds_1 ?_
  refine gw_iload_n hC 1 d_Mod_holds_4 rfl rfl ?_
  obtain ⟨hg5, hf⟩ := g_guard hf
  refine Mald (j := 3) hC (by decide) hg5 d_Mod_holds_5 (σ.2 3 (x1).toNatClampNeg) rfl ?_
  refine gw_istore_n hC [(2, .int (σ.2 3 (x1).toNatClampNeg)), (0, .ref (ao 0)), (1, .int x1)] d_Mod_holds_6 rfl (by decide) rfl ?_
  refine gw_iload_n hC 0 d_Mod_holds_7 rfl rfl ?_
  refine gw_bipush hC 8 d_Mod_holds_8 (by decide) ?_
  refine gw_icmp_ne hC 50 d_Mod_holds_10 (by decide) (fun hh => ?_) (fun hh => ?_)
  · rw [if_neg hh] at hf
    refine gw_lv [1, 2, 0] rfl ?_
    exact Mod_holds_p50 ao aa hC N _ _ _ _ _ hf
  · rw [if_pos hh] at hf
    refine gw_lv [1] rfl ?_
    exact Mod_holds_p13 ao aa hC N _ _ _ hf
def Mod_holds (N : Nat) (x1 : Int32) (σ : g_S) : Option (Int32 × g_S) := Mod_holds_b0 N x1 σ
theorem Mod_holds_m (l : Launch) (D : va_G) (cA : ClassId) (ao aa : Nat → Nat) (N : Nat) (x1 : Int32) (σ : g_S) (r : Int32) (σe : g_S) (hf : Mod_holds N x1 σ = some (r, σe)) : Mt l D cA y_Mod_holds c_Mod_holds 4 (some .boolean) 6 130 [.ref (ao 0), .int x1] (LM ao aa cA σ) (some (.int r)) (LM ao aa cA σe) := by
  refine g_met (by decide +kernel) (by simp [lg_sl, Value.category]) (fun X e1 e2 e3 hC => ?_)
  subst e1 e2 e3
  refine gw_lv [0, 1] rfl ?_
  exact Mod_holds_p0 ao aa hC N _ _ (r) _ hf
def Mod_doNode_b113 (N : Nat) (x1 : Int32) (x2 : Int32) (s1 : Int32) (s2 : Int32) (s3 : Int32) (σ : g_S) : Option (Int32 × g_S) := (Mod_push N s1 s2 s3 σ).bind fun q113 => if gIn x1 1300 = true then (Mod_row N 7 x1 x2 (q113.2.1 11) (q113.2.1 19) 0 q113.2).bind fun q138 => (Mod_row N 0 (q113.2.2 7 (x1).toNatClampNeg) q138.1 0 0 0 q138.2).bind fun q144 => some (q144.1, q144.2) else none
theorem Mod_doNode_p113 (ao aa : Nat → Nat) {X : g_X} (hC : gC X c_Mod_doNode R_Mod 7 153 4 (some .int)) (N : Nat) (x1 : Int32) (x2 : Int32) (s1 : Int32) (s2 : Int32) (s3 : Int32) (σ : g_S) (r : Int32) (σe : g_S) (hf : Mod_doNode_b113 N x1 x2 s1 s2 s3 σ = some (r, σe)) : gw X (.inl (some (.int r))) (LM ao aa X.2.2.1 σe) (LM ao aa X.2.2.1 σ) [(0, .ref (ao 0)), (1, .int x1), (2, .int x2)] 113 [.int s3, .int s2, .int s1, .ref (ao 0)] := by
  unfold Mod_doNode_b113 at hf
  obtain ⟨q113, hq113, hf⟩ := g_bind hf
  refine gw_callV hC [.int s1, .int s2, .int s3] [] (Mod_push_m _ _ _ ao aa N _ _ _ _ _ _ hq113) kc_Mod_279 0 (g_lay_obj rfl) rfl rfl ⟨by decide, by decide⟩ (Nat.le_of_ble_eq_true rfl) [.int s3, .int s2, .int s1, .ref (ao 0)] [] rfl rfl d_Mod_doNode_113 ?_
  refine gw_aload_n hC 0 d_Mod_doNode_116 rfl rfl ?_
  refine gw_iconst hC 0 d_Mod_doNode_117 (by decide) ?_
  refine gw_aload_n hC 0 d_Mod_doNode_118 rfl rfl ?_
  refine Mr_Mod_first hC kf_Mod_35 d_Mod_doNode_119 ?_
  refine gw_iload_n hC 1 d_Mod_doNode_122 rfl rfl ?_
  obtain ⟨hg123, hf⟩ := g_guard hf
  refine Mald (j := 7) hC (by decide) hg123 d_Mod_doNode_123 (q113.2.2 7 (x1).toNatClampNeg) rfl ?_
  refine gw_aload_n hC 0 d_Mod_doNode_124 rfl rfl ?_
  refine gw_bipush hC 7 d_Mod_doNode_125 (by decide) ?_
  refine gw_iload_n hC 1 d_Mod_doNode_127 rfl rfl ?_
  refine gw_iload_n hC 2 d_Mod_doNode_128 rfl rfl ?_
  refine gw_aload_n hC 0 d_Mod_doNode_129 rfl rfl ?_
  refine Mg11 hC kf_Mod_129 d_Mod_doNode_130 (q113.2.1 11) rfl ?_
  refine gw_aload_n hC 0 d_Mod_doNode_133 rfl rfl ?_
  refine Mg19 hC kf_Mod_244 d_Mod_doNode_134 (q113.2.1 19) rfl ?_
  refine gw_iconst hC 0 d_Mod_doNode_137 (by decide) ?_
  obtain ⟨q138, hq138, hf⟩ := g_bind hf
  refine gw_callV hC [.int 7, .int x1, .int x2, .int (q113.2.1 11), .int (q113.2.1 19), .int 0] [.int (q113.2.2 7 (x1).toNatClampNeg), .int 0, .ref (ao 0)] (Mod_row_m _ _ _ ao aa N _ _ _ _ _ _ _ _ _ hq138) kc_Mod_275 0 (g_lay_obj rfl) rfl rfl ⟨by decide, by decide⟩ (Nat.le_of_ble_eq_true rfl) [.int 0, .int (q113.2.1 19), .int (q113.2.1 11), .int x2, .int x1, .int 7, .ref (ao 0), .int (q113.2.2 7 (x1).toNatClampNeg), .int 0, .ref (ao 0)] [.int q138.1, .int (q113.2.2 7 (x1).toNatClampNeg), .int 0, .ref (ao 0)] rfl rfl d_Mod_doNode_138 ?_
  refine gw_iconst hC 0 d_Mod_doNode_141 (by decide) ?_
  refine gw_iconst hC 0 d_Mod_doNode_142 (by decide) ?_
  refine gw_iconst hC 0 d_Mod_doNode_143 (by decide) ?_
  obtain ⟨q144, hq144, hf⟩ := g_bind hf
  refine gw_callV hC [.int 0, .int (q113.2.2 7 (x1).toNatClampNeg), .int q138.1, .int 0, .int 0, .int 0] [] (Mod_row_m _ _ _ ao aa N _ _ _ _ _ _ _ _ _ hq144) kc_Mod_275 0 (g_lay_obj rfl) rfl rfl ⟨by decide, by decide⟩ (Nat.le_of_ble_eq_true rfl) [.int 0, .int 0, .int 0, .int q138.1, .int (q113.2.2 7 (x1).toNatClampNeg), .int 0, .ref (ao 0)] [.int q144.1] rfl rfl d_Mod_doNode_144 ?_
  cases hf
  exact gw_iret hC d_Mod_doNode_147
def Mod_doNode_b112 (N : Nat) (x1 : Int32) (x2 : Int32) (s1 : Int32) (s2 : Int32) (σ : g_S) : Option (Int32 × g_S) := Mod_doNode_b113 N x1 x2 s1 s2 2 σ
theorem Mod_doNode_p112 (ao aa : Nat → Nat) {X : g_X} (hC : gC X c_Mod_doNode R_Mod 7 153 4 (some .int)) (N : Nat) (x1 : Int32) (x2 : Int32) (s1 : Int32) (s2 : Int32) (σ : g_S) (r : Int32) (σe : g_S) (hf : Mod_doNode_b112 N x1 x2 s1 s2 σ = some (r, σe)) : gw X (.inl (some (.int r))) (LM ao aa X.2.2.1 σe) (LM ao aa X.2.2.1 σ) [(0, .ref (ao 0)), (1, .int x1), (2, .int x2)] 112 [.int s2, .int s1, .ref (ao 0)] := by
  unfold Mod_doNode_b112 at hf
  refine gw_iconst hC 2 d_Mod_doNode_112 (by decide) ?_
  exact Mod_doNode_p113 ao aa hC N _ _ _ _ _ _ _ _ hf
def Mod_doNode_b108 (N : Nat) (x1 : Int32) (x2 : Int32) (s1 : Int32) (s2 : Int32) (σ : g_S) : Option (Int32 × g_S) := Mod_doNode_b113 N x1 x2 s1 s2 1 σ
theorem Mod_doNode_p108 (ao aa : Nat → Nat) {X : g_X} (hC : gC X c_Mod_doNode R_Mod 7 153 4 (some .int)) (N : Nat) (x1 : Int32) (x2 : Int32) (s1 : Int32) (s2 : Int32) (σ : g_S) (r : Int32) (σe : g_S) (hf : Mod_doNode_b108 N x1 x2 s1 s2 σ = some (r, σe)) : gw X (.inl (some (.int r))) (LM ao aa X.2.2.1 σe) (LM ao aa X.2.2.1 σ) [(0, .ref (ao 0)), (1, .int x1), (2, .int x2)] 108 [.int s2, .int s1, .ref (ao 0)] := by
  unfold Mod_doNode_b108 at hf
  refine gw_iconst hC 1 d_Mod_doNode_108 (by decide) ?_
  refine gw_goto hC 113 d_Mod_doNode_109 (by decide) ?_
  exact Mod_doNode_p113 ao aa hC N _ _ _ _ _ _ _ _ hf
def Mod_doNode_b96 (N : Nat) (x1 : Int32) (x2 : Int32) (x3 : Int32) (σ : g_S) : Option (Int32 × g_S) := if x3 = 14 then Mod_doNode_b108 N x1 x2 x2 (σ.1 11) σ else Mod_doNode_b112 N x1 x2 x2 (σ.1 11) σ
theorem Mod_doNode_p96 (ao aa : Nat → Nat) {X : g_X} (hC : gC X c_Mod_doNode R_Mod 7 153 4 (some .int)) (N : Nat) (x1 : Int32) (x2 : Int32) (x3 : Int32) (σ : g_S) (r : Int32) (σe : g_S) (hf : Mod_doNode_b96 N x1 x2 x3 σ = some (r, σe)) : gw X (.inl (some (.int r))) (LM ao aa X.2.2.1 σe) (LM ao aa X.2.2.1 σ) [(0, .ref (ao 0)), (1, .int x1), (2, .int x2), (3, .int x3)] 96 [] := by
  unfold Mod_doNode_b96 at hf
  refine gw_aload_n hC 0 d_Mod_doNode_96 rfl rfl ?_
  refine gw_iload_n hC 2 d_Mod_doNode_97 rfl rfl ?_
  refine gw_aload_n hC 0 d_Mod_doNode_98 rfl rfl ?_
  refine Mg11 hC kf_Mod_129 d_Mod_doNode_99 (σ.1 11) rfl ?_
  refine gw_iload_n hC 3 d_Mod_doNode_102 rfl rfl ?_
  refine gw_bipush hC 14 d_Mod_doNode_103 (by decide) ?_
  refine gw_icmp_ne hC 112 d_Mod_doNode_105 (by decide) (fun hh => ?_) (fun hh => ?_)
  · rw [if_neg hh] at hf
    refine gw_lv [0, 1, 2] rfl ?_
    exact Mod_doNode_p112 ao aa hC N _ _ _ _ _ _ _ hf
  · rw [if_pos hh] at hf
    refine gw_lv [0, 1, 2] rfl ?_
    exact Mod_doNode_p108 ao aa hC N _ _ _ _ _ _ _ hf
def Mod_doNode_b198 (N : Nat) (s0 : Int32) (σ : g_S) : Option (Int32 × g_S) := some (s0, σ)
theorem Mod_doNode_p198 (ao aa : Nat → Nat) {X : g_X} (hC : gC X c_Mod_doNode R_Mod 7 153 4 (some .int)) (N : Nat) (s0 : Int32) (σ : g_S) (r : Int32) (σe : g_S) (hf : Mod_doNode_b198 N s0 σ = some (r, σe)) : gw X (.inl (some (.int r))) (LM ao aa X.2.2.1 σe) (LM ao aa X.2.2.1 σ) [(0, .ref (ao 0))] 198 [.int s0] := by
  unfold Mod_doNode_b198 at hf
  cases hf
  exact gw_iret hC d_Mod_doNode_198
def Mod_doNode_b197 (N : Nat) (σ : g_S) : Option (Int32 × g_S) := Mod_doNode_b198 N (-1) σ
theorem Mod_doNode_p197 (ao aa : Nat → Nat) {X : g_X} (hC : gC X c_Mod_doNode R_Mod 7 153 4 (some .int)) (N : Nat) (σ : g_S) (r : Int32) (σe : g_S) (hf : Mod_doNode_b197 N σ = some (r, σe)) : gw X (.inl (some (.int r))) (LM ao aa X.2.2.1 σe) (LM ao aa X.2.2.1 σ) [(0, .ref (ao 0))] 197 [] := by
  unfold Mod_doNode_b197 at hf
  refine gw_iconst hC (-1) d_Mod_doNode_197 (by decide) ?_
  exact Mod_doNode_p198 ao aa hC N _ _ _ _ hf
def Mod_doNode_b193 (N : Nat) (x2 : Int32) (σ : g_S) : Option (Int32 × g_S) := Mod_doNode_b198 N x2 σ
theorem Mod_doNode_p193 (ao aa : Nat → Nat) {X : g_X} (hC : gC X c_Mod_doNode R_Mod 7 153 4 (some .int)) (N : Nat) (x2 : Int32) (σ : g_S) (r : Int32) (σe : g_S) (hf : Mod_doNode_b193 N x2 σ = some (r, σe)) : gw X (.inl (some (.int r))) (LM ao aa X.2.2.1 σe) (LM ao aa X.2.2.1 σ) [(0, .ref (ao 0)), (2, .int x2)] 193 [] := by
  unfold Mod_doNode_b193 at hf
  refine gw_iload_n hC 1 d_Mod_doNode_193 rfl rfl ?_
  refine gw_goto hC 198 d_Mod_doNode_194 (by decide) ?_
  refine gw_lv [0] rfl ?_
  exact Mod_doNode_p198 ao aa hC N _ _ _ _ hf
def Mod_doNode_b185 (N : Nat) (x1 : Int32) (x2 : Int32) (σ : g_S) : Option (Int32 × g_S) := (Mod_holds N x1 σ).bind fun q187 => if q187.1 = 0 then Mod_doNode_b197 N q187.2 else Mod_doNode_b193 N x2 q187.2
theorem Mod_doNode_p185 (ao aa : Nat → Nat) {X : g_X} (hC : gC X c_Mod_doNode R_Mod 7 153 4 (some .int)) (N : Nat) (x1 : Int32) (x2 : Int32) (σ : g_S) (r : Int32) (σe : g_S) (hf : Mod_doNode_b185 N x1 x2 σ = some (r, σe)) : gw X (.inl (some (.int r))) (LM ao aa X.2.2.1 σe) (LM ao aa X.2.2.1 σ) [(0, .ref (ao 0)), (1, .int x1), (2, .int x2)] 185 [] := by
  unfold Mod_doNode_b185 at hf
  refine gw_aload_n hC 0 d_Mod_doNode_185 rfl rfl ?_
  refine gw_iload_n hC 1 d_Mod_doNode_186 rfl rfl ?_
  obtain ⟨q187, hq187, hf⟩ := g_bind hf
  refine gw_callV hC [.int x1] [] (Mod_holds_m _ _ _ ao aa N _ _ _ _ hq187) kc_Mod_287 0 (g_lay_obj rfl) rfl rfl ⟨by decide, by decide⟩ (Nat.le_of_ble_eq_true rfl) [.int x1, .ref (ao 0)] [.int q187.1] rfl rfl d_Mod_doNode_187 ?_
  refine gw_if_eq hC 197 d_Mod_doNode_190 (by decide) (fun hh => ?_) (fun hh => ?_)
  · rw [if_pos hh] at hf
    refine gw_lv [0] rfl ?_
    exact Mod_doNode_p197 ao aa hC N _ _ _ hf
  · rw [if_neg hh] at hf
    refine gw_lv [0, 2] rfl ?_
    exact Mod_doNode_p193 ao aa hC N _ _ _ _ hf
def Mod_doNode_b182 (N : Nat) (σ : g_S) : Option (Int32 × g_S) := some ((-2), σ)
theorem Mod_doNode_p182 (ao aa : Nat → Nat) {X : g_X} (hC : gC X c_Mod_doNode R_Mod 7 153 4 (some .int)) (N : Nat) (σ : g_S) (r : Int32) (σe : g_S) (hf : Mod_doNode_b182 N σ = some (r, σe)) : gw X (.inl (some (.int r))) (LM ao aa X.2.2.1 σe) (LM ao aa X.2.2.1 σ) [(0, .ref (ao 0))] 182 [] := by
  unfold Mod_doNode_b182 at hf
  refine gw_bipush hC (-2) d_Mod_doNode_182 (by decide) ?_
  cases hf
  exact gw_iret hC d_Mod_doNode_184
def Mod_doNode_b175 (N : Nat) (x1 : Int32) (x2 : Int32) (σ : g_S) : Option (Int32 × g_S) := (Mod_spends N σ).bind fun q176 => if q176.1 = 0 then Mod_doNode_b182 N q176.2 else Mod_doNode_b185 N x1 x2 q176.2
theorem Mod_doNode_p175 (ao aa : Nat → Nat) {X : g_X} (hC : gC X c_Mod_doNode R_Mod 7 153 4 (some .int)) (N : Nat) (x1 : Int32) (x2 : Int32) (σ : g_S) (r : Int32) (σe : g_S) (hf : Mod_doNode_b175 N x1 x2 σ = some (r, σe)) : gw X (.inl (some (.int r))) (LM ao aa X.2.2.1 σe) (LM ao aa X.2.2.1 σ) [(0, .ref (ao 0)), (1, .int x1), (2, .int x2)] 175 [] := by
  unfold Mod_doNode_b175 at hf
  refine gw_aload_n hC 0 d_Mod_doNode_175 rfl rfl ?_
  obtain ⟨q176, hq176, hf⟩ := g_bind hf
  refine gw_callV hC [] [] (Mod_spends_m _ _ _ ao aa N _ _ _ hq176) kc_Mod_283 0 (g_lay_obj rfl) rfl rfl ⟨by decide, by decide⟩ (Nat.le_of_ble_eq_true rfl) [.ref (ao 0)] [.int q176.1] rfl rfl d_Mod_doNode_176 ?_
  refine gw_if_ne hC 185 d_Mod_doNode_179 (by decide) (fun hh => ?_) (fun hh => ?_)
  · rw [if_neg hh] at hf
    exact Mod_doNode_p185 ao aa hC N _ _ _ _ _ hf
  · rw [if_pos hh] at hf
    refine gw_lv [0] rfl ?_
    exact Mod_doNode_p182 ao aa hC N _ _ _ hf
def Mod_doNode_b154 (N : Nat) (x1 : Int32) (x2 : Int32) (σ : g_S) : Option (Int32 × g_S) := if gIn x1 1300 = true then (Mod_row N 4 x1 x2 (σ.2 4 (x1).toNatClampNeg) (σ.2 5 (x1).toNatClampNeg) 0 σ).bind fun q171 => some (q171.1, q171.2) else none
theorem Mod_doNode_p154 (ao aa : Nat → Nat) {X : g_X} (hC : gC X c_Mod_doNode R_Mod 7 153 4 (some .int)) (N : Nat) (x1 : Int32) (x2 : Int32) (σ : g_S) (r : Int32) (σe : g_S) (hf : Mod_doNode_b154 N x1 x2 σ = some (r, σe)) : gw X (.inl (some (.int r))) (LM ao aa X.2.2.1 σe) (LM ao aa X.2.2.1 σ) [(0, .ref (ao 0)), (1, .int x1), (2, .int x2)] 154 [] := by
  unfold Mod_doNode_b154 at hf
  refine gw_aload_n hC 0 d_Mod_doNode_154 rfl rfl ?_
  refine gw_iconst hC 4 d_Mod_doNode_155 (by decide) ?_
  refine gw_iload_n hC 1 d_Mod_doNode_156 rfl rfl ?_
  refine gw_iload_n hC 2 d_Mod_doNode_157 rfl rfl ?_
  refine gw_aload_n hC 0 d_Mod_doNode_158 rfl rfl ?_
  refine Mr_Mod_a hC kf_Mod_26 d_Mod_doNode_159 ?_
  refine gw_iload_n hC 1 d_Mod_doNode_162 rfl rfl ?_
  obtain ⟨hg163, hf⟩ := g_guard hf
  refine Mald (j := 4) hC (by decide) hg163 d_Mod_doNode_163 (σ.2 4 (x1).toNatClampNeg) rfl ?_
  refine gw_aload_n hC 0 d_Mod_doNode_164 rfl rfl ?_
  refine Mr_Mod_b hC kf_Mod_29 d_Mod_doNode_165 ?_
  refine gw_iload_n hC 1 d_Mod_doNode_168 rfl rfl ?_
  refine Mald (j := 5) hC (by decide) hg163 d_Mod_doNode_169 (σ.2 5 (x1).toNatClampNeg) rfl ?_
  refine gw_iconst hC 0 d_Mod_doNode_170 (by decide) ?_
  obtain ⟨q171, hq171, hf⟩ := g_bind hf
  refine gw_callV hC [.int 4, .int x1, .int x2, .int (σ.2 4 (x1).toNatClampNeg), .int (σ.2 5 (x1).toNatClampNeg), .int 0] [] (Mod_row_m _ _ _ ao aa N _ _ _ _ _ _ _ _ _ hq171) kc_Mod_275 0 (g_lay_obj rfl) rfl rfl ⟨by decide, by decide⟩ (Nat.le_of_ble_eq_true rfl) [.int 0, .int (σ.2 5 (x1).toNatClampNeg), .int (σ.2 4 (x1).toNatClampNeg), .int x2, .int x1, .int 4, .ref (ao 0)] [.int q171.1] rfl rfl d_Mod_doNode_171 ?_
  cases hf
  exact gw_iret hC d_Mod_doNode_174
def Mod_doNode_b148 (N : Nat) (x1 : Int32) (x2 : Int32) (x3 : Int32) (σ : g_S) : Option (Int32 × g_S) := if x3 = 16 then Mod_doNode_b154 N x1 x2 σ else Mod_doNode_b175 N x1 x2 σ
theorem Mod_doNode_p148 (ao aa : Nat → Nat) {X : g_X} (hC : gC X c_Mod_doNode R_Mod 7 153 4 (some .int)) (N : Nat) (x1 : Int32) (x2 : Int32) (x3 : Int32) (σ : g_S) (r : Int32) (σe : g_S) (hf : Mod_doNode_b148 N x1 x2 x3 σ = some (r, σe)) : gw X (.inl (some (.int r))) (LM ao aa X.2.2.1 σe) (LM ao aa X.2.2.1 σ) [(0, .ref (ao 0)), (1, .int x1), (2, .int x2), (3, .int x3)] 148 [] := by
  unfold Mod_doNode_b148 at hf
  refine gw_iload_n hC 3 d_Mod_doNode_148 rfl rfl ?_
  refine gw_bipush hC 16 d_Mod_doNode_149 (by decide) ?_
  refine gw_icmp_ne hC 175 d_Mod_doNode_151 (by decide) (fun hh => ?_) (fun hh => ?_)
  · rw [if_neg hh] at hf
    refine gw_lv [0, 1, 2] rfl ?_
    exact Mod_doNode_p175 ao aa hC N _ _ _ _ _ hf
  · rw [if_pos hh] at hf
    refine gw_lv [0, 1, 2] rfl ?_
    exact Mod_doNode_p154 ao aa hC N _ _ _ _ _ hf
def Mod_doNode_b90 (N : Nat) (x1 : Int32) (x2 : Int32) (x3 : Int32) (σ : g_S) : Option (Int32 × g_S) := if x3 = 15 then Mod_doNode_b96 N x1 x2 x3 σ else Mod_doNode_b148 N x1 x2 x3 σ
theorem Mod_doNode_p90 (ao aa : Nat → Nat) {X : g_X} (hC : gC X c_Mod_doNode R_Mod 7 153 4 (some .int)) (N : Nat) (x1 : Int32) (x2 : Int32) (x3 : Int32) (σ : g_S) (r : Int32) (σe : g_S) (hf : Mod_doNode_b90 N x1 x2 x3 σ = some (r, σe)) : gw X (.inl (some (.int r))) (LM ao aa X.2.2.1 σe) (LM ao aa X.2.2.1 σ) [(0, .ref (ao 0)), (1, .int x1), (2, .int x2), (3, .int x3)] 90 [] := by
  unfold Mod_doNode_b90 at hf
  refine gw_iload_n hC 3 d_Mod_doNode_90 rfl rfl ?_
  refine gw_bipush hC 15 d_Mod_doNode_91 (by decide) ?_
  refine gw_icmp_ne hC 148 d_Mod_doNode_93 (by decide) (fun hh => ?_) (fun hh => ?_)
  · rw [if_neg hh] at hf
    exact Mod_doNode_p148 ao aa hC N _ _ _ _ _ _ hf
  · rw [if_pos hh] at hf
    exact Mod_doNode_p96 ao aa hC N _ _ _ _ _ _ hf
def Mod_doNode_b84 (N : Nat) (x1 : Int32) (x2 : Int32) (x3 : Int32) (σ : g_S) : Option (Int32 × g_S) := if x3 = 14 then Mod_doNode_b96 N x1 x2 x3 σ else Mod_doNode_b90 N x1 x2 x3 σ
theorem Mod_doNode_p84 (ao aa : Nat → Nat) {X : g_X} (hC : gC X c_Mod_doNode R_Mod 7 153 4 (some .int)) (N : Nat) (x1 : Int32) (x2 : Int32) (x3 : Int32) (σ : g_S) (r : Int32) (σe : g_S) (hf : Mod_doNode_b84 N x1 x2 x3 σ = some (r, σe)) : gw X (.inl (some (.int r))) (LM ao aa X.2.2.1 σe) (LM ao aa X.2.2.1 σ) [(0, .ref (ao 0)), (1, .int x1), (2, .int x2), (3, .int x3)] 84 [] := by
  unfold Mod_doNode_b84 at hf
  refine gw_iload_n hC 3 d_Mod_doNode_84 rfl rfl ?_
  refine gw_bipush hC 14 d_Mod_doNode_85 (by decide) ?_
  refine gw_icmp_eq hC 96 d_Mod_doNode_87 (by decide) (fun hh => ?_) (fun hh => ?_)
  · rw [if_pos hh] at hf
    exact Mod_doNode_p96 ao aa hC N _ _ _ _ _ _ hf
  · rw [if_neg hh] at hf
    exact Mod_doNode_p90 ao aa hC N _ _ _ _ _ _ hf
def Mod_doNode_b68 (N : Nat) (x1 : Int32) (x2 : Int32) (σ : g_S) : Option (Int32 × g_S) := if gIn x1 1300 = true then (Mod_row N 0 (σ.2 7 (x1).toNatClampNeg) x2 0 0 0 σ).bind fun q80 => some (q80.1, q80.2) else none
theorem Mod_doNode_p68 (ao aa : Nat → Nat) {X : g_X} (hC : gC X c_Mod_doNode R_Mod 7 153 4 (some .int)) (N : Nat) (x1 : Int32) (x2 : Int32) (σ : g_S) (r : Int32) (σe : g_S) (hf : Mod_doNode_b68 N x1 x2 σ = some (r, σe)) : gw X (.inl (some (.int r))) (LM ao aa X.2.2.1 σe) (LM ao aa X.2.2.1 σ) [(0, .ref (ao 0)), (1, .int x1), (2, .int x2)] 68 [] := by
  unfold Mod_doNode_b68 at hf
  refine gw_aload_n hC 0 d_Mod_doNode_68 rfl rfl ?_
  refine gw_iconst hC 0 d_Mod_doNode_69 (by decide) ?_
  refine gw_aload_n hC 0 d_Mod_doNode_70 rfl rfl ?_
  refine Mr_Mod_first hC kf_Mod_35 d_Mod_doNode_71 ?_
  refine gw_iload_n hC 1 d_Mod_doNode_74 rfl rfl ?_
  obtain ⟨hg75, hf⟩ := g_guard hf
  refine Mald (j := 7) hC (by decide) hg75 d_Mod_doNode_75 (σ.2 7 (x1).toNatClampNeg) rfl ?_
  refine gw_iload_n hC 2 d_Mod_doNode_76 rfl rfl ?_
  refine gw_iconst hC 0 d_Mod_doNode_77 (by decide) ?_
  refine gw_iconst hC 0 d_Mod_doNode_78 (by decide) ?_
  refine gw_iconst hC 0 d_Mod_doNode_79 (by decide) ?_
  obtain ⟨q80, hq80, hf⟩ := g_bind hf
  refine gw_callV hC [.int 0, .int (σ.2 7 (x1).toNatClampNeg), .int x2, .int 0, .int 0, .int 0] [] (Mod_row_m _ _ _ ao aa N _ _ _ _ _ _ _ _ _ hq80) kc_Mod_275 0 (g_lay_obj rfl) rfl rfl ⟨by decide, by decide⟩ (Nat.le_of_ble_eq_true rfl) [.int 0, .int 0, .int 0, .int x2, .int (σ.2 7 (x1).toNatClampNeg), .int 0, .ref (ao 0)] [.int q80.1] rfl rfl d_Mod_doNode_80 ?_
  cases hf
  exact gw_iret hC d_Mod_doNode_83
def Mod_doNode_b62 (N : Nat) (x1 : Int32) (x2 : Int32) (x3 : Int32) (σ : g_S) : Option (Int32 × g_S) := if x3 = 13 then Mod_doNode_b68 N x1 x2 σ else Mod_doNode_b84 N x1 x2 x3 σ
theorem Mod_doNode_p62 (ao aa : Nat → Nat) {X : g_X} (hC : gC X c_Mod_doNode R_Mod 7 153 4 (some .int)) (N : Nat) (x1 : Int32) (x2 : Int32) (x3 : Int32) (σ : g_S) (r : Int32) (σe : g_S) (hf : Mod_doNode_b62 N x1 x2 x3 σ = some (r, σe)) : gw X (.inl (some (.int r))) (LM ao aa X.2.2.1 σe) (LM ao aa X.2.2.1 σ) [(0, .ref (ao 0)), (1, .int x1), (2, .int x2), (3, .int x3)] 62 [] := by
  unfold Mod_doNode_b62 at hf
  refine gw_iload_n hC 3 d_Mod_doNode_62 rfl rfl ?_
  refine gw_bipush hC 13 d_Mod_doNode_63 (by decide) ?_
  refine gw_icmp_ne hC 84 d_Mod_doNode_65 (by decide) (fun hh => ?_) (fun hh => ?_)
  · rw [if_neg hh] at hf
    exact Mod_doNode_p84 ao aa hC N _ _ _ _ _ _ hf
  · rw [if_pos hh] at hf
    refine gw_lv [0, 1, 2] rfl ?_
    exact Mod_doNode_p68 ao aa hC N _ _ _ _ _ hf
def Mod_doNode_b34 (N : Nat) (x1 : Int32) (x2 : Int32) (σ : g_S) : Option (Int32 × g_S) := if gIn x1 1300 = true then (Mod_row N 3 x1 x2 (σ.1 11) 0 0 σ).bind fun q52 => (Mod_row N 0 (σ.2 7 (x1).toNatClampNeg) q52.1 0 0 0 q52.2).bind fun q58 => some (q58.1, q58.2) else none
theorem Mod_doNode_p34 (ao aa : Nat → Nat) {X : g_X} (hC : gC X c_Mod_doNode R_Mod 7 153 4 (some .int)) (N : Nat) (x1 : Int32) (x2 : Int32) (σ : g_S) (r : Int32) (σe : g_S) (hf : Mod_doNode_b34 N x1 x2 σ = some (r, σe)) : gw X (.inl (some (.int r))) (LM ao aa X.2.2.1 σe) (LM ao aa X.2.2.1 σ) [(0, .ref (ao 0)), (1, .int x1), (2, .int x2)] 34 [] := by
  unfold Mod_doNode_b34 at hf
  refine gw_aload_n hC 0 d_Mod_doNode_34 rfl rfl ?_
  refine gw_iconst hC 0 d_Mod_doNode_35 (by decide) ?_
  refine gw_aload_n hC 0 d_Mod_doNode_36 rfl rfl ?_
  refine Mr_Mod_first hC kf_Mod_35 d_Mod_doNode_37 ?_
  refine gw_iload_n hC 1 d_Mod_doNode_40 rfl rfl ?_
  obtain ⟨hg41, hf⟩ := g_guard hf
  refine Mald (j := 7) hC (by decide) hg41 d_Mod_doNode_41 (σ.2 7 (x1).toNatClampNeg) rfl ?_
  refine gw_aload_n hC 0 d_Mod_doNode_42 rfl rfl ?_
  refine gw_iconst hC 3 d_Mod_doNode_43 (by decide) ?_
  refine gw_iload_n hC 1 d_Mod_doNode_44 rfl rfl ?_
  refine gw_iload_n hC 2 d_Mod_doNode_45 rfl rfl ?_
  refine gw_aload_n hC 0 d_Mod_doNode_46 rfl rfl ?_
  refine Mg11 hC kf_Mod_129 d_Mod_doNode_47 (σ.1 11) rfl ?_
  refine gw_iconst hC 0 d_Mod_doNode_50 (by decide) ?_
  refine gw_iconst hC 0 d_Mod_doNode_51 (by decide) ?_
  obtain ⟨q52, hq52, hf⟩ := g_bind hf
  refine gw_callV hC [.int 3, .int x1, .int x2, .int (σ.1 11), .int 0, .int 0] [.int (σ.2 7 (x1).toNatClampNeg), .int 0, .ref (ao 0)] (Mod_row_m _ _ _ ao aa N _ _ _ _ _ _ _ _ _ hq52) kc_Mod_275 0 (g_lay_obj rfl) rfl rfl ⟨by decide, by decide⟩ (Nat.le_of_ble_eq_true rfl) [.int 0, .int 0, .int (σ.1 11), .int x2, .int x1, .int 3, .ref (ao 0), .int (σ.2 7 (x1).toNatClampNeg), .int 0, .ref (ao 0)] [.int q52.1, .int (σ.2 7 (x1).toNatClampNeg), .int 0, .ref (ao 0)] rfl rfl d_Mod_doNode_52 ?_
  refine gw_iconst hC 0 d_Mod_doNode_55 (by decide) ?_
  refine gw_iconst hC 0 d_Mod_doNode_56 (by decide) ?_
  refine gw_iconst hC 0 d_Mod_doNode_57 (by decide) ?_
  obtain ⟨q58, hq58, hf⟩ := g_bind hf
  refine gw_callV hC [.int 0, .int (σ.2 7 (x1).toNatClampNeg), .int q52.1, .int 0, .int 0, .int 0] [] (Mod_row_m _ _ _ ao aa N _ _ _ _ _ _ _ _ _ hq58) kc_Mod_275 0 (g_lay_obj rfl) rfl rfl ⟨by decide, by decide⟩ (Nat.le_of_ble_eq_true rfl) [.int 0, .int 0, .int 0, .int q52.1, .int (σ.2 7 (x1).toNatClampNeg), .int 0, .ref (ao 0)] [.int q58.1] rfl rfl d_Mod_doNode_58 ?_
  cases hf
  exact gw_iret hC d_Mod_doNode_61
def Mod_doNode_b28 (N : Nat) (x1 : Int32) (x2 : Int32) (x3 : Int32) (σ : g_S) : Option (Int32 × g_S) := if x3 = 12 then Mod_doNode_b34 N x1 x2 σ else Mod_doNode_b62 N x1 x2 x3 σ
theorem Mod_doNode_p28 (ao aa : Nat → Nat) {X : g_X} (hC : gC X c_Mod_doNode R_Mod 7 153 4 (some .int)) (N : Nat) (x1 : Int32) (x2 : Int32) (x3 : Int32) (σ : g_S) (r : Int32) (σe : g_S) (hf : Mod_doNode_b28 N x1 x2 x3 σ = some (r, σe)) : gw X (.inl (some (.int r))) (LM ao aa X.2.2.1 σe) (LM ao aa X.2.2.1 σ) [(0, .ref (ao 0)), (1, .int x1), (2, .int x2), (3, .int x3)] 28 [] := by
  unfold Mod_doNode_b28 at hf
  refine gw_iload_n hC 3 d_Mod_doNode_28 rfl rfl ?_
  refine gw_bipush hC 12 d_Mod_doNode_29 (by decide) ?_
  refine gw_icmp_ne hC 62 d_Mod_doNode_31 (by decide) (fun hh => ?_) (fun hh => ?_)
  · rw [if_neg hh] at hf
    exact Mod_doNode_p62 ao aa hC N _ _ _ _ _ _ hf
  · rw [if_pos hh] at hf
    refine gw_lv [0, 1, 2] rfl ?_
    exact Mod_doNode_p34 ao aa hC N _ _ _ _ _ hf
def Mod_doNode_b12 (N : Nat) (x1 : Int32) (x2 : Int32) (σ : g_S) : Option (Int32 × g_S) := if gIn x1 1300 = true then (Mod_row N 1 (σ.2 7 (x1).toNatClampNeg) x2 0 0 0 σ).bind fun q24 => some (q24.1, q24.2) else none
theorem Mod_doNode_p12 (ao aa : Nat → Nat) {X : g_X} (hC : gC X c_Mod_doNode R_Mod 7 153 4 (some .int)) (N : Nat) (x1 : Int32) (x2 : Int32) (σ : g_S) (r : Int32) (σe : g_S) (hf : Mod_doNode_b12 N x1 x2 σ = some (r, σe)) : gw X (.inl (some (.int r))) (LM ao aa X.2.2.1 σe) (LM ao aa X.2.2.1 σ) [(0, .ref (ao 0)), (1, .int x1), (2, .int x2)] 12 [] := by
  unfold Mod_doNode_b12 at hf
  refine gw_aload_n hC 0 d_Mod_doNode_12 rfl rfl ?_
  refine gw_iconst hC 1 d_Mod_doNode_13 (by decide) ?_
  refine gw_aload_n hC 0 d_Mod_doNode_14 rfl rfl ?_
  refine Mr_Mod_first hC kf_Mod_35 d_Mod_doNode_15 ?_
  refine gw_iload_n hC 1 d_Mod_doNode_18 rfl rfl ?_
  obtain ⟨hg19, hf⟩ := g_guard hf
  refine Mald (j := 7) hC (by decide) hg19 d_Mod_doNode_19 (σ.2 7 (x1).toNatClampNeg) rfl ?_
  refine gw_iload_n hC 2 d_Mod_doNode_20 rfl rfl ?_
  refine gw_iconst hC 0 d_Mod_doNode_21 (by decide) ?_
  refine gw_iconst hC 0 d_Mod_doNode_22 (by decide) ?_
  refine gw_iconst hC 0 d_Mod_doNode_23 (by decide) ?_
  obtain ⟨q24, hq24, hf⟩ := g_bind hf
  refine gw_callV hC [.int 1, .int (σ.2 7 (x1).toNatClampNeg), .int x2, .int 0, .int 0, .int 0] [] (Mod_row_m _ _ _ ao aa N _ _ _ _ _ _ _ _ _ hq24) kc_Mod_275 0 (g_lay_obj rfl) rfl rfl ⟨by decide, by decide⟩ (Nat.le_of_ble_eq_true rfl) [.int 0, .int 0, .int 0, .int x2, .int (σ.2 7 (x1).toNatClampNeg), .int 1, .ref (ao 0)] [.int q24.1] rfl rfl d_Mod_doNode_24 ?_
  cases hf
  exact gw_iret hC d_Mod_doNode_27
def Mod_doNode_b0 (N : Nat) (x1 : Int32) (x2 : Int32) (σ : g_S) : Option (Int32 × g_S) := if gIn x1 1300 = true then if (σ.2 3 (x1).toNatClampNeg) = 1 then Mod_doNode_b12 N x1 x2 σ else Mod_doNode_b28 N x1 x2 (σ.2 3 (x1).toNatClampNeg) σ else none
theorem Mod_doNode_p0 (ao aa : Nat → Nat) {X : g_X} (hC : gC X c_Mod_doNode R_Mod 7 153 4 (some .int)) (N : Nat) (x1 : Int32) (x2 : Int32) (σ : g_S) (r : Int32) (σe : g_S) (hf : Mod_doNode_b0 N x1 x2 σ = some (r, σe)) : gw X (.inl (some (.int r))) (LM ao aa X.2.2.1 σe) (LM ao aa X.2.2.1 σ) [(0, .ref (ao 0)), (1, .int x1), (2, .int x2)] 0 [] := by
  unfold Mod_doNode_b0 at hf
  refine gw_aload_n hC 0 d_Mod_doNode_0 rfl rfl ?_
  refine Mr_Mod_kind hC kf_Mod_23 d_Mod_doNode_1 ?_
  refine gw_iload_n hC 1 d_Mod_doNode_4 rfl rfl ?_
  obtain ⟨hg5, hf⟩ := g_guard hf
  refine Mald (j := 3) hC (by decide) hg5 d_Mod_doNode_5 (σ.2 3 (x1).toNatClampNeg) rfl ?_
  refine gw_istore_n hC [(3, .int (σ.2 3 (x1).toNatClampNeg)), (0, .ref (ao 0)), (1, .int x1), (2, .int x2)] d_Mod_doNode_6 rfl (by decide) rfl ?_
  refine gw_iload_n hC 0 d_Mod_doNode_7 rfl rfl ?_
  refine gw_iconst hC 1 d_Mod_doNode_8 (by decide) ?_
  refine gw_icmp_ne hC 28 d_Mod_doNode_9 (by decide) (fun hh => ?_) (fun hh => ?_)
  · rw [if_neg hh] at hf
    refine gw_lv [1, 2, 3, 0] rfl ?_
    exact Mod_doNode_p28 ao aa hC N _ _ _ _ _ _ hf
  · rw [if_pos hh] at hf
    refine gw_lv [1, 2, 3] rfl ?_
    exact Mod_doNode_p12 ao aa hC N _ _ _ _ _ hf
def Mod_doNode (N : Nat) (x1 : Int32) (x2 : Int32) (σ : g_S) : Option (Int32 × g_S) := Mod_doNode_b0 N x1 x2 σ
theorem Mod_doNode_m (l : Launch) (D : va_G) (cA : ClassId) (ao aa : Nat → Nat) (N : Nat) (x1 : Int32) (x2 : Int32) (σ : g_S) (r : Int32) (σe : g_S) (hf : Mod_doNode N x1 x2 σ = some (r, σe)) : Mt l D cA y_Mod_doNode c_Mod_doNode 4 (some .int) 7 153 [.ref (ao 0), .int x1, .int x2] (LM ao aa cA σ) (some (.int r)) (LM ao aa cA σe) := by
  refine g_met (by decide +kernel) (by simp [lg_sl, Value.category]) (fun X e1 e2 e3 hC => ?_)
  subst e1 e2 e3
  refine gw_lv [0, 1, 2] rfl ?_
  exact Mod_doNode_p0 ao aa hC N _ _ _ (r) _ hf
def Mod_anew_b52 (N : Nat) (x1 : Int32) (x2 : Int32) (σ : g_S) : Option (Int32 × g_S) := if gIn x2 1300 = true then if gIn x1 90000 = true then (Mod_row N 6 x2 (σ.2 20 (x1).toNatClampNeg) (σ.2 21 (x1).toNatClampNeg) (σ.2 22 (x1).toNatClampNeg) (σ.1 11) σ).bind fun q86 => (Mod_row N 0 (σ.2 7 (x2).toNatClampNeg) q86.1 0 0 0 q86.2).bind fun q92 => some (q92.1, q92.2) else none else none
theorem Mod_anew_p52 (ao aa : Nat → Nat) {X : g_X} (hC : gC X c_Mod_anew R_Mod 1 26 4 (some .int)) (N : Nat) (x1 : Int32) (x2 : Int32) (σ : g_S) (r : Int32) (σe : g_S) (hf : Mod_anew_b52 N x1 x2 σ = some (r, σe)) : gw X (.inl (some (.int r))) (LM ao aa X.2.2.1 σe) (LM ao aa X.2.2.1 σ) [(0, .ref (ao 0)), (1, .int x1), (2, .int x2)] 52 [] := by
  unfold Mod_anew_b52 at hf
  refine gw_aload_n hC 0 d_Mod_anew_52 rfl rfl ?_
  refine gw_iconst hC 0 d_Mod_anew_53 (by decide) ?_
  refine gw_aload_n hC 0 d_Mod_anew_54 rfl rfl ?_
  refine Mr_Mod_first hC kf_Mod_35 d_Mod_anew_55 ?_
  refine gw_iload_n hC 2 d_Mod_anew_58 rfl rfl ?_
  obtain ⟨hg59, hf⟩ := g_guard hf
  refine Mald (j := 7) hC (by decide) hg59 d_Mod_anew_59 (σ.2 7 (x2).toNatClampNeg) rfl ?_
  refine gw_aload_n hC 0 d_Mod_anew_60 rfl rfl ?_
  refine gw_bipush hC 6 d_Mod_anew_61 (by decide) ?_
  refine gw_iload_n hC 2 d_Mod_anew_63 rfl rfl ?_
  refine gw_aload_n hC 0 d_Mod_anew_64 rfl rfl ?_
  refine Mr_Mod_next hC kf_Mod_75 d_Mod_anew_65 ?_
  refine gw_iload_n hC 1 d_Mod_anew_68 rfl rfl ?_
  obtain ⟨hg69, hf⟩ := g_guard hf
  refine Mald (j := 20) hC (by decide) hg69 d_Mod_anew_69 (σ.2 20 (x1).toNatClampNeg) rfl ?_
  refine gw_aload_n hC 0 d_Mod_anew_70 rfl rfl ?_
  refine Mr_Mod_x hC kf_Mod_78 d_Mod_anew_71 ?_
  refine gw_iload_n hC 1 d_Mod_anew_74 rfl rfl ?_
  refine Mald (j := 21) hC (by decide) hg69 d_Mod_anew_75 (σ.2 21 (x1).toNatClampNeg) rfl ?_
  refine gw_aload_n hC 0 d_Mod_anew_76 rfl rfl ?_
  refine Mr_Mod_y hC kf_Mod_81 d_Mod_anew_77 ?_
  refine gw_iload_n hC 1 d_Mod_anew_80 rfl rfl ?_
  refine Mald (j := 22) hC (by decide) hg69 d_Mod_anew_81 (σ.2 22 (x1).toNatClampNeg) rfl ?_
  refine gw_aload_n hC 0 d_Mod_anew_82 rfl rfl ?_
  refine Mg11 hC kf_Mod_129 d_Mod_anew_83 (σ.1 11) rfl ?_
  obtain ⟨q86, hq86, hf⟩ := g_bind hf
  refine gw_callV hC [.int 6, .int x2, .int (σ.2 20 (x1).toNatClampNeg), .int (σ.2 21 (x1).toNatClampNeg), .int (σ.2 22 (x1).toNatClampNeg), .int (σ.1 11)] [.int (σ.2 7 (x2).toNatClampNeg), .int 0, .ref (ao 0)] (Mod_row_m _ _ _ ao aa N _ _ _ _ _ _ _ _ _ hq86) kc_Mod_275 0 (g_lay_obj rfl) rfl rfl ⟨by decide, by decide⟩ (Nat.le_of_ble_eq_true rfl) [.int (σ.1 11), .int (σ.2 22 (x1).toNatClampNeg), .int (σ.2 21 (x1).toNatClampNeg), .int (σ.2 20 (x1).toNatClampNeg), .int x2, .int 6, .ref (ao 0), .int (σ.2 7 (x2).toNatClampNeg), .int 0, .ref (ao 0)] [.int q86.1, .int (σ.2 7 (x2).toNatClampNeg), .int 0, .ref (ao 0)] rfl rfl d_Mod_anew_86 ?_
  refine gw_iconst hC 0 d_Mod_anew_89 (by decide) ?_
  refine gw_iconst hC 0 d_Mod_anew_90 (by decide) ?_
  refine gw_iconst hC 0 d_Mod_anew_91 (by decide) ?_
  obtain ⟨q92, hq92, hf⟩ := g_bind hf
  refine gw_callV hC [.int 0, .int (σ.2 7 (x2).toNatClampNeg), .int q86.1, .int 0, .int 0, .int 0] [] (Mod_row_m _ _ _ ao aa N _ _ _ _ _ _ _ _ _ hq92) kc_Mod_275 0 (g_lay_obj rfl) rfl rfl ⟨by decide, by decide⟩ (Nat.le_of_ble_eq_true rfl) [.int 0, .int 0, .int 0, .int q86.1, .int (σ.2 7 (x2).toNatClampNeg), .int 0, .ref (ao 0)] [.int q92.1] rfl rfl d_Mod_anew_92 ?_
  cases hf
  exact gw_iret hC d_Mod_anew_95
def Mod_anew_b26 (N : Nat) (k16 : Int32 → Int32 → Int32 → g_S → Option (Int32 × g_S)) (x1 : Int32) (x2 : Int32) (x3 : Int32) (σ : g_S) : Option (Int32 × g_S) := if gIn (2 * x3) 42 = true then if gIn ((2 * x3) + 1) 42 = true then k16 x1 x2 (x3 + 1) (gA (gA σ 17 ((2 * x3)).toNatClampNeg (-1)) 17 (((2 * x3) + 1)).toNatClampNeg (-1)) else none else none
theorem Mod_anew_p26 (ao aa : Nat → Nat) {X : g_X} (hC : gC X c_Mod_anew R_Mod 1 26 4 (some .int)) (N : Nat) (k16 : Int32 → Int32 → Int32 → g_S → Option (Int32 × g_S)) (hk16 : ∀ (x1 : Int32) (x2 : Int32) (x3 : Int32) (σ : g_S) (r : Int32) (σe : g_S), k16 x1 x2 x3 σ = some (r, σe) → gw X (.inl (some (.int r))) (LM ao aa X.2.2.1 σe) (LM ao aa X.2.2.1 σ) [(0, .ref (ao 0)), (1, .int x1), (2, .int x2), (3, .int x3)] 16 []) (x1 : Int32) (x2 : Int32) (x3 : Int32) (σ : g_S) (r : Int32) (σe : g_S) (hf : Mod_anew_b26 N k16 x1 x2 x3 σ = some (r, σe)) : gw X (.inl (some (.int r))) (LM ao aa X.2.2.1 σe) (LM ao aa X.2.2.1 σ) [(0, .ref (ao 0)), (1, .int x1), (2, .int x2), (3, .int x3)] 26 [] := by
  unfold Mod_anew_b26 at hf
  refine gw_aload_n hC 0 d_Mod_anew_26 rfl rfl ?_
  refine Mr_Mod_group hC kf_Mod_65 d_Mod_anew_27 ?_
  refine gw_iconst hC 2 d_Mod_anew_30 (by decide) ?_
  refine gw_iload_n hC 3 d_Mod_anew_31 rfl rfl ?_
  refine gw_imul hC d_Mod_anew_32 ?_
  refine gw_iconst hC (-1) d_Mod_anew_33 (by decide) ?_
  obtain ⟨hg34, hf⟩ := g_guard hf
  refine Mast (j := 17) hC (by decide) hg34 d_Mod_anew_34 ?_
  refine gw_aload_n hC 0 d_Mod_anew_35 rfl rfl ?_
  refine Mr_Mod_group hC kf_Mod_65 d_Mod_anew_36 ?_
  refine gw_iconst hC 2 d_Mod_anew_39 (by decide) ?_
  refine gw_iload_n hC 3 d_Mod_anew_40 rfl rfl ?_
  refine gw_imul hC d_Mod_anew_41 ?_
  refine gw_iconst hC 1 d_Mod_anew_42 (by decide) ?_
  refine gw_iadd hC d_Mod_anew_43 ?_
  refine gw_iconst hC (-1) d_Mod_anew_44 (by decide) ?_
  obtain ⟨hg45, hf⟩ := g_guard hf
  refine Mast (j := 17) hC (by decide) hg45 d_Mod_anew_45 ?_
  refine gw_iinc hC (x3 + 1) 3 [(3, .int (x3 + 1)), (0, .ref (ao 0)), (1, .int x1), (2, .int x2)] d_Mod_anew_46 rfl rfl (by decide) rfl ?_
  refine gw_goto hC 16 d_Mod_anew_49 (by decide) ?_
  refine gw_lv [1, 2, 3, 0] rfl ?_
  exact hk16 _ _ _ _ _ _ hf
def Mod_anew_b16 (N : Nat) (k16 : Int32 → Int32 → Int32 → g_S → Option (Int32 × g_S)) (x1 : Int32) (x2 : Int32) (x3 : Int32) (σ : g_S) : Option (Int32 × g_S) := if gIn x2 1300 = true then if (σ.2 11 (x2).toNatClampNeg) < x3 then Mod_anew_b52 N x1 x2 σ else Mod_anew_b26 N k16 x1 x2 x3 σ else none
theorem Mod_anew_p16 (ao aa : Nat → Nat) {X : g_X} (hC : gC X c_Mod_anew R_Mod 1 26 4 (some .int)) (N : Nat) (k16 : Int32 → Int32 → Int32 → g_S → Option (Int32 × g_S)) (hk16 : ∀ (x1 : Int32) (x2 : Int32) (x3 : Int32) (σ : g_S) (r : Int32) (σe : g_S), k16 x1 x2 x3 σ = some (r, σe) → gw X (.inl (some (.int r))) (LM ao aa X.2.2.1 σe) (LM ao aa X.2.2.1 σ) [(0, .ref (ao 0)), (1, .int x1), (2, .int x2), (3, .int x3)] 16 []) (x1 : Int32) (x2 : Int32) (x3 : Int32) (σ : g_S) (r : Int32) (σe : g_S) (hf : Mod_anew_b16 N k16 x1 x2 x3 σ = some (r, σe)) : gw X (.inl (some (.int r))) (LM ao aa X.2.2.1 σe) (LM ao aa X.2.2.1 σ) [(0, .ref (ao 0)), (1, .int x1), (2, .int x2), (3, .int x3)] 16 [] := by
  unfold Mod_anew_b16 at hf
  refine gw_iload_n hC 3 d_Mod_anew_16 rfl rfl ?_
  refine gw_aload_n hC 0 d_Mod_anew_17 rfl rfl ?_
  refine Mr_Mod_groupTo hC kf_Mod_47 d_Mod_anew_18 ?_
  refine gw_iload_n hC 2 d_Mod_anew_21 rfl rfl ?_
  obtain ⟨hg22, hf⟩ := g_guard hf
  refine Mald (j := 11) hC (by decide) hg22 d_Mod_anew_22 (σ.2 11 (x2).toNatClampNeg) rfl ?_
  refine gw_icmp_gt hC 52 d_Mod_anew_23 (by decide) (fun hh => ?_) (fun hh => ?_)
  · rw [if_pos hh] at hf
    refine gw_lv [0, 1, 2] rfl ?_
    exact Mod_anew_p52 ao aa hC N _ _ _ _ _ hf
  · rw [if_neg hh] at hf
    exact Mod_anew_p26 ao aa hC N _ hk16 _ _ _ _ _ _ hf
def Mod_anew_l16 (N : Nat) : Nat → Int32 → Int32 → Int32 → g_S → Option (Int32 × g_S)
  | 0 => fun _ _ _ _ => none
  | n + 1 => fun x1 x2 x3 σ => Mod_anew_b16 N (Mod_anew_l16 N n) x1 x2 x3 σ
theorem Mod_anew_q16 (ao aa : Nat → Nat) {X : g_X} (hC : gC X c_Mod_anew R_Mod 1 26 4 (some .int)) (N : Nat) (n : Nat) : ∀ (x1 : Int32) (x2 : Int32) (x3 : Int32) (σ : g_S) (r : Int32) (σe : g_S), Mod_anew_l16 N n x1 x2 x3 σ = some (r, σe) → gw X (.inl (some (.int r))) (LM ao aa X.2.2.1 σe) (LM ao aa X.2.2.1 σ) [(0, .ref (ao 0)), (1, .int x1), (2, .int x2), (3, .int x3)] 16 [] := by
  induction n with
  | zero => intro x1 x2 x3 σ r σe hf; cases hf
  | succ n ih => intro x1 x2 x3 σ r σe hf; exact Mod_anew_p16 ao aa hC N _ (fun x1 x2 x3 σ r2 σ2 h2 => ih x1 x2 x3 σ r2 σ2 h2) x1 x2 x3 σ r σe hf
def Mod_anew_b0 (N : Nat) (x1 : Int32) (σ : g_S) : Option (Int32 × g_S) := if gIn x1 90000 = true then if gIn (σ.2 19 (x1).toNatClampNeg) 1300 = true then Mod_anew_l16 N N x1 (σ.2 19 (x1).toNatClampNeg) ((σ.2 10 ((σ.2 19 (x1).toNatClampNeg)).toNatClampNeg) + 1) σ else none else none
theorem Mod_anew_p0 (ao aa : Nat → Nat) {X : g_X} (hC : gC X c_Mod_anew R_Mod 1 26 4 (some .int)) (N : Nat) (x1 : Int32) (σ : g_S) (r : Int32) (σe : g_S) (hf : Mod_anew_b0 N x1 σ = some (r, σe)) : gw X (.inl (some (.int r))) (LM ao aa X.2.2.1 σe) (LM ao aa X.2.2.1 σ) [(0, .ref (ao 0)), (1, .int x1)] 0 [] := by
  unfold Mod_anew_b0 at hf
  refine gw_aload_n hC 0 d_Mod_anew_0 rfl rfl ?_
  refine Mr_Mod_which hC kf_Mod_72 d_Mod_anew_1 ?_
  refine gw_iload_n hC 1 d_Mod_anew_4 rfl rfl ?_
  obtain ⟨hg5, hf⟩ := g_guard hf
  refine Mald (j := 19) hC (by decide) hg5 d_Mod_anew_5 (σ.2 19 (x1).toNatClampNeg) rfl ?_
  refine gw_istore_n hC [(2, .int (σ.2 19 (x1).toNatClampNeg)), (0, .ref (ao 0)), (1, .int x1)] d_Mod_anew_6 rfl (by decide) rfl ?_
  refine gw_aload_n hC 1 d_Mod_anew_7 rfl rfl ?_
  refine Mr_Mod_groupFrom hC kf_Mod_44 d_Mod_anew_8 ?_
  refine gw_iload_n hC 0 d_Mod_anew_11 rfl rfl ?_
  obtain ⟨hg12, hf⟩ := g_guard hf
  refine Mald (j := 10) hC (by decide) hg12 d_Mod_anew_12 (σ.2 10 ((σ.2 19 (x1).toNatClampNeg)).toNatClampNeg) rfl ?_
  refine gw_iconst hC 1 d_Mod_anew_13 (by decide) ?_
  refine gw_iadd hC d_Mod_anew_14 ?_
  refine gw_istore_n hC [(3, .int ((σ.2 10 ((σ.2 19 (x1).toNatClampNeg)).toNatClampNeg) + 1)), (2, .int (σ.2 19 (x1).toNatClampNeg)), (0, .ref (ao 0)), (1, .int x1)] d_Mod_anew_15 rfl (by decide) rfl ?_
  refine gw_lv [2, 3, 1, 0] rfl ?_
  exact Mod_anew_q16 ao aa hC N N _ _ _ _ _ _ hf
def Mod_anew (N : Nat) (x1 : Int32) (σ : g_S) : Option (Int32 × g_S) := Mod_anew_b0 N x1 σ
theorem Mod_anew_m (l : Launch) (D : va_G) (cA : ClassId) (ao aa : Nat → Nat) (N : Nat) (x1 : Int32) (σ : g_S) (r : Int32) (σe : g_S) (hf : Mod_anew N x1 σ = some (r, σe)) : Mt l D cA y_Mod_anew c_Mod_anew 4 (some .int) 1 26 [.ref (ao 0), .int x1] (LM ao aa cA σ) (some (.int r)) (LM ao aa cA σe) := by
  refine g_met (by decide +kernel) (by simp [lg_sl, Value.category]) (fun X e1 e2 e3 hC => ?_)
  subst e1 e2 e3
  refine gw_lv [0, 1] rfl ?_
  exact Mod_anew_p0 ao aa hC N _ _ (r) _ hf
