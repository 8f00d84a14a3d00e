theorem kc_Reader_83 : g_okV R_Reader 83 y_Reader_readOpening c_Reader_readOpening 2 none 0 := ⟨g_mem (List.mem_append_right _ (List.mem_append_right _ (List.mem_append_left _ (List.mem_of_getElem? (i := 175) rfl)))) rfl, g_mem (List.mem_append_right _ (List.mem_append_left _ (List.mem_of_getElem? (i := 3) (by decide +kernel)))) rfl, g_mem (List.mem_append_right _ (List.mem_append_right _ (List.mem_append_left _ (List.mem_of_getElem? (i := 172) (by decide +kernel))))) rfl, g_mem (List.mem_append_right _ (List.mem_append_right _ (List.mem_append_left _ (List.mem_of_getElem? (i := 174) (by decide +kernel))))) rfl, g_mem (List.mem_append_left _ (List.mem_of_getElem? (i := 5) (by decide +kernel))) rfl, by decide +kernel, by decide +kernel, by decide +kernel⟩
theorem kc_Reader_86 : g_okV R_Reader 86 y_Reader_readClosing c_Reader_readClosing 3 none 0 := ⟨g_mem (List.mem_append_right _ (List.mem_append_right _ (List.mem_append_left _ (List.mem_of_getElem? (i := 183) rfl)))) rfl, g_mem (List.mem_append_right _ (List.mem_append_left _ (List.mem_of_getElem? (i := 3) (by decide +kernel)))) rfl, g_mem (List.mem_append_right _ (List.mem_append_right _ (List.mem_append_left _ (List.mem_of_getElem? (i := 180) (by decide +kernel))))) rfl, g_mem (List.mem_append_right _ (List.mem_append_right _ (List.mem_append_left _ (List.mem_of_getElem? (i := 182) (by decide +kernel))))) rfl, g_mem (List.mem_append_left _ (List.mem_of_getElem? (i := 7) (by decide +kernel))) rfl, by decide +kernel, by decide +kernel, by decide +kernel⟩
theorem kc_Reader_89 : g_okV R_Reader 89 y_Reader_readClass c_Reader_readClass 7 none 0 := ⟨g_mem (List.mem_append_right _ (List.mem_append_right _ (List.mem_append_left _ (List.mem_of_getElem? (i := 195) rfl)))) rfl, g_mem (List.mem_append_right _ (List.mem_append_left _ (List.mem_of_getElem? (i := 3) (by decide +kernel)))) rfl, g_mem (List.mem_append_right _ (List.mem_append_right _ (List.mem_append_left _ (List.mem_of_getElem? (i := 192) (by decide +kernel))))) rfl, g_mem (List.mem_append_right _ (List.mem_append_right _ (List.mem_append_left _ (List.mem_of_getElem? (i := 194) (by decide +kernel))))) rfl, g_mem (List.mem_append_left _ (List.mem_of_getElem? (i := 10) (by decide +kernel))) rfl, by decide +kernel, by decide +kernel, by decide +kernel⟩
theorem kc_Reader_92 : g_okV R_Reader 92 y_Reader_readBackslash c_Reader_readBackslash 3 none 0 := ⟨g_mem (List.mem_append_right _ (List.mem_append_right _ (List.mem_append_right _ (List.mem_append_left _ (List.mem_of_getElem? (i := 6) rfl))))) rfl, g_mem (List.mem_append_right _ (List.mem_append_left _ (List.mem_of_getElem? (i := 3) (by decide +kernel)))) rfl, g_mem (List.mem_append_right _ (List.mem_append_right _ (List.mem_append_right _ (List.mem_append_left _ (List.mem_of_getElem? (i := 3) (by decide +kernel)))))) rfl, g_mem (List.mem_append_right _ (List.mem_append_right _ (List.mem_append_right _ (List.mem_append_left _ (List.mem_of_getElem? (i := 5) (by decide +kernel)))))) rfl, g_mem (List.mem_append_left _ (List.mem_of_getElem? (i := 18) (by decide +kernel))) rfl, by decide +kernel, by decide +kernel, by decide +kernel⟩
theorem kc_Reader_80 : g_okV R_Reader 80 y_Reader_readBar c_Reader_readBar 3 none 0 := ⟨g_mem (List.mem_append_right _ (List.mem_append_right _ (List.mem_append_left _ (List.mem_of_getElem? (i := 164) rfl)))) rfl, g_mem (List.mem_append_right _ (List.mem_append_left _ (List.mem_of_getElem? (i := 3) (by decide +kernel)))) rfl, g_mem (List.mem_append_right _ (List.mem_append_right _ (List.mem_append_left _ (List.mem_of_getElem? (i := 161) (by decide +kernel))))) rfl, g_mem (List.mem_append_right _ (List.mem_append_right _ (List.mem_append_left _ (List.mem_of_getElem? (i := 163) (by decide +kernel))))) rfl, g_mem (List.mem_append_left _ (List.mem_of_getElem? (i := 4) (by decide +kernel))) rfl, by decide +kernel, by decide +kernel, by decide +kernel⟩
theorem kf_Reader_158 : Cond.fieldLink R_Reader 158 "PatternDesk$Reader" "least" "I" ∈ g_TB := g_mem (List.mem_append_right _ (List.mem_append_left _ (List.mem_of_getElem? (i := 134) (by decide +kernel)))) rfl
theorem kf_Reader_163 : Cond.fieldLink R_Reader 163 "PatternDesk$Reader" "most" "I" ∈ g_TB := g_mem (List.mem_append_right _ (List.mem_append_left _ (List.mem_of_getElem? (i := 135) (by decide +kernel)))) rfl
theorem km_Reader_201 : g_okM R_Reader 201 Lib.Math.max.name Lib.Math.max.code := ⟨g_mem (List.mem_append_right _ (List.mem_append_right _ (List.mem_append_right _ (List.mem_append_left _ (List.mem_of_getElem? (i := 39) (by decide +kernel)))))) rfl, g_mem (List.mem_append_right _ (List.mem_append_right _ (List.mem_append_right _ (List.mem_append_left _ (List.mem_of_getElem? (i := 40) (by decide +kernel)))))) rfl, g_mem (List.mem_append_right _ (List.mem_append_left _ (List.mem_of_getElem? (i := 13) (by decide +kernel)))) rfl, g_mem (List.mem_append_right _ (List.mem_append_right _ (List.mem_append_right _ (List.mem_append_left _ (List.mem_of_getElem? (i := 41) rfl))))) rfl⟩
theorem kc_Reader_185 : g_okV R_Reader 185 y_Reader_isAbove c_Reader_isAbove 8 (some .boolean) 4 := ⟨g_mem (List.mem_append_right _ (List.mem_append_right _ (List.mem_append_right _ (List.mem_append_left _ (List.mem_of_getElem? (i := 38) rfl))))) rfl, g_mem (List.mem_append_right _ (List.mem_append_left _ (List.mem_of_getElem? (i := 3) (by decide +kernel)))) rfl, g_mem (List.mem_append_right _ (List.mem_append_right _ (List.mem_append_right _ (List.mem_append_left _ (List.mem_of_getElem? (i := 35) (by decide +kernel)))))) rfl, g_mem (List.mem_append_right _ (List.mem_append_right _ (List.mem_append_right _ (List.mem_append_left _ (List.mem_of_getElem? (i := 37) (by decide +kernel)))))) rfl, g_mem (List.mem_append_left _ (List.mem_of_getElem? (i := 25) (by decide +kernel))) rfl, by decide +kernel, by decide +kernel, by decide +kernel⟩
theorem kc_Reader_175 : g_okV R_Reader 175 y_Reader_takeSign c_Reader_takeSign 3 (some .boolean) 2 := ⟨g_mem (List.mem_append_right _ (List.mem_append_right _ (List.mem_append_right _ (List.mem_append_left _ (List.mem_of_getElem? (i := 30) rfl))))) rfl, g_mem (List.mem_append_right _ (List.mem_append_left _ (List.mem_of_getElem? (i := 3) (by decide +kernel)))) rfl, g_mem (List.mem_append_right _ (List.mem_append_right _ (List.mem_append_right _ (List.mem_append_left _ (List.mem_of_getElem? (i := 27) (by decide +kernel)))))) rfl, g_mem (List.mem_append_right _ (List.mem_append_right _ (List.mem_append_right _ (List.mem_append_left _ (List.mem_of_getElem? (i := 29) (by decide +kernel)))))) rfl, g_mem (List.mem_append_left _ (List.mem_of_getElem? (i := 23) (by decide +kernel))) rfl, by decide +kernel, by decide +kernel, by decide +kernel⟩
theorem kc_Reader_179 : g_okV R_Reader 179 y_Reader_readBraces c_Reader_readBraces 6 none 0 := ⟨g_mem (List.mem_append_right _ (List.mem_append_right _ (List.mem_append_right _ (List.mem_append_left _ (List.mem_of_getElem? (i := 34) rfl))))) rfl, g_mem (List.mem_append_right _ (List.mem_append_left _ (List.mem_of_getElem? (i := 3) (by decide +kernel)))) rfl, g_mem (List.mem_append_right _ (List.mem_append_right _ (List.mem_append_right _ (List.mem_append_left _ (List.mem_of_getElem? (i := 31) (by decide +kernel)))))) rfl, g_mem (List.mem_append_right _ (List.mem_append_right _ (List.mem_append_right _ (List.mem_append_left _ (List.mem_of_getElem? (i := 33) (by decide +kernel)))))) rfl, g_mem (List.mem_append_left _ (List.mem_of_getElem? (i := 24) (by decide +kernel))) rfl, by decide +kernel, by decide +kernel, by decide +kernel⟩
theorem kf_Reader_168 : Cond.fieldLink R_Reader 168 "PatternDesk$Program" "groupsBefore" "[I" ∈ g_TB := g_mem (List.mem_append_right _ (List.mem_append_left _ (List.mem_of_getElem? (i := 54) (by decide +kernel)))) rfl
theorem kf_Reader_171 : Cond.fieldLink R_Reader 171 "PatternDesk$Program" "groupsThrough" "[I" ∈ g_TB := g_mem (List.mem_append_right _ (List.mem_append_left _ (List.mem_of_getElem? (i := 57) (by decide +kernel)))) rfl
theorem kf_Reader_149 : Cond.fieldLink R_Reader 149 "PatternDesk$Program" "repeats" "I" ∈ g_TB := g_mem (List.mem_append_right _ (List.mem_append_left _ (List.mem_of_getElem? (i := 66) (by decide +kernel)))) rfl
theorem kf_Reader_152 : Cond.fieldLink R_Reader 152 "PatternDesk$Program" "head" "[I" ∈ g_TB := g_mem (List.mem_append_right _ (List.mem_append_left _ (List.mem_of_getElem? (i := 60) (by decide +kernel)))) rfl
theorem kf_Reader_155 : Cond.fieldLink R_Reader 155 "PatternDesk$Program" "least" "[I" ∈ g_TB := g_mem (List.mem_append_right _ (List.mem_append_left _ (List.mem_of_getElem? (i := 45) (by decide +kernel)))) rfl
theorem kf_Reader_160 : Cond.fieldLink R_Reader 160 "PatternDesk$Program" "most" "[I" ∈ g_TB := g_mem (List.mem_append_right _ (List.mem_append_left _ (List.mem_of_getElem? (i := 48) (by decide +kernel)))) rfl
theorem kf_Reader_165 : Cond.fieldLink R_Reader 165 "PatternDesk$Program" "lazy" "[I" ∈ g_TB := g_mem (List.mem_append_right _ (List.mem_append_left _ (List.mem_of_getElem? (i := 51) (by decide +kernel)))) rfl
theorem kc_Reader_146 : g_okV R_Reader 146 y_Reader_appendRepetition c_Reader_appendRepetition 6 none 0 := ⟨g_mem (List.mem_append_right _ (List.mem_append_right _ (List.mem_append_right _ (List.mem_append_left _ (List.mem_of_getElem? (i := 45) rfl))))) rfl, g_mem (List.mem_append_right _ (List.mem_append_left _ (List.mem_of_getElem? (i := 3) (by decide +kernel)))) rfl, g_mem (List.mem_append_right _ (List.mem_append_right _ (List.mem_append_right _ (List.mem_append_left _ (List.mem_of_getElem? (i := 42) (by decide +kernel)))))) rfl, g_mem (List.mem_append_right _ (List.mem_append_right _ (List.mem_append_right _ (List.mem_append_left _ (List.mem_of_getElem? (i := 44) (by decide +kernel)))))) rfl, g_mem (List.mem_append_left _ (List.mem_of_getElem? (i := 26) (by decide +kernel))) rfl, by decide +kernel, by decide +kernel, by decide +kernel⟩
theorem kc_Reader_142 : g_okV R_Reader 142 y_Reader_readQuantifier c_Reader_readQuantifier 1 (some .boolean) 0 := ⟨g_mem (List.mem_append_right _ (List.mem_append_right _ (List.mem_append_right _ (List.mem_append_left _ (List.mem_of_getElem? (i := 26) rfl))))) rfl, g_mem (List.mem_append_right _ (List.mem_append_left _ (List.mem_of_getElem? (i := 3) (by decide +kernel)))) rfl, g_mem (List.mem_append_right _ (List.mem_append_right _ (List.mem_append_right _ (List.mem_append_left _ (List.mem_of_getElem? (i := 23) (by decide +kernel)))))) rfl, g_mem (List.mem_append_right _ (List.mem_append_right _ (List.mem_append_right _ (List.mem_append_left _ (List.mem_of_getElem? (i := 25) (by decide +kernel)))))) rfl, g_mem (List.mem_append_left _ (List.mem_of_getElem? (i := 22) (by decide +kernel))) rfl, by decide +kernel, by decide +kernel, by decide +kernel⟩
theorem kf_Reader_241 : Cond.fieldLink R_Reader 241 "PatternDesk$Program" "second" "[I" ∈ g_TB := g_mem (List.mem_append_right _ (List.mem_append_left _ (List.mem_of_getElem? (i := 38) (by decide +kernel)))) rfl
theorem kf_Reader_238 : Cond.fieldLink R_Reader 238 "PatternDesk$Program" "nodes" "I" ∈ g_TB := g_mem (List.mem_append_right _ (List.mem_append_left _ (List.mem_of_getElem? (i := 62) (by decide +kernel)))) rfl
theorem d_Reader_readTerm_0 : decode c_Reader_readTerm 0 = .ok (.aload_n 0, 1) := by decide +kernel
theorem d_Reader_readTerm_1 : decode c_Reader_readTerm 1 = .ok (.aload_n 0, 1) := by decide +kernel
theorem d_Reader_readTerm_2 : decode c_Reader_readTerm 2 = .ok (.getfield 35, 3) := by decide +kernel
theorem d_Reader_readTerm_5 : decode c_Reader_readTerm 5 = .ok (.invokevirtual 76, 3) := by decide +kernel
theorem d_Reader_readTerm_8 : decode c_Reader_readTerm 8 = .ok (.istore_n 1, 1) := by decide +kernel
theorem d_Reader_readTerm_9 : decode c_Reader_readTerm 9 = .ok (.iload_n 1, 1) := by decide +kernel
theorem d_Reader_readTerm_10 : decode c_Reader_readTerm 10 = .ok (.lookupswitch 208 #[(36, 167), (40, 129), (41, 136), (42, 197), (43, 197), (46, 177), (63, 197), (91, 143), (92, 150), (93, 197), (94, 157), (123, 197), (124, 122), (125, 197)], 122) := by decide +kernel
theorem d_Reader_readTerm_132 : decode c_Reader_readTerm 132 = .ok (.aload_n 0, 1) := by decide +kernel
theorem d_Reader_readTerm_133 : decode c_Reader_readTerm 133 = .ok (.invokevirtual 80, 3) := by decide +kernel
theorem d_Reader_readTerm_136 : decode c_Reader_readTerm 136 = .ok (.goto 99, 3) := by decide +kernel
theorem d_Reader_readTerm_139 : decode c_Reader_readTerm 139 = .ok (.aload_n 0, 1) := by decide +kernel
theorem d_Reader_readTerm_140 : decode c_Reader_readTerm 140 = .ok (.invokevirtual 83, 3) := by decide +kernel
theorem d_Reader_readTerm_143 : decode c_Reader_readTerm 143 = .ok (.goto 92, 3) := by decide +kernel
theorem d_Reader_readTerm_146 : decode c_Reader_readTerm 146 = .ok (.aload_n 0, 1) := by decide +kernel
theorem d_Reader_readTerm_147 : decode c_Reader_readTerm 147 = .ok (.invokevirtual 86, 3) := by decide +kernel
theorem d_Reader_readTerm_150 : decode c_Reader_readTerm 150 = .ok (.goto 85, 3) := by decide +kernel
theorem d_Reader_readTerm_153 : decode c_Reader_readTerm 153 = .ok (.aload_n 0, 1) := by decide +kernel
theorem d_Reader_readTerm_154 : decode c_Reader_readTerm 154 = .ok (.invokevirtual 89, 3) := by decide +kernel
theorem d_Reader_readTerm_157 : decode c_Reader_readTerm 157 = .ok (.goto 78, 3) := by decide +kernel
theorem d_Reader_readTerm_160 : decode c_Reader_readTerm 160 = .ok (.aload_n 0, 1) := by decide +kernel
theorem d_Reader_readTerm_161 : decode c_Reader_readTerm 161 = .ok (.invokevirtual 92, 3) := by decide +kernel
theorem d_Reader_readTerm_164 : decode c_Reader_readTerm 164 = .ok (.goto 71, 3) := by decide +kernel
theorem d_Reader_readTerm_167 : decode c_Reader_readTerm 167 = .ok (.aload_n 0, 1) := by decide +kernel
theorem d_Reader_readTerm_168 : decode c_Reader_readTerm 168 = .ok (.bipush 7, 2) := by decide +kernel
theorem d_Reader_readTerm_170 : decode c_Reader_readTerm 170 = .ok (.iconst 1, 1) := by decide +kernel
theorem d_Reader_readTerm_171 : decode c_Reader_readTerm 171 = .ok (.invokevirtual 95, 3) := by decide +kernel
theorem d_Reader_readTerm_174 : decode c_Reader_readTerm 174 = .ok (.goto 61, 3) := by decide +kernel
theorem d_Reader_readTerm_177 : decode c_Reader_readTerm 177 = .ok (.aload_n 0, 1) := by decide +kernel
theorem d_Reader_readTerm_178 : decode c_Reader_readTerm 178 = .ok (.bipush 8, 2) := by decide +kernel
theorem d_Reader_readTerm_180 : decode c_Reader_readTerm 180 = .ok (.iconst 1, 1) := by decide +kernel
theorem d_Reader_readTerm_181 : decode c_Reader_readTerm 181 = .ok (.invokevirtual 95, 3) := by decide +kernel
theorem d_Reader_readTerm_184 : decode c_Reader_readTerm 184 = .ok (.goto 51, 3) := by decide +kernel
theorem d_Reader_readTerm_187 : decode c_Reader_readTerm 187 = .ok (.aload_n 0, 1) := by decide +kernel
theorem d_Reader_readTerm_188 : decode c_Reader_readTerm 188 = .ok (.dup, 1) := by decide +kernel
theorem d_Reader_readTerm_189 : decode c_Reader_readTerm 189 = .ok (.getfield 35, 3) := by decide +kernel
theorem d_Reader_readTerm_192 : decode c_Reader_readTerm 192 = .ok (.iconst 1, 1) := by decide +kernel
theorem d_Reader_readTerm_193 : decode c_Reader_readTerm 193 = .ok (.iadd, 1) := by decide +kernel
theorem d_Reader_readTerm_194 : decode c_Reader_readTerm 194 = .ok (.putfield 35, 3) := by decide +kernel
theorem d_Reader_readTerm_197 : decode c_Reader_readTerm 197 = .ok (.aload_n 0, 1) := by decide +kernel
theorem d_Reader_readTerm_198 : decode c_Reader_readTerm 198 = .ok (.iconst 2, 1) := by decide +kernel
theorem d_Reader_readTerm_199 : decode c_Reader_readTerm 199 = .ok (.iconst 0, 1) := by decide +kernel
theorem d_Reader_readTerm_200 : decode c_Reader_readTerm 200 = .ok (.iconst 0, 1) := by decide +kernel
theorem d_Reader_readTerm_201 : decode c_Reader_readTerm 201 = .ok (.invokevirtual 98, 3) := by decide +kernel
theorem d_Reader_readTerm_204 : decode c_Reader_readTerm 204 = .ok (.goto 31, 3) := by decide +kernel
theorem d_Reader_readTerm_207 : decode c_Reader_readTerm 207 = .ok (.aload_n 0, 1) := by decide +kernel
theorem d_Reader_readTerm_208 : decode c_Reader_readTerm 208 = .ok (.aload_n 0, 1) := by decide +kernel
theorem d_Reader_readTerm_209 : decode c_Reader_readTerm 209 = .ok (.getfield 35, 3) := by decide +kernel
theorem d_Reader_readTerm_212 : decode c_Reader_readTerm 212 = .ok (.putfield 38, 3) := by decide +kernel
theorem d_Reader_readTerm_215 : decode c_Reader_readTerm 215 = .ok (.goto 20, 3) := by decide +kernel
theorem d_Reader_readTerm_218 : decode c_Reader_readTerm 218 = .ok (.aload_n 0, 1) := by decide +kernel
theorem d_Reader_readTerm_219 : decode c_Reader_readTerm 219 = .ok (.dup, 1) := by decide +kernel
theorem d_Reader_readTerm_220 : decode c_Reader_readTerm 220 = .ok (.getfield 35, 3) := by decide +kernel
theorem d_Reader_readTerm_223 : decode c_Reader_readTerm 223 = .ok (.iconst 1, 1) := by decide +kernel
theorem d_Reader_readTerm_224 : decode c_Reader_readTerm 224 = .ok (.iadd, 1) := by decide +kernel
theorem d_Reader_readTerm_225 : decode c_Reader_readTerm 225 = .ok (.putfield 35, 3) := by decide +kernel
theorem d_Reader_readTerm_228 : decode c_Reader_readTerm 228 = .ok (.aload_n 0, 1) := by decide +kernel
theorem d_Reader_readTerm_229 : decode c_Reader_readTerm 229 = .ok (.iconst 1, 1) := by decide +kernel
theorem d_Reader_readTerm_230 : decode c_Reader_readTerm 230 = .ok (.iload_n 1, 1) := by decide +kernel
theorem d_Reader_readTerm_231 : decode c_Reader_readTerm 231 = .ok (.iconst 0, 1) := by decide +kernel
theorem d_Reader_readTerm_232 : decode c_Reader_readTerm 232 = .ok (.invokevirtual 98, 3) := by decide +kernel
theorem d_Reader_readTerm_235 : decode c_Reader_readTerm 235 = .ok (.return_, 1) := by decide +kernel
theorem d_Reader_takeSign_0 : decode c_Reader_takeSign 0 = .ok (.aload_n 0, 1) := by decide +kernel
theorem d_Reader_takeSign_1 : decode c_Reader_takeSign 1 = .ok (.iload_n 1, 1) := by decide +kernel
theorem d_Reader_takeSign_2 : decode c_Reader_takeSign 2 = .ok (.putfield 158, 3) := by decide +kernel
theorem d_Reader_takeSign_5 : decode c_Reader_takeSign 5 = .ok (.aload_n 0, 1) := by decide +kernel
theorem d_Reader_takeSign_6 : decode c_Reader_takeSign 6 = .ok (.iload_n 2, 1) := by decide +kernel
theorem d_Reader_takeSign_7 : decode c_Reader_takeSign 7 = .ok (.putfield 163, 3) := by decide +kernel
theorem d_Reader_takeSign_10 : decode c_Reader_takeSign 10 = .ok (.aload_n 0, 1) := by decide +kernel
theorem d_Reader_takeSign_11 : decode c_Reader_takeSign 11 = .ok (.dup, 1) := by decide +kernel
theorem d_Reader_takeSign_12 : decode c_Reader_takeSign 12 = .ok (.getfield 35, 3) := by decide +kernel
theorem d_Reader_takeSign_15 : decode c_Reader_takeSign 15 = .ok (.iconst 1, 1) := by decide +kernel
theorem d_Reader_takeSign_16 : decode c_Reader_takeSign 16 = .ok (.iadd, 1) := by decide +kernel
theorem d_Reader_takeSign_17 : decode c_Reader_takeSign 17 = .ok (.putfield 35, 3) := by decide +kernel
theorem d_Reader_takeSign_20 : decode c_Reader_takeSign 20 = .ok (.iconst 1, 1) := by decide +kernel
theorem d_Reader_takeSign_21 : decode c_Reader_takeSign 21 = .ok (.ireturn, 1) := by decide +kernel
theorem d_Reader_isAbove_0 : decode c_Reader_isAbove 0 = .ok (.iload_n 2, 1) := by decide +kernel
theorem d_Reader_isAbove_1 : decode c_Reader_isAbove 1 = .ok (.iload_n 1, 1) := by decide +kernel
theorem d_Reader_isAbove_2 : decode c_Reader_isAbove 2 = .ok (.isub, 1) := by decide +kernel
theorem d_Reader_isAbove_3 : decode c_Reader_isAbove 3 = .ok (.iload 4, 2) := by decide +kernel
theorem d_Reader_isAbove_5 : decode c_Reader_isAbove 5 = .ok (.iload_n 3, 1) := by decide +kernel
theorem d_Reader_isAbove_6 : decode c_Reader_isAbove 6 = .ok (.isub, 1) := by decide +kernel
theorem d_Reader_isAbove_7 : decode c_Reader_isAbove 7 = .ok (.invokestatic 201, 3) := by decide +kernel
theorem d_Reader_isAbove_10 : decode c_Reader_isAbove 10 = .ok (.istore 5, 2) := by decide +kernel
theorem d_Reader_isAbove_12 : decode c_Reader_isAbove 12 = .ok (.iload 5, 2) := by decide +kernel
theorem d_Reader_isAbove_14 : decode c_Reader_isAbove 14 = .ok (.ifCond .le 77, 3) := by decide +kernel
theorem d_Reader_isAbove_17 : decode c_Reader_isAbove 17 = .ok (.iload_n 2, 1) := by decide +kernel
theorem d_Reader_isAbove_18 : decode c_Reader_isAbove 18 = .ok (.iload 5, 2) := by decide +kernel
theorem d_Reader_isAbove_20 : decode c_Reader_isAbove 20 = .ok (.isub, 1) := by decide +kernel
theorem d_Reader_isAbove_21 : decode c_Reader_isAbove 21 = .ok (.iload_n 1, 1) := by decide +kernel
theorem d_Reader_isAbove_22 : decode c_Reader_isAbove 22 = .ok (.if_icmp .lt 14, 3) := by decide +kernel
theorem d_Reader_isAbove_25 : decode c_Reader_isAbove 25 = .ok (.aload_n 0, 1) := by decide +kernel
theorem d_Reader_isAbove_26 : decode c_Reader_isAbove 26 = .ok (.iload_n 2, 1) := by decide +kernel
theorem d_Reader_isAbove_27 : decode c_Reader_isAbove 27 = .ok (.iload 5, 2) := by decide +kernel
theorem d_Reader_isAbove_29 : decode c_Reader_isAbove 29 = .ok (.isub, 1) := by decide +kernel
theorem d_Reader_isAbove_30 : decode c_Reader_isAbove 30 = .ok (.invokevirtual 76, 3) := by decide +kernel
theorem d_Reader_isAbove_33 : decode c_Reader_isAbove 33 = .ok (.goto 5, 3) := by decide +kernel
theorem d_Reader_isAbove_36 : decode c_Reader_isAbove 36 = .ok (.bipush 48, 2) := by decide +kernel
theorem d_Reader_isAbove_38 : decode c_Reader_isAbove 38 = .ok (.istore 6, 2) := by decide +kernel
theorem d_Reader_isAbove_40 : decode c_Reader_isAbove 40 = .ok (.iload 4, 2) := by decide +kernel
theorem d_Reader_isAbove_42 : decode c_Reader_isAbove 42 = .ok (.iload 5, 2) := by decide +kernel
theorem d_Reader_isAbove_44 : decode c_Reader_isAbove 44 = .ok (.isub, 1) := by decide +kernel
theorem d_Reader_isAbove_45 : decode c_Reader_isAbove 45 = .ok (.iload_n 3, 1) := by decide +kernel
theorem d_Reader_isAbove_46 : decode c_Reader_isAbove 46 = .ok (.if_icmp .lt 15, 3) := by decide +kernel
theorem d_Reader_isAbove_49 : decode c_Reader_isAbove 49 = .ok (.aload_n 0, 1) := by decide +kernel
theorem d_Reader_isAbove_50 : decode c_Reader_isAbove 50 = .ok (.iload 4, 2) := by decide +kernel
theorem d_Reader_isAbove_52 : decode c_Reader_isAbove 52 = .ok (.iload 5, 2) := by decide +kernel
theorem d_Reader_isAbove_54 : decode c_Reader_isAbove 54 = .ok (.isub, 1) := by decide +kernel
theorem d_Reader_isAbove_55 : decode c_Reader_isAbove 55 = .ok (.invokevirtual 76, 3) := by decide +kernel
theorem d_Reader_isAbove_58 : decode c_Reader_isAbove 58 = .ok (.goto 5, 3) := by decide +kernel
theorem d_Reader_isAbove_61 : decode c_Reader_isAbove 61 = .ok (.bipush 48, 2) := by decide +kernel
theorem d_Reader_isAbove_63 : decode c_Reader_isAbove 63 = .ok (.istore 7, 2) := by decide +kernel
theorem d_Reader_isAbove_65 : decode c_Reader_isAbove 65 = .ok (.iload 6, 2) := by decide +kernel
theorem d_Reader_isAbove_67 : decode c_Reader_isAbove 67 = .ok (.iload 7, 2) := by decide +kernel
theorem d_Reader_isAbove_69 : decode c_Reader_isAbove 69 = .ok (.if_icmp .eq 16, 3) := by decide +kernel
theorem d_Reader_isAbove_72 : decode c_Reader_isAbove 72 = .ok (.iload 6, 2) := by decide +kernel
theorem d_Reader_isAbove_74 : decode c_Reader_isAbove 74 = .ok (.iload 7, 2) := by decide +kernel
theorem d_Reader_isAbove_76 : decode c_Reader_isAbove 76 = .ok (.if_icmp .le 7, 3) := by decide +kernel
theorem d_Reader_isAbove_79 : decode c_Reader_isAbove 79 = .ok (.iconst 1, 1) := by decide +kernel
theorem d_Reader_isAbove_80 : decode c_Reader_isAbove 80 = .ok (.goto 4, 3) := by decide +kernel
theorem d_Reader_isAbove_83 : decode c_Reader_isAbove 83 = .ok (.iconst 0, 1) := by decide +kernel
theorem d_Reader_isAbove_84 : decode c_Reader_isAbove 84 = .ok (.ireturn, 1) := by decide +kernel
theorem d_Reader_isAbove_85 : decode c_Reader_isAbove 85 = .ok (.iinc 5 (-1), 3) := by decide +kernel
theorem d_Reader_isAbove_88 : decode c_Reader_isAbove 88 = .ok (.goto (-76), 3) := by decide +kernel
theorem d_Reader_isAbove_91 : decode c_Reader_isAbove 91 = .ok (.iconst 0, 1) := by decide +kernel
theorem d_Reader_isAbove_92 : decode c_Reader_isAbove 92 = .ok (.ireturn, 1) := by decide +kernel
theorem d_Reader_readBraces_0 : decode c_Reader_readBraces 0 = .ok (.aload_n 0, 1) := by decide +kernel
theorem d_Reader_readBraces_1 : decode c_Reader_readBraces 1 = .ok (.getfield 35, 3) := by decide +kernel
theorem d_Reader_readBraces_4 : decode c_Reader_readBraces 4 = .ok (.istore_n 1, 1) := by decide +kernel
theorem d_Reader_readBraces_5 : decode c_Reader_readBraces 5 = .ok (.aload_n 0, 1) := by decide +kernel
theorem d_Reader_readBraces_6 : decode c_Reader_readBraces 6 = .ok (.dup, 1) := by decide +kernel
theorem d_Reader_readBraces_7 : decode c_Reader_readBraces 7 = .ok (.getfield 35, 3) := by decide +kernel
theorem d_Reader_readBraces_10 : decode c_Reader_readBraces 10 = .ok (.iconst 1, 1) := by decide +kernel
theorem d_Reader_readBraces_11 : decode c_Reader_readBraces 11 = .ok (.iadd, 1) := by decide +kernel
theorem d_Reader_readBraces_12 : decode c_Reader_readBraces 12 = .ok (.putfield 35, 3) := by decide +kernel
theorem d_Reader_readBraces_15 : decode c_Reader_readBraces 15 = .ok (.aload_n 0, 1) := by decide +kernel
theorem d_Reader_readBraces_16 : decode c_Reader_readBraces 16 = .ok (.getfield 35, 3) := by decide +kernel
theorem d_Reader_readBraces_19 : decode c_Reader_readBraces 19 = .ok (.istore_n 2, 1) := by decide +kernel
theorem d_Reader_readBraces_20 : decode c_Reader_readBraces 20 = .ok (.aload_n 0, 1) := by decide +kernel
theorem d_Reader_readBraces_21 : decode c_Reader_readBraces 21 = .ok (.aload_n 0, 1) := by decide +kernel
theorem d_Reader_readBraces_22 : decode c_Reader_readBraces 22 = .ok (.invokevirtual 182, 3) := by decide +kernel
theorem d_Reader_readBraces_25 : decode c_Reader_readBraces 25 = .ok (.putfield 158, 3) := by decide +kernel
theorem d_Reader_readBraces_28 : decode c_Reader_readBraces 28 = .ok (.aload_n 0, 1) := by decide +kernel
theorem d_Reader_readBraces_29 : decode c_Reader_readBraces 29 = .ok (.getfield 35, 3) := by decide +kernel
theorem d_Reader_readBraces_32 : decode c_Reader_readBraces 32 = .ok (.istore_n 3, 1) := by decide +kernel
theorem d_Reader_readBraces_33 : decode c_Reader_readBraces 33 = .ok (.aload_n 0, 1) := by decide +kernel
theorem d_Reader_readBraces_34 : decode c_Reader_readBraces 34 = .ok (.aload_n 0, 1) := by decide +kernel
theorem d_Reader_readBraces_35 : decode c_Reader_readBraces 35 = .ok (.getfield 158, 3) := by decide +kernel
theorem d_Reader_readBraces_38 : decode c_Reader_readBraces 38 = .ok (.putfield 163, 3) := by decide +kernel
theorem d_Reader_readBraces_41 : decode c_Reader_readBraces 41 = .ok (.iconst 0, 1) := by decide +kernel
theorem d_Reader_readBraces_42 : decode c_Reader_readBraces 42 = .ok (.istore 4, 2) := by decide +kernel
theorem d_Reader_readBraces_44 : decode c_Reader_readBraces 44 = .ok (.aload_n 0, 1) := by decide +kernel
theorem d_Reader_readBraces_45 : decode c_Reader_readBraces 45 = .ok (.getfield 38, 3) := by decide +kernel
theorem d_Reader_readBraces_48 : decode c_Reader_readBraces 48 = .ok (.ifCond .ge 76, 3) := by decide +kernel
theorem d_Reader_readBraces_51 : decode c_Reader_readBraces 51 = .ok (.aload_n 0, 1) := by decide +kernel
theorem d_Reader_readBraces_52 : decode c_Reader_readBraces 52 = .ok (.aload_n 0, 1) := by decide +kernel
theorem d_Reader_readBraces_53 : decode c_Reader_readBraces 53 = .ok (.getfield 35, 3) := by decide +kernel
theorem d_Reader_readBraces_56 : decode c_Reader_readBraces 56 = .ok (.invokevirtual 76, 3) := by decide +kernel
theorem d_Reader_readBraces_59 : decode c_Reader_readBraces 59 = .ok (.bipush 44, 2) := by decide +kernel
theorem d_Reader_readBraces_61 : decode c_Reader_readBraces 61 = .ok (.if_icmp .ne 63, 3) := by decide +kernel
theorem d_Reader_readBraces_64 : decode c_Reader_readBraces 64 = .ok (.aload_n 0, 1) := by decide +kernel
theorem d_Reader_readBraces_65 : decode c_Reader_readBraces 65 = .ok (.dup, 1) := by decide +kernel
theorem d_Reader_readBraces_66 : decode c_Reader_readBraces 66 = .ok (.getfield 35, 3) := by decide +kernel
theorem d_Reader_readBraces_69 : decode c_Reader_readBraces 69 = .ok (.iconst 1, 1) := by decide +kernel
theorem d_Reader_readBraces_70 : decode c_Reader_readBraces 70 = .ok (.iadd, 1) := by decide +kernel
theorem d_Reader_readBraces_71 : decode c_Reader_readBraces 71 = .ok (.putfield 35, 3) := by decide +kernel
theorem d_Reader_readBraces_74 : decode c_Reader_readBraces 74 = .ok (.aload_n 0, 1) := by decide +kernel
theorem d_Reader_readBraces_75 : decode c_Reader_readBraces 75 = .ok (.aload_n 0, 1) := by decide +kernel
theorem d_Reader_readBraces_76 : decode c_Reader_readBraces 76 = .ok (.getfield 35, 3) := by decide +kernel
theorem d_Reader_readBraces_79 : decode c_Reader_readBraces 79 = .ok (.invokevirtual 76, 3) := by decide +kernel
theorem d_Reader_readBraces_82 : decode c_Reader_readBraces 82 = .ok (.bipush 125, 2) := by decide +kernel
theorem d_Reader_readBraces_84 : decode c_Reader_readBraces 84 = .ok (.if_icmp .ne 12, 3) := by decide +kernel
theorem d_Reader_readBraces_87 : decode c_Reader_readBraces 87 = .ok (.aload_n 0, 1) := by decide +kernel
theorem d_Reader_readBraces_88 : decode c_Reader_readBraces 88 = .ok (.ldc 174, 2) := by decide +kernel
theorem d_Reader_readBraces_90 : decode c_Reader_readBraces 90 = .ok (.putfield 163, 3) := by decide +kernel
theorem d_Reader_readBraces_93 : decode c_Reader_readBraces 93 = .ok (.goto 31, 3) := by decide +kernel
theorem d_Reader_readBraces_96 : decode c_Reader_readBraces 96 = .ok (.aload_n 0, 1) := by decide +kernel
theorem d_Reader_readBraces_97 : decode c_Reader_readBraces 97 = .ok (.getfield 35, 3) := by decide +kernel
theorem d_Reader_readBraces_100 : decode c_Reader_readBraces 100 = .ok (.istore 5, 2) := by decide +kernel
theorem d_Reader_readBraces_102 : decode c_Reader_readBraces 102 = .ok (.aload_n 0, 1) := by decide +kernel
theorem d_Reader_readBraces_103 : decode c_Reader_readBraces 103 = .ok (.aload_n 0, 1) := by decide +kernel
theorem d_Reader_readBraces_104 : decode c_Reader_readBraces 104 = .ok (.invokevirtual 182, 3) := by decide +kernel
theorem d_Reader_readBraces_107 : decode c_Reader_readBraces 107 = .ok (.putfield 163, 3) := by decide +kernel
theorem d_Reader_readBraces_110 : decode c_Reader_readBraces 110 = .ok (.aload_n 0, 1) := by decide +kernel
theorem d_Reader_readBraces_111 : decode c_Reader_readBraces 111 = .ok (.iload_n 2, 1) := by decide +kernel
theorem d_Reader_readBraces_112 : decode c_Reader_readBraces 112 = .ok (.iload_n 3, 1) := by decide +kernel
theorem d_Reader_readBraces_113 : decode c_Reader_readBraces 113 = .ok (.iload 5, 2) := by decide +kernel
theorem d_Reader_readBraces_115 : decode c_Reader_readBraces 115 = .ok (.aload_n 0, 1) := by decide +kernel
theorem d_Reader_readBraces_116 : decode c_Reader_readBraces 116 = .ok (.getfield 35, 3) := by decide +kernel
theorem d_Reader_readBraces_119 : decode c_Reader_readBraces 119 = .ok (.invokevirtual 185, 3) := by decide +kernel
theorem d_Reader_readBraces_122 : decode c_Reader_readBraces 122 = .ok (.istore 4, 2) := by decide +kernel
theorem d_Reader_readBraces_124 : decode c_Reader_readBraces 124 = .ok (.aload_n 0, 1) := by decide +kernel
theorem d_Reader_readBraces_125 : decode c_Reader_readBraces 125 = .ok (.getfield 38, 3) := by decide +kernel
theorem d_Reader_readBraces_128 : decode c_Reader_readBraces 128 = .ok (.ifCond .lt 4, 3) := by decide +kernel
theorem d_Reader_readBraces_131 : decode c_Reader_readBraces 131 = .ok (.return_, 1) := by decide +kernel
theorem d_Reader_readBraces_132 : decode c_Reader_readBraces 132 = .ok (.aload_n 0, 1) := by decide +kernel
theorem d_Reader_readBraces_133 : decode c_Reader_readBraces 133 = .ok (.aload_n 0, 1) := by decide +kernel
theorem d_Reader_readBraces_134 : decode c_Reader_readBraces 134 = .ok (.getfield 35, 3) := by decide +kernel
theorem d_Reader_readBraces_137 : decode c_Reader_readBraces 137 = .ok (.invokevirtual 76, 3) := by decide +kernel
theorem d_Reader_readBraces_140 : decode c_Reader_readBraces 140 = .ok (.bipush 125, 2) := by decide +kernel
theorem d_Reader_readBraces_142 : decode c_Reader_readBraces 142 = .ok (.if_icmp .eq 14, 3) := by decide +kernel
theorem d_Reader_readBraces_145 : decode c_Reader_readBraces 145 = .ok (.aload_n 0, 1) := by decide +kernel
theorem d_Reader_readBraces_146 : decode c_Reader_readBraces 146 = .ok (.aload_n 0, 1) := by decide +kernel
theorem d_Reader_readBraces_147 : decode c_Reader_readBraces 147 = .ok (.getfield 35, 3) := by decide +kernel
theorem d_Reader_readBraces_150 : decode c_Reader_readBraces 150 = .ok (.putfield 38, 3) := by decide +kernel
theorem d_Reader_readBraces_153 : decode c_Reader_readBraces 153 = .ok (.goto 26, 3) := by decide +kernel
theorem d_Reader_readBraces_156 : decode c_Reader_readBraces 156 = .ok (.iload 4, 2) := by decide +kernel
theorem d_Reader_readBraces_158 : decode c_Reader_readBraces 158 = .ok (.ifCond .eq 11, 3) := by decide +kernel
theorem d_Reader_readBraces_161 : decode c_Reader_readBraces 161 = .ok (.aload_n 0, 1) := by decide +kernel
theorem d_Reader_readBraces_162 : decode c_Reader_readBraces 162 = .ok (.iload_n 1, 1) := by decide +kernel
theorem d_Reader_readBraces_163 : decode c_Reader_readBraces 163 = .ok (.putfield 38, 3) := by decide +kernel
theorem d_Reader_readBraces_166 : decode c_Reader_readBraces 166 = .ok (.goto 13, 3) := by decide +kernel
theorem d_Reader_readBraces_169 : decode c_Reader_readBraces 169 = .ok (.aload_n 0, 1) := by decide +kernel
theorem d_Reader_readBraces_170 : decode c_Reader_readBraces 170 = .ok (.dup, 1) := by decide +kernel
theorem d_Reader_readBraces_171 : decode c_Reader_readBraces 171 = .ok (.getfield 35, 3) := by decide +kernel
theorem d_Reader_readBraces_174 : decode c_Reader_readBraces 174 = .ok (.iconst 1, 1) := by decide +kernel
theorem d_Reader_readBraces_175 : decode c_Reader_readBraces 175 = .ok (.iadd, 1) := by decide +kernel
theorem d_Reader_readBraces_176 : decode c_Reader_readBraces 176 = .ok (.putfield 35, 3) := by decide +kernel
theorem d_Reader_readBraces_179 : decode c_Reader_readBraces 179 = .ok (.return_, 1) := by decide +kernel
theorem d_Reader_readQuantifier_0 : decode c_Reader_readQuantifier 0 = .ok (.aload_n 0, 1) := by decide +kernel
theorem d_Reader_readQuantifier_1 : decode c_Reader_readQuantifier 1 = .ok (.aload_n 0, 1) := by decide +kernel
theorem d_Reader_readQuantifier_2 : decode c_Reader_readQuantifier 2 = .ok (.getfield 35, 3) := by decide +kernel
theorem d_Reader_readQuantifier_5 : decode c_Reader_readQuantifier 5 = .ok (.invokevirtual 76, 3) := by decide +kernel
theorem d_Reader_readQuantifier_8 : decode c_Reader_readQuantifier 8 = .ok (.lookupswitch 84 #[(42, 44), (43, 52), (63, 60), (123, 67)], 44) := by decide +kernel
theorem d_Reader_readQuantifier_52 : decode c_Reader_readQuantifier 52 = .ok (.aload_n 0, 1) := by decide +kernel
theorem d_Reader_readQuantifier_53 : decode c_Reader_readQuantifier 53 = .ok (.iconst 0, 1) := by decide +kernel
theorem d_Reader_readQuantifier_54 : decode c_Reader_readQuantifier 54 = .ok (.ldc 174, 2) := by decide +kernel
theorem d_Reader_readQuantifier_56 : decode c_Reader_readQuantifier 56 = .ok (.invokevirtual 175, 3) := by decide +kernel
theorem d_Reader_readQuantifier_59 : decode c_Reader_readQuantifier 59 = .ok (.ireturn, 1) := by decide +kernel
theorem d_Reader_readQuantifier_60 : decode c_Reader_readQuantifier 60 = .ok (.aload_n 0, 1) := by decide +kernel
theorem d_Reader_readQuantifier_61 : decode c_Reader_readQuantifier 61 = .ok (.iconst 1, 1) := by decide +kernel
theorem d_Reader_readQuantifier_62 : decode c_Reader_readQuantifier 62 = .ok (.ldc 174, 2) := by decide +kernel
theorem d_Reader_readQuantifier_64 : decode c_Reader_readQuantifier 64 = .ok (.invokevirtual 175, 3) := by decide +kernel
theorem d_Reader_readQuantifier_67 : decode c_Reader_readQuantifier 67 = .ok (.ireturn, 1) := by decide +kernel
theorem d_Reader_readQuantifier_68 : decode c_Reader_readQuantifier 68 = .ok (.aload_n 0, 1) := by decide +kernel
theorem d_Reader_readQuantifier_69 : decode c_Reader_readQuantifier 69 = .ok (.iconst 0, 1) := by decide +kernel
theorem d_Reader_readQuantifier_70 : decode c_Reader_readQuantifier 70 = .ok (.iconst 1, 1) := by decide +kernel
theorem d_Reader_readQuantifier_71 : decode c_Reader_readQuantifier 71 = .ok (.invokevirtual 175, 3) := by decide +kernel
theorem d_Reader_readQuantifier_74 : decode c_Reader_readQuantifier 74 = .ok (.ireturn, 1) := by decide +kernel
theorem d_Reader_readQuantifier_75 : decode c_Reader_readQuantifier 75 = .ok (.aload_n 0, 1) := by decide +kernel
theorem d_Reader_readQuantifier_76 : decode c_Reader_readQuantifier 76 = .ok (.invokevirtual 179, 3) := by decide +kernel
theorem d_Reader_readQuantifier_79 : decode c_Reader_readQuantifier 79 = .ok (.aload_n 0, 1) := by decide +kernel
theorem d_Reader_readQuantifier_80 : decode c_Reader_readQuantifier 80 = .ok (.getfield 38, 3) := by decide +kernel
theorem d_Reader_readQuantifier_83 : decode c_Reader_readQuantifier 83 = .ok (.ifCond .ge 7, 3) := by decide +kernel
theorem d_Reader_readQuantifier_86 : decode c_Reader_readQuantifier 86 = .ok (.iconst 1, 1) := by decide +kernel
theorem d_Reader_readQuantifier_87 : decode c_Reader_readQuantifier 87 = .ok (.goto 4, 3) := by decide +kernel
theorem d_Reader_readQuantifier_90 : decode c_Reader_readQuantifier 90 = .ok (.iconst 0, 1) := by decide +kernel
theorem d_Reader_readQuantifier_91 : decode c_Reader_readQuantifier 91 = .ok (.ireturn, 1) := by decide +kernel
theorem d_Reader_readQuantifier_92 : decode c_Reader_readQuantifier 92 = .ok (.iconst 0, 1) := by decide +kernel
theorem d_Reader_readQuantifier_93 : decode c_Reader_readQuantifier 93 = .ok (.ireturn, 1) := by decide +kernel
theorem d_Reader_appendRepetition_0 : decode c_Reader_appendRepetition 0 = .ok (.aload_n 0, 1) := by decide +kernel
theorem d_Reader_appendRepetition_1 : decode c_Reader_appendRepetition 1 = .ok (.aload_n 0, 1) := by decide +kernel
theorem d_Reader_appendRepetition_2 : decode c_Reader_appendRepetition 2 = .ok (.getfield 35, 3) := by decide +kernel
theorem d_Reader_appendRepetition_5 : decode c_Reader_appendRepetition 5 = .ok (.invokevirtual 76, 3) := by decide +kernel
theorem d_Reader_appendRepetition_8 : decode c_Reader_appendRepetition 8 = .ok (.bipush 63, 2) := by decide +kernel
theorem d_Reader_appendRepetition_10 : decode c_Reader_appendRepetition 10 = .ok (.if_icmp .ne 7, 3) := by decide +kernel
theorem d_Reader_appendRepetition_13 : decode c_Reader_appendRepetition 13 = .ok (.iconst 1, 1) := by decide +kernel
theorem d_Reader_appendRepetition_14 : decode c_Reader_appendRepetition 14 = .ok (.goto 4, 3) := by decide +kernel
theorem d_Reader_appendRepetition_17 : decode c_Reader_appendRepetition 17 = .ok (.iconst 0, 1) := by decide +kernel
theorem d_Reader_appendRepetition_18 : decode c_Reader_appendRepetition 18 = .ok (.istore_n 1, 1) := by decide +kernel
theorem d_Reader_appendRepetition_19 : decode c_Reader_appendRepetition 19 = .ok (.iload_n 1, 1) := by decide +kernel
theorem d_Reader_appendRepetition_20 : decode c_Reader_appendRepetition 20 = .ok (.ifCond .eq 13, 3) := by decide +kernel
theorem d_Reader_appendRepetition_23 : decode c_Reader_appendRepetition 23 = .ok (.aload_n 0, 1) := by decide +kernel
theorem d_Reader_appendRepetition_24 : decode c_Reader_appendRepetition 24 = .ok (.dup, 1) := by decide +kernel
theorem d_Reader_appendRepetition_25 : decode c_Reader_appendRepetition 25 = .ok (.getfield 35, 3) := by decide +kernel
theorem d_Reader_appendRepetition_28 : decode c_Reader_appendRepetition 28 = .ok (.iconst 1, 1) := by decide +kernel
theorem d_Reader_appendRepetition_29 : decode c_Reader_appendRepetition 29 = .ok (.iadd, 1) := by decide +kernel
theorem d_Reader_appendRepetition_30 : decode c_Reader_appendRepetition 30 = .ok (.putfield 35, 3) := by decide +kernel
theorem d_Reader_appendRepetition_33 : decode c_Reader_appendRepetition 33 = .ok (.aload_n 0, 1) := by decide +kernel
theorem d_Reader_appendRepetition_34 : decode c_Reader_appendRepetition 34 = .ok (.getfield 24, 3) := by decide +kernel
theorem d_Reader_appendRepetition_37 : decode c_Reader_appendRepetition 37 = .ok (.getfield 149, 3) := by decide +kernel
theorem d_Reader_appendRepetition_40 : decode c_Reader_appendRepetition 40 = .ok (.istore_n 2, 1) := by decide +kernel
theorem d_Reader_appendRepetition_41 : decode c_Reader_appendRepetition 41 = .ok (.aload_n 0, 1) := by decide +kernel
theorem d_Reader_appendRepetition_42 : decode c_Reader_appendRepetition 42 = .ok (.getfield 24, 3) := by decide +kernel
theorem d_Reader_appendRepetition_45 : decode c_Reader_appendRepetition 45 = .ok (.dup, 1) := by decide +kernel
theorem d_Reader_appendRepetition_46 : decode c_Reader_appendRepetition 46 = .ok (.getfield 149, 3) := by decide +kernel
theorem d_Reader_appendRepetition_49 : decode c_Reader_appendRepetition 49 = .ok (.iconst 1, 1) := by decide +kernel
theorem d_Reader_appendRepetition_50 : decode c_Reader_appendRepetition 50 = .ok (.iadd, 1) := by decide +kernel
theorem d_Reader_appendRepetition_51 : decode c_Reader_appendRepetition 51 = .ok (.putfield 149, 3) := by decide +kernel
theorem d_Reader_appendRepetition_54 : decode c_Reader_appendRepetition 54 = .ok (.aload_n 0, 1) := by decide +kernel
theorem d_Reader_appendRepetition_55 : decode c_Reader_appendRepetition 55 = .ok (.getfield 24, 3) := by decide +kernel
theorem d_Reader_appendRepetition_58 : decode c_Reader_appendRepetition 58 = .ok (.bipush 12, 2) := by decide +kernel
theorem d_Reader_appendRepetition_60 : decode c_Reader_appendRepetition 60 = .ok (.iload_n 2, 1) := by decide +kernel
theorem d_Reader_appendRepetition_61 : decode c_Reader_appendRepetition 61 = .ok (.iconst 0, 1) := by decide +kernel
theorem d_Reader_appendRepetition_62 : decode c_Reader_appendRepetition 62 = .ok (.invokevirtual 52, 3) := by decide +kernel
theorem d_Reader_appendRepetition_65 : decode c_Reader_appendRepetition 65 = .ok (.istore_n 3, 1) := by decide +kernel
theorem d_Reader_appendRepetition_66 : decode c_Reader_appendRepetition 66 = .ok (.aload_n 0, 1) := by decide +kernel
theorem d_Reader_appendRepetition_67 : decode c_Reader_appendRepetition 67 = .ok (.getfield 24, 3) := by decide +kernel
theorem d_Reader_appendRepetition_70 : decode c_Reader_appendRepetition 70 = .ok (.bipush 13, 2) := by decide +kernel
theorem d_Reader_appendRepetition_72 : decode c_Reader_appendRepetition 72 = .ok (.iload_n 2, 1) := by decide +kernel
theorem d_Reader_appendRepetition_73 : decode c_Reader_appendRepetition 73 = .ok (.iconst 0, 1) := by decide +kernel
theorem d_Reader_appendRepetition_74 : decode c_Reader_appendRepetition 74 = .ok (.invokevirtual 52, 3) := by decide +kernel
theorem d_Reader_appendRepetition_77 : decode c_Reader_appendRepetition 77 = .ok (.istore 4, 2) := by decide +kernel
theorem d_Reader_appendRepetition_79 : decode c_Reader_appendRepetition 79 = .ok (.aload_n 0, 1) := by decide +kernel
theorem d_Reader_appendRepetition_80 : decode c_Reader_appendRepetition 80 = .ok (.getfield 24, 3) := by decide +kernel
theorem d_Reader_appendRepetition_83 : decode c_Reader_appendRepetition 83 = .ok (.bipush 14, 2) := by decide +kernel
theorem d_Reader_appendRepetition_85 : decode c_Reader_appendRepetition 85 = .ok (.iload_n 2, 1) := by decide +kernel
theorem d_Reader_appendRepetition_86 : decode c_Reader_appendRepetition 86 = .ok (.iconst 0, 1) := by decide +kernel
theorem d_Reader_appendRepetition_87 : decode c_Reader_appendRepetition 87 = .ok (.invokevirtual 52, 3) := by decide +kernel
theorem d_Reader_appendRepetition_90 : decode c_Reader_appendRepetition 90 = .ok (.istore 5, 2) := by decide +kernel
theorem d_Reader_appendRepetition_92 : decode c_Reader_appendRepetition 92 = .ok (.aload_n 0, 1) := by decide +kernel
theorem d_Reader_appendRepetition_93 : decode c_Reader_appendRepetition 93 = .ok (.getfield 24, 3) := by decide +kernel
theorem d_Reader_appendRepetition_96 : decode c_Reader_appendRepetition 96 = .ok (.iload 4, 2) := by decide +kernel
theorem d_Reader_appendRepetition_98 : decode c_Reader_appendRepetition 98 = .ok (.aload_n 0, 1) := by decide +kernel
theorem d_Reader_appendRepetition_99 : decode c_Reader_appendRepetition 99 = .ok (.getfield 46, 3) := by decide +kernel
theorem d_Reader_appendRepetition_102 : decode c_Reader_appendRepetition 102 = .ok (.invokevirtual 72, 3) := by decide +kernel
theorem d_Reader_appendRepetition_105 : decode c_Reader_appendRepetition 105 = .ok (.aload_n 0, 1) := by decide +kernel
theorem d_Reader_appendRepetition_106 : decode c_Reader_appendRepetition 106 = .ok (.getfield 24, 3) := by decide +kernel
theorem d_Reader_appendRepetition_109 : decode c_Reader_appendRepetition 109 = .ok (.aload_n 0, 1) := by decide +kernel
theorem d_Reader_appendRepetition_110 : decode c_Reader_appendRepetition 110 = .ok (.getfield 136, 3) := by decide +kernel
theorem d_Reader_appendRepetition_113 : decode c_Reader_appendRepetition 113 = .ok (.iload 5, 2) := by decide +kernel
theorem d_Reader_appendRepetition_115 : decode c_Reader_appendRepetition 115 = .ok (.invokevirtual 72, 3) := by decide +kernel
theorem d_Reader_appendRepetition_118 : decode c_Reader_appendRepetition 118 = .ok (.aload_n 0, 1) := by decide +kernel
theorem d_Reader_appendRepetition_119 : decode c_Reader_appendRepetition 119 = .ok (.getfield 24, 3) := by decide +kernel
theorem d_Reader_appendRepetition_122 : decode c_Reader_appendRepetition 122 = .ok (.getfield 152, 3) := by decide +kernel
theorem d_Reader_appendRepetition_125 : decode c_Reader_appendRepetition 125 = .ok (.iload_n 2, 1) := by decide +kernel
theorem d_Reader_appendRepetition_126 : decode c_Reader_appendRepetition 126 = .ok (.iload_n 3, 1) := by decide +kernel
theorem d_Reader_appendRepetition_127 : decode c_Reader_appendRepetition 127 = .ok (.invokestatic 114, 3) := by decide +kernel
theorem d_Reader_appendRepetition_130 : decode c_Reader_appendRepetition 130 = .ok (.aload_n 0, 1) := by decide +kernel
theorem d_Reader_appendRepetition_131 : decode c_Reader_appendRepetition 131 = .ok (.getfield 24, 3) := by decide +kernel
theorem d_Reader_appendRepetition_134 : decode c_Reader_appendRepetition 134 = .ok (.getfield 155, 3) := by decide +kernel
theorem d_Reader_appendRepetition_137 : decode c_Reader_appendRepetition 137 = .ok (.iload_n 2, 1) := by decide +kernel
theorem d_Reader_appendRepetition_138 : decode c_Reader_appendRepetition 138 = .ok (.aload_n 0, 1) := by decide +kernel
theorem d_Reader_appendRepetition_139 : decode c_Reader_appendRepetition 139 = .ok (.getfield 158, 3) := by decide +kernel
theorem d_Reader_appendRepetition_142 : decode c_Reader_appendRepetition 142 = .ok (.invokestatic 114, 3) := by decide +kernel
theorem d_Reader_appendRepetition_145 : decode c_Reader_appendRepetition 145 = .ok (.aload_n 0, 1) := by decide +kernel
theorem d_Reader_appendRepetition_146 : decode c_Reader_appendRepetition 146 = .ok (.getfield 24, 3) := by decide +kernel
theorem d_Reader_appendRepetition_149 : decode c_Reader_appendRepetition 149 = .ok (.getfield 160, 3) := by decide +kernel
theorem d_Reader_appendRepetition_152 : decode c_Reader_appendRepetition 152 = .ok (.iload_n 2, 1) := by decide +kernel
theorem d_Reader_appendRepetition_153 : decode c_Reader_appendRepetition 153 = .ok (.aload_n 0, 1) := by decide +kernel
theorem d_Reader_appendRepetition_154 : decode c_Reader_appendRepetition 154 = .ok (.getfield 163, 3) := by decide +kernel
theorem d_Reader_appendRepetition_157 : decode c_Reader_appendRepetition 157 = .ok (.invokestatic 114, 3) := by decide +kernel
theorem d_Reader_appendRepetition_160 : decode c_Reader_appendRepetition 160 = .ok (.aload_n 0, 1) := by decide +kernel
theorem d_Reader_appendRepetition_161 : decode c_Reader_appendRepetition 161 = .ok (.getfield 24, 3) := by decide +kernel
theorem d_Reader_appendRepetition_164 : decode c_Reader_appendRepetition 164 = .ok (.getfield 165, 3) := by decide +kernel
theorem d_Reader_appendRepetition_167 : decode c_Reader_appendRepetition 167 = .ok (.iload_n 2, 1) := by decide +kernel
theorem d_Reader_appendRepetition_168 : decode c_Reader_appendRepetition 168 = .ok (.iload_n 1, 1) := by decide +kernel
theorem d_Reader_appendRepetition_169 : decode c_Reader_appendRepetition 169 = .ok (.ifCond .eq 7, 3) := by decide +kernel
theorem d_Reader_appendRepetition_172 : decode c_Reader_appendRepetition 172 = .ok (.iconst 1, 1) := by decide +kernel
theorem d_Reader_appendRepetition_173 : decode c_Reader_appendRepetition 173 = .ok (.goto 4, 3) := by decide +kernel
theorem d_Reader_appendRepetition_176 : decode c_Reader_appendRepetition 176 = .ok (.iconst 0, 1) := by decide +kernel
theorem d_Reader_appendRepetition_177 : decode c_Reader_appendRepetition 177 = .ok (.invokestatic 114, 3) := by decide +kernel
theorem d_Reader_appendRepetition_180 : decode c_Reader_appendRepetition 180 = .ok (.aload_n 0, 1) := by decide +kernel
theorem d_Reader_appendRepetition_181 : decode c_Reader_appendRepetition 181 = .ok (.getfield 24, 3) := by decide +kernel
theorem d_Reader_appendRepetition_184 : decode c_Reader_appendRepetition 184 = .ok (.getfield 168, 3) := by decide +kernel
theorem d_Reader_appendRepetition_187 : decode c_Reader_appendRepetition 187 = .ok (.iload_n 2, 1) := by decide +kernel
theorem d_Reader_appendRepetition_188 : decode c_Reader_appendRepetition 188 = .ok (.aload_n 0, 1) := by decide +kernel
theorem d_Reader_appendRepetition_189 : decode c_Reader_appendRepetition 189 = .ok (.getfield 139, 3) := by decide +kernel
theorem d_Reader_appendRepetition_192 : decode c_Reader_appendRepetition 192 = .ok (.invokestatic 114, 3) := by decide +kernel
theorem d_Reader_appendRepetition_195 : decode c_Reader_appendRepetition 195 = .ok (.aload_n 0, 1) := by decide +kernel
theorem d_Reader_appendRepetition_196 : decode c_Reader_appendRepetition 196 = .ok (.getfield 24, 3) := by decide +kernel
theorem d_Reader_appendRepetition_199 : decode c_Reader_appendRepetition 199 = .ok (.getfield 171, 3) := by decide +kernel
theorem d_Reader_appendRepetition_202 : decode c_Reader_appendRepetition 202 = .ok (.iload_n 2, 1) := by decide +kernel
theorem d_Reader_appendRepetition_203 : decode c_Reader_appendRepetition 203 = .ok (.aload_n 0, 1) := by decide +kernel
theorem d_Reader_appendRepetition_204 : decode c_Reader_appendRepetition 204 = .ok (.getfield 24, 3) := by decide +kernel
theorem d_Reader_appendRepetition_207 : decode c_Reader_appendRepetition 207 = .ok (.getfield 118, 3) := by decide +kernel
theorem d_Reader_appendRepetition_210 : decode c_Reader_appendRepetition 210 = .ok (.invokestatic 114, 3) := by decide +kernel
theorem d_Reader_appendRepetition_213 : decode c_Reader_appendRepetition 213 = .ok (.aload_n 0, 1) := by decide +kernel
theorem d_Reader_appendRepetition_214 : decode c_Reader_appendRepetition 214 = .ok (.iload_n 3, 1) := by decide +kernel
theorem d_Reader_appendRepetition_215 : decode c_Reader_appendRepetition 215 = .ok (.iload_n 3, 1) := by decide +kernel
theorem d_Reader_appendRepetition_216 : decode c_Reader_appendRepetition 216 = .ok (.invokevirtual 130, 3) := by decide +kernel
theorem d_Reader_appendRepetition_219 : decode c_Reader_appendRepetition 219 = .ok (.return_, 1) := by decide +kernel
theorem d_Reader_appendAtom_0 : decode c_Reader_appendAtom 0 = .ok (.aload_n 0, 1) := by decide +kernel
theorem d_Reader_appendAtom_1 : decode c_Reader_appendAtom 1 = .ok (.invokevirtual 142, 3) := by decide +kernel
theorem d_Reader_appendAtom_4 : decode c_Reader_appendAtom 4 = .ok (.ifCond .eq 10, 3) := by decide +kernel
theorem d_Reader_appendAtom_7 : decode c_Reader_appendAtom 7 = .ok (.aload_n 0, 1) := by decide +kernel
theorem d_Reader_appendAtom_8 : decode c_Reader_appendAtom 8 = .ok (.invokevirtual 146, 3) := by decide +kernel
theorem d_Reader_appendAtom_11 : decode c_Reader_appendAtom 11 = .ok (.goto 15, 3) := by decide +kernel
theorem d_Reader_appendAtom_14 : decode c_Reader_appendAtom 14 = .ok (.aload_n 0, 1) := by decide +kernel
theorem d_Reader_appendAtom_15 : decode c_Reader_appendAtom 15 = .ok (.aload_n 0, 1) := by decide +kernel
theorem d_Reader_appendAtom_16 : decode c_Reader_appendAtom 16 = .ok (.getfield 46, 3) := by decide +kernel
theorem d_Reader_appendAtom_19 : decode c_Reader_appendAtom 19 = .ok (.aload_n 0, 1) := by decide +kernel
theorem d_Reader_appendAtom_20 : decode c_Reader_appendAtom 20 = .ok (.getfield 136, 3) := by decide +kernel
theorem d_Reader_appendAtom_23 : decode c_Reader_appendAtom 23 = .ok (.invokevirtual 130, 3) := by decide +kernel
theorem d_Reader_appendAtom_26 : decode c_Reader_appendAtom 26 = .ok (.aload_n 0, 1) := by decide +kernel
theorem d_Reader_appendAtom_27 : decode c_Reader_appendAtom 27 = .ok (.iconst (-1), 1) := by decide +kernel
theorem d_Reader_appendAtom_28 : decode c_Reader_appendAtom 28 = .ok (.putfield 46, 3) := by decide +kernel
theorem d_Reader_appendAtom_31 : decode c_Reader_appendAtom 31 = .ok (.return_, 1) := by decide +kernel
theorem d_Reader_tooGreatReference_0 : decode c_Reader_tooGreatReference 0 = .ok (.iconst 0, 1) := by decide +kernel
theorem d_Reader_tooGreatReference_1 : decode c_Reader_tooGreatReference 1 = .ok (.istore_n 1, 1) := by decide +kernel
theorem d_Reader_tooGreatReference_2 : decode c_Reader_tooGreatReference 2 = .ok (.iload_n 1, 1) := by decide +kernel
theorem d_Reader_tooGreatReference_3 : decode c_Reader_tooGreatReference 3 = .ok (.aload_n 0, 1) := by decide +kernel
theorem d_Reader_tooGreatReference_4 : decode c_Reader_tooGreatReference 4 = .ok (.getfield 24, 3) := by decide +kernel
theorem d_Reader_tooGreatReference_7 : decode c_Reader_tooGreatReference 7 = .ok (.getfield 238, 3) := by decide +kernel
theorem d_Reader_tooGreatReference_10 : decode c_Reader_tooGreatReference 10 = .ok (.if_icmp .ge 58, 3) := by decide +kernel
theorem d_Reader_tooGreatReference_13 : decode c_Reader_tooGreatReference 13 = .ok (.aload_n 0, 1) := by decide +kernel
theorem d_Reader_tooGreatReference_14 : decode c_Reader_tooGreatReference 14 = .ok (.getfield 24, 3) := by decide +kernel
theorem d_Reader_tooGreatReference_17 : decode c_Reader_tooGreatReference 17 = .ok (.getfield 127, 3) := by decide +kernel
theorem d_Reader_tooGreatReference_20 : decode c_Reader_tooGreatReference 20 = .ok (.iload_n 1, 1) := by decide +kernel
theorem d_Reader_tooGreatReference_21 : decode c_Reader_tooGreatReference 21 = .ok (.invokestatic 105, 3) := by decide +kernel
theorem d_Reader_tooGreatReference_24 : decode c_Reader_tooGreatReference 24 = .ok (.bipush 6, 2) := by decide +kernel
theorem d_Reader_tooGreatReference_26 : decode c_Reader_tooGreatReference 26 = .ok (.if_icmp .ne 36, 3) := by decide +kernel
theorem d_Reader_tooGreatReference_29 : decode c_Reader_tooGreatReference 29 = .ok (.aload_n 0, 1) := by decide +kernel
theorem d_Reader_tooGreatReference_30 : decode c_Reader_tooGreatReference 30 = .ok (.getfield 24, 3) := by decide +kernel
theorem d_Reader_tooGreatReference_33 : decode c_Reader_tooGreatReference 33 = .ok (.getfield 111, 3) := by decide +kernel
theorem d_Reader_tooGreatReference_36 : decode c_Reader_tooGreatReference 36 = .ok (.iload_n 1, 1) := by decide +kernel
theorem d_Reader_tooGreatReference_37 : decode c_Reader_tooGreatReference 37 = .ok (.invokestatic 105, 3) := by decide +kernel
theorem d_Reader_tooGreatReference_40 : decode c_Reader_tooGreatReference 40 = .ok (.aload_n 0, 1) := by decide +kernel
theorem d_Reader_tooGreatReference_41 : decode c_Reader_tooGreatReference 41 = .ok (.getfield 24, 3) := by decide +kernel
theorem d_Reader_tooGreatReference_44 : decode c_Reader_tooGreatReference 44 = .ok (.getfield 118, 3) := by decide +kernel
theorem d_Reader_tooGreatReference_47 : decode c_Reader_tooGreatReference 47 = .ok (.if_icmp .le 15, 3) := by decide +kernel
theorem d_Reader_tooGreatReference_50 : decode c_Reader_tooGreatReference 50 = .ok (.aload_n 0, 1) := by decide +kernel
theorem d_Reader_tooGreatReference_51 : decode c_Reader_tooGreatReference 51 = .ok (.getfield 24, 3) := by decide +kernel
theorem d_Reader_tooGreatReference_54 : decode c_Reader_tooGreatReference 54 = .ok (.getfield 241, 3) := by decide +kernel
theorem d_Reader_tooGreatReference_57 : decode c_Reader_tooGreatReference 57 = .ok (.iload_n 1, 1) := by decide +kernel
theorem d_Reader_tooGreatReference_58 : decode c_Reader_tooGreatReference 58 = .ok (.invokestatic 105, 3) := by decide +kernel
theorem d_Reader_tooGreatReference_61 : decode c_Reader_tooGreatReference 61 = .ok (.ireturn, 1) := by decide +kernel
theorem d_Reader_tooGreatReference_62 : decode c_Reader_tooGreatReference 62 = .ok (.iinc 1 1, 3) := by decide +kernel
theorem d_Reader_tooGreatReference_65 : decode c_Reader_tooGreatReference 65 = .ok (.goto (-63), 3) := by decide +kernel
theorem d_Reader_tooGreatReference_68 : decode c_Reader_tooGreatReference 68 = .ok (.iconst (-1), 1) := by decide +kernel
theorem d_Reader_tooGreatReference_69 : decode c_Reader_tooGreatReference 69 = .ok (.ireturn, 1) := by decide +kernel
def Reader_readTerm_b235 (N : Nat) (σ : g_S) : Option (Int32 × g_S) := some (0, σ)
theorem Reader_readTerm_p235 (ao aa : Nat → Nat) {X : g_X} (hC : gC X c_Reader_readTerm R_Reader 5 111 2 none) (N : Nat) (σ : g_S) (r : Int32) (σe : g_S) (hf : Reader_readTerm_b235 N σ = some (r, σe)) : gw X (.inl none) (LC ao aa X.2.2.1 σe) (LC ao aa X.2.2.1 σ) [(0, .ref (ao 2))] 235 [] := by
  unfold Reader_readTerm_b235 at hf
  cases hf
  exact gw_vret hC d_Reader_readTerm_235
def Reader_readTerm_b177 (N : Nat) (σ : g_S) : Option (Int32 × g_S) := (Reader_addAssertion N 8 1 σ).bind fun q181 => Reader_readTerm_b235 N q181.2
theorem Reader_readTerm_p177 (ao aa : Nat → Nat) {X : g_X} (hC : gC X c_Reader_readTerm R_Reader 5 111 2 none) (N : Nat) (σ : g_S) (r : Int32) (σe : g_S) (hf : Reader_readTerm_b177 N σ = some (r, σe)) : gw X (.inl none) (LC ao aa X.2.2.1 σe) (LC ao aa X.2.2.1 σ) [(0, .ref (ao 2))] 177 [] := by
  unfold Reader_readTerm_b177 at hf
  refine gw_aload_n hC 0 d_Reader_readTerm_177 rfl rfl ?_
  refine gw_bipush hC 8 d_Reader_readTerm_178 (by decide) ?_
  refine gw_iconst hC 1 d_Reader_readTerm_180 (by decide) ?_
  obtain ⟨q181, hq181, hf⟩ := g_bind hf
  refine gw_callV hC [.int 8, .int 1] [] (Reader_addAssertion_m _ _ _ ao aa N _ _ _ _ _ hq181) kc_Reader_95 2 (g_lay_obj rfl) rfl rfl ⟨by decide, by decide⟩ (Nat.le_of_ble_eq_true rfl) [.int 1, .int 8, .ref (ao 2)] [] rfl rfl d_Reader_readTerm_181 ?_
  refine gw_goto hC 235 d_Reader_readTerm_184 (by decide) ?_
  exact Reader_readTerm_p235 ao aa hC N _ _ _ hf
def Reader_readTerm_b139 (N : Nat) (σ : g_S) : Option (Int32 × g_S) := (Reader_readOpening N σ).bind fun q140 => Reader_readTerm_b235 N q140.2
theorem Reader_readTerm_p139 (ao aa : Nat → Nat) {X : g_X} (hC : gC X c_Reader_readTerm R_Reader 5 111 2 none) (N : Nat) (σ : g_S) (r : Int32) (σe : g_S) (hf : Reader_readTerm_b139 N σ = some (r, σe)) : gw X (.inl none) (LC ao aa X.2.2.1 σe) (LC ao aa X.2.2.1 σ) [(0, .ref (ao 2))] 139 [] := by
  unfold Reader_readTerm_b139 at hf
  refine gw_aload_n hC 0 d_Reader_readTerm_139 rfl rfl ?_
  obtain ⟨q140, hq140, hf⟩ := g_bind hf
  refine gw_callV hC [] [] (Reader_readOpening_m _ _ _ ao aa N _ _ _ hq140) kc_Reader_83 2 (g_lay_obj rfl) rfl rfl ⟨by decide, by decide⟩ (Nat.le_of_ble_eq_true rfl) [.ref (ao 2)] [] rfl rfl d_Reader_readTerm_140 ?_
  refine gw_goto hC 235 d_Reader_readTerm_143 (by decide) ?_
  exact Reader_readTerm_p235 ao aa hC N _ _ _ hf
def Reader_readTerm_b146 (N : Nat) (σ : g_S) : Option (Int32 × g_S) := (Reader_readClosing N σ).bind fun q147 => Reader_readTerm_b235 N q147.2
theorem Reader_readTerm_p146 (ao aa : Nat → Nat) {X : g_X} (hC : gC X c_Reader_readTerm R_Reader 5 111 2 none) (N : Nat) (σ : g_S) (r : Int32) (σe : g_S) (hf : Reader_readTerm_b146 N σ = some (r, σe)) : gw X (.inl none) (LC ao aa X.2.2.1 σe) (LC ao aa X.2.2.1 σ) [(0, .ref (ao 2))] 146 [] := by
  unfold Reader_readTerm_b146 at hf
  refine gw_aload_n hC 0 d_Reader_readTerm_146 rfl rfl ?_
  obtain ⟨q147, hq147, hf⟩ := g_bind hf
  refine gw_callV hC [] [] (Reader_readClosing_m _ _ _ ao aa N _ _ _ hq147) kc_Reader_86 2 (g_lay_obj rfl) rfl rfl ⟨by decide, by decide⟩ (Nat.le_of_ble_eq_true rfl) [.ref (ao 2)] [] rfl rfl d_Reader_readTerm_147 ?_
  refine gw_goto hC 235 d_Reader_readTerm_150 (by decide) ?_
  exact Reader_readTerm_p235 ao aa hC N _ _ _ hf
def Reader_readTerm_b207 (N : Nat) (σ : g_S) : Option (Int32 × g_S) := Reader_readTerm_b235 N (gF σ 13 (σ.1 12))
theorem Reader_readTerm_p207 (ao aa : Nat → Nat) {X : g_X} (hC : gC X c_Reader_readTerm R_Reader 5 111 2 none) (N : Nat) (σ : g_S) (r : Int32) (σe : g_S) (hf : Reader_readTerm_b207 N σ = some (r, σe)) : gw X (.inl none) (LC ao aa X.2.2.1 σe) (LC ao aa X.2.2.1 σ) [(0, .ref (ao 2))] 207 [] := by
  unfold Reader_readTerm_b207 at hf
  refine gw_aload_n hC 0 d_Reader_readTerm_207 rfl rfl ?_
  refine gw_aload_n hC 0 d_Reader_readTerm_208 rfl rfl ?_
  refine Cg12 hC kf_Reader_35 d_Reader_readTerm_209 (σ.1 12) rfl ?_
  refine Cp13 hC kf_Reader_38 d_Reader_readTerm_212 ?_
  refine gw_goto hC 235 d_Reader_readTerm_215 (by decide) ?_
  exact Reader_readTerm_p235 ao aa hC N _ _ _ hf
def Reader_readTerm_b187 (N : Nat) (σ : g_S) : Option (Int32 × g_S) := (Reader_addAtom N 2 0 0 (gF σ 12 ((σ.1 12) + 1))).bind fun q201 => Reader_readTerm_b235 N q201.2
theorem Reader_readTerm_p187 (ao aa : Nat → Nat) {X : g_X} (hC : gC X c_Reader_readTerm R_Reader 5 111 2 none) (N : Nat) (σ : g_S) (r : Int32) (σe : g_S) (hf : Reader_readTerm_b187 N σ = some (r, σe)) : gw X (.inl none) (LC ao aa X.2.2.1 σe) (LC ao aa X.2.2.1 σ) [(0, .ref (ao 2))] 187 [] := by
  unfold Reader_readTerm_b187 at hf
  refine gw_aload_n hC 0 d_Reader_readTerm_187 rfl rfl ?_
  refine gw_dup hC d_Reader_readTerm_188 rfl ?_
  refine Cg12 hC kf_Reader_35 d_Reader_readTerm_189 (σ.1 12) rfl ?_
  refine gw_iconst hC 1 d_Reader_readTerm_192 (by decide) ?_
  refine gw_iadd hC d_Reader_readTerm_193 ?_
  refine Cp12 hC kf_Reader_35 d_Reader_readTerm_194 ?_
  refine gw_aload_n hC 0 d_Reader_readTerm_197 rfl rfl ?_
  refine gw_iconst hC 2 d_Reader_readTerm_198 (by decide) ?_
  refine gw_iconst hC 0 d_Reader_readTerm_199 (by decide) ?_
  refine gw_iconst hC 0 d_Reader_readTerm_200 (by decide) ?_
  obtain ⟨q201, hq201, hf⟩ := g_bind hf
  refine gw_callV hC [.int 2, .int 0, .int 0] [] (Reader_addAtom_m _ _ _ ao aa N _ _ _ _ _ _ hq201) kc_Reader_98 2 (g_lay_obj rfl) rfl rfl ⟨by decide, by decide⟩ (Nat.le_of_ble_eq_true rfl) [.int 0, .int 0, .int 2, .ref (ao 2)] [] rfl rfl d_Reader_readTerm_201 ?_
  refine gw_goto hC 235 d_Reader_readTerm_204 (by decide) ?_
  exact Reader_readTerm_p235 ao aa hC N _ _ _ hf
def Reader_readTerm_b153 (N : Nat) (σ : g_S) : Option (Int32 × g_S) := (Reader_readClass N σ).bind fun q154 => Reader_readTerm_b235 N q154.2
theorem Reader_readTerm_p153 (ao aa : Nat → Nat) {X : g_X} (hC : gC X c_Reader_readTerm R_Reader 5 111 2 none) (N : Nat) (σ : g_S) (r : Int32) (σe : g_S) (hf : Reader_readTerm_b153 N σ = some (r, σe)) : gw X (.inl none) (LC ao aa X.2.2.1 σe) (LC ao aa X.2.2.1 σ) [(0, .ref (ao 2))] 153 [] := by
  unfold Reader_readTerm_b153 at hf
  refine gw_aload_n hC 0 d_Reader_readTerm_153 rfl rfl ?_
  obtain ⟨q154, hq154, hf⟩ := g_bind hf
  refine gw_callV hC [] [] (Reader_readClass_m _ _ _ ao aa N _ _ _ hq154) kc_Reader_89 2 (g_lay_obj rfl) rfl rfl ⟨by decide, by decide⟩ (Nat.le_of_ble_eq_true rfl) [.ref (ao 2)] [] rfl rfl d_Reader_readTerm_154 ?_
  refine gw_goto hC 235 d_Reader_readTerm_157 (by decide) ?_
  exact Reader_readTerm_p235 ao aa hC N _ _ _ hf
def Reader_readTerm_b160 (N : Nat) (σ : g_S) : Option (Int32 × g_S) := (Reader_readBackslash N σ).bind fun q161 => Reader_readTerm_b235 N q161.2
theorem Reader_readTerm_p160 (ao aa : Nat → Nat) {X : g_X} (hC : gC X c_Reader_readTerm R_Reader 5 111 2 none) (N : Nat) (σ : g_S) (r : Int32) (σe : g_S) (hf : Reader_readTerm_b160 N σ = some (r, σe)) : gw X (.inl none) (LC ao aa X.2.2.1 σe) (LC ao aa X.2.2.1 σ) [(0, .ref (ao 2))] 160 [] := by
  unfold Reader_readTerm_b160 at hf
  refine gw_aload_n hC 0 d_Reader_readTerm_160 rfl rfl ?_
  obtain ⟨q161, hq161, hf⟩ := g_bind hf
  refine gw_callV hC [] [] (Reader_readBackslash_m _ _ _ ao aa N _ _ _ hq161) kc_Reader_92 2 (g_lay_obj rfl) rfl rfl ⟨by decide, by decide⟩ (Nat.le_of_ble_eq_true rfl) [.ref (ao 2)] [] rfl rfl d_Reader_readTerm_161 ?_
  refine gw_goto hC 235 d_Reader_readTerm_164 (by decide) ?_
  exact Reader_readTerm_p235 ao aa hC N _ _ _ hf
def Reader_readTerm_b167 (N : Nat) (σ : g_S) : Option (Int32 × g_S) := (Reader_addAssertion N 7 1 σ).bind fun q171 => Reader_readTerm_b235 N q171.2
theorem Reader_readTerm_p167 (ao aa : Nat → Nat) {X : g_X} (hC : gC X c_Reader_readTerm R_Reader 5 111 2 none) (N : Nat) (σ : g_S) (r : Int32) (σe : g_S) (hf : Reader_readTerm_b167 N σ = some (r, σe)) : gw X (.inl none) (LC ao aa X.2.2.1 σe) (LC ao aa X.2.2.1 σ) [(0, .ref (ao 2))] 167 [] := by
  unfold Reader_readTerm_b167 at hf
  refine gw_aload_n hC 0 d_Reader_readTerm_167 rfl rfl ?_
  refine gw_bipush hC 7 d_Reader_readTerm_168 (by decide) ?_
  refine gw_iconst hC 1 d_Reader_readTerm_170 (by decide) ?_
  obtain ⟨q171, hq171, hf⟩ := g_bind hf
  refine gw_callV hC [.int 7, .int 1] [] (Reader_addAssertion_m _ _ _ ao aa N _ _ _ _ _ hq171) kc_Reader_95 2 (g_lay_obj rfl) rfl rfl ⟨by decide, by decide⟩ (Nat.le_of_ble_eq_true rfl) [.int 1, .int 7, .ref (ao 2)] [] rfl rfl d_Reader_readTerm_171 ?_
  refine gw_goto hC 235 d_Reader_readTerm_174 (by decide) ?_
  exact Reader_readTerm_p235 ao aa hC N _ _ _ hf
def Reader_readTerm_b132 (N : Nat) (σ : g_S) : Option (Int32 × g_S) := (Reader_readBar N σ).bind fun q133 => Reader_readTerm_b235 N q133.2
theorem Reader_readTerm_p132 (ao aa : Nat → Nat) {X : g_X} (hC : gC X c_Reader_readTerm R_Reader 5 111 2 none) (N : Nat) (σ : g_S) (r : Int32) (σe : g_S) (hf : Reader_readTerm_b132 N σ = some (r, σe)) : gw X (.inl none) (LC ao aa X.2.2.1 σe) (LC ao aa X.2.2.1 σ) [(0, .ref (ao 2))] 132 [] := by
  unfold Reader_readTerm_b132 at hf
  refine gw_aload_n hC 0 d_Reader_readTerm_132 rfl rfl ?_
  obtain ⟨q133, hq133, hf⟩ := g_bind hf
  refine gw_callV hC [] [] (Reader_readBar_m _ _ _ ao aa N _ _ _ hq133) kc_Reader_80 2 (g_lay_obj rfl) rfl rfl ⟨by decide, by decide⟩ (Nat.le_of_ble_eq_true rfl) [.ref (ao 2)] [] rfl rfl d_Reader_readTerm_133 ?_
  refine gw_goto hC 235 d_Reader_readTerm_136 (by decide) ?_
  exact Reader_readTerm_p235 ao aa hC N _ _ _ hf
def Reader_readTerm_b218 (N : Nat) (x1 : Int32) (σ : g_S) : Option (Int32 × g_S) := (Reader_addAtom N 1 x1 0 (gF σ 12 ((σ.1 12) + 1))).bind fun q232 => Reader_readTerm_b235 N q232.2
theorem Reader_readTerm_p218 (ao aa : Nat → Nat) {X : g_X} (hC : gC X c_Reader_readTerm R_Reader 5 111 2 none) (N : Nat) (x1 : Int32) (σ : g_S) (r : Int32) (σe : g_S) (hf : Reader_readTerm_b218 N x1 σ = some (r, σe)) : gw X (.inl none) (LC ao aa X.2.2.1 σe) (LC ao aa X.2.2.1 σ) [(0, .ref (ao 2)), (1, .int x1)] 218 [] := by
  unfold Reader_readTerm_b218 at hf
  refine gw_aload_n hC 0 d_Reader_readTerm_218 rfl rfl ?_
  refine gw_dup hC d_Reader_readTerm_219 rfl ?_
  refine Cg12 hC kf_Reader_35 d_Reader_readTerm_220 (σ.1 12) rfl ?_
  refine gw_iconst hC 1 d_Reader_readTerm_223 (by decide) ?_
  refine gw_iadd hC d_Reader_readTerm_224 ?_
  refine Cp12 hC kf_Reader_35 d_Reader_readTerm_225 ?_
  refine gw_aload_n hC 0 d_Reader_readTerm_228 rfl rfl ?_
  refine gw_iconst hC 1 d_Reader_readTerm_229 (by decide) ?_
  refine gw_iload_n hC 1 d_Reader_readTerm_230 rfl rfl ?_
  refine gw_iconst hC 0 d_Reader_readTerm_231 (by decide) ?_
  obtain ⟨q232, hq232, hf⟩ := g_bind hf
  refine gw_callV hC [.int 1, .int x1, .int 0] [] (Reader_addAtom_m _ _ _ ao aa N _ _ _ _ _ _ hq232) kc_Reader_98 2 (g_lay_obj rfl) rfl rfl ⟨by decide, by decide⟩ (Nat.le_of_ble_eq_true rfl) [.int 0, .int x1, .int 1, .ref (ao 2)] [] rfl rfl d_Reader_readTerm_232 ?_
  refine gw_lv [0] rfl ?_
  exact Reader_readTerm_p235 ao aa hC N _ _ _ hf
def Reader_readTerm_b0 (N : Nat) (σ : g_S) : Option (Int32 × g_S) := (Reader_unitAt N (σ.1 12) σ).bind fun q5 => if q5.1 = 36 then Reader_readTerm_b177 N q5.2 else if q5.1 = 40 then Reader_readTerm_b139 N q5.2 else if q5.1 = 41 then Reader_readTerm_b146 N q5.2 else if q5.1 = 42 then Reader_readTerm_b207 N q5.2 else if q5.1 = 43 then Reader_readTerm_b207 N q5.2 else if q5.1 = 46 then Reader_readTerm_b187 N q5.2 else if q5.1 = 63 then Reader_readTerm_b207 N q5.2 else if q5.1 = 91 then Reader_readTerm_b153 N q5.2 else if q5.1 = 92 then Reader_readTerm_b160 N q5.2 else if q5.1 = 93 then Reader_readTerm_b207 N q5.2 else if q5.1 = 94 then Reader_readTerm_b167 N q5.2 else if q5.1 = 123 then Reader_readTerm_b207 N q5.2 else if q5.1 = 124 then Reader_readTerm_b132 N q5.2 else if q5.1 = 125 then Reader_readTerm_b207 N q5.2 else Reader_readTerm_b218 N q5.1 q5.2
theorem Reader_readTerm_p0 (ao aa : Nat → Nat) {X : g_X} (hC : gC X c_Reader_readTerm R_Reader 5 111 2 none) (N : Nat) (σ : g_S) (r : Int32) (σe : g_S) (hf : Reader_readTerm_b0 N σ = some (r, σe)) : gw X (.inl none) (LC ao aa X.2.2.1 σe) (LC ao aa X.2.2.1 σ) [(0, .ref (ao 2))] 0 [] := by
  unfold Reader_readTerm_b0 at hf
  refine gw_aload_n hC 0 d_Reader_readTerm_0 rfl rfl ?_
  refine gw_aload_n hC 0 d_Reader_readTerm_1 rfl rfl ?_
  refine Cg12 hC kf_Reader_35 d_Reader_readTerm_2 (σ.1 12) rfl ?_
  obtain ⟨q5, hq5, hf⟩ := g_bind hf
  refine gw_callV hC [.int (σ.1 12)] [] (Reader_unitAt_m _ _ _ ao aa N _ _ _ _ hq5) kc_Reader_76 2 (g_lay_obj rfl) rfl rfl ⟨by decide, by decide⟩ (Nat.le_of_ble_eq_true rfl) [.int (σ.1 12), .ref (ao 2)] [.int q5.1] rfl rfl d_Reader_readTerm_5 ?_
  refine gw_istore_n hC [(1, .int q5.1), (0, .ref (ao 2))] d_Reader_readTerm_8 rfl (by decide) rfl ?_
  refine gw_iload_n hC 0 d_Reader_readTerm_9 rfl rfl ?_
  by_cases hh0 : q5.1 = 36
  · rw [if_pos hh0] at hf
    refine gw_lookup hC 167 177 d_Reader_readTerm_10 (by decide) (by rw [hh0]; decide +kernel) (by decide) ?_
    refine gw_lv [1] rfl ?_
    exact Reader_readTerm_p177 ao aa hC N _ _ _ hf
  · rw [if_neg hh0] at hf
    by_cases hh1 : q5.1 = 40
    · rw [if_pos hh1] at hf
      refine gw_lookup hC 129 139 d_Reader_readTerm_10 (by decide) (by rw [hh1]; decide +kernel) (by decide) ?_
      refine gw_lv [1] rfl ?_
      exact Reader_readTerm_p139 ao aa hC N _ _ _ hf
    · rw [if_neg hh1] at hf
      by_cases hh2 : q5.1 = 41
      · rw [if_pos hh2] at hf
        refine gw_lookup hC 136 146 d_Reader_readTerm_10 (by decide) (by rw [hh2]; decide +kernel) (by decide) ?_
        refine gw_lv [1] rfl ?_
        exact Reader_readTerm_p146 ao aa hC N _ _ _ hf
      · rw [if_neg hh2] at hf
        by_cases hh3 : q5.1 = 42
        · rw [if_pos hh3] at hf
          refine gw_lookup hC 197 207 d_Reader_readTerm_10 (by decide) (by rw [hh3]; decide +kernel) (by decide) ?_
          refine gw_lv [1] rfl ?_
          exact Reader_readTerm_p207 ao aa hC N _ _ _ hf
        · rw [if_neg hh3] at hf
          by_cases hh4 : q5.1 = 43
          · rw [if_pos hh4] at hf
            refine gw_lookup hC 197 207 d_Reader_readTerm_10 (by decide) (by rw [hh4]; decide +kernel) (by decide) ?_
            refine gw_lv [1] rfl ?_
            exact Reader_readTerm_p207 ao aa hC N _ _ _ hf
          · rw [if_neg hh4] at hf
            by_cases hh5 : q5.1 = 46
            · rw [if_pos hh5] at hf
              refine gw_lookup hC 177 187 d_Reader_readTerm_10 (by decide) (by rw [hh5]; decide +kernel) (by decide) ?_
              refine gw_lv [1] rfl ?_
              exact Reader_readTerm_p187 ao aa hC N _ _ _ hf
            · rw [if_neg hh5] at hf
              by_cases hh6 : q5.1 = 63
              · rw [if_pos hh6] at hf
                refine gw_lookup hC 197 207 d_Reader_readTerm_10 (by decide) (by rw [hh6]; decide +kernel) (by decide) ?_
                refine gw_lv [1] rfl ?_
                exact Reader_readTerm_p207 ao aa hC N _ _ _ hf
              · rw [if_neg hh6] at hf
                by_cases hh7 : q5.1 = 91
                · rw [if_pos hh7] at hf
                  refine gw_lookup hC 143 153 d_Reader_readTerm_10 (by decide) (by rw [hh7]; decide +kernel) (by decide) ?_
                  refine gw_lv [1] rfl ?_
                  exact Reader_readTerm_p153 ao aa hC N _ _ _ hf
                · rw [if_neg hh7] at hf
                  by_cases hh8 : q5.1 = 92
                  · rw [if_pos hh8] at hf
                    refine gw_lookup hC 150 160 d_Reader_readTerm_10 (by decide) (by rw [hh8]; decide +kernel) (by decide) ?_
                    refine gw_lv [1] rfl ?_
                    exact Reader_readTerm_p160 ao aa hC N _ _ _ hf
                  · rw [if_neg hh8] at hf
                    by_cases hh9 : q5.1 = 93
                    · rw [if_pos hh9] at hf
                      refine gw_lookup hC 197 207 d_Reader_readTerm_10 (by decide) (by rw [hh9]; decide +kernel) (by decide) ?_
                      refine gw_lv [1] rfl ?_
                      exact Reader_readTerm_p207 ao aa hC N _ _ _ hf
                    · rw [if_neg hh9] at hf
                      by_cases hh10 : q5.1 = 94
                      · rw [if_pos hh10] at hf
                        refine gw_lookup hC 157 167 d_Reader_readTerm_10 (by decide) (by rw [hh10]; decide +kernel) (by decide) ?_
                        refine gw_lv [1] rfl ?_
                        exact Reader_readTerm_p167 ao aa hC N _ _ _ hf
                      · rw [if_neg hh10] at hf
                        by_cases hh11 : q5.1 = 123
                        · rw [if_pos hh11] at hf
                          refine gw_lookup hC 197 207 d_Reader_readTerm_10 (by decide) (by rw [hh11]; decide +kernel) (by decide) ?_
                          refine gw_lv [1] rfl ?_
                          exact Reader_readTerm_p207 ao aa hC N _ _ _ hf
                        · rw [if_neg hh11] at hf
                          by_cases hh12 : q5.1 = 124
                          · rw [if_pos hh12] at hf
                            refine gw_lookup hC 122 132 d_Reader_readTerm_10 (by decide) (by rw [hh12]; decide +kernel) (by decide) ?_
                            refine gw_lv [1] rfl ?_
                            exact Reader_readTerm_p132 ao aa hC N _ _ _ hf
                          · rw [if_neg hh12] at hf
                            by_cases hh13 : q5.1 = 125
                            · rw [if_pos hh13] at hf
                              refine gw_lookup hC 197 207 d_Reader_readTerm_10 (by decide) (by rw [hh13]; decide +kernel) (by decide) ?_
                              refine gw_lv [1] rfl ?_
                              exact Reader_readTerm_p207 ao aa hC N _ _ _ hf
                            · rw [if_neg hh13] at hf
                              refine gw_lookup hC 208 218 d_Reader_readTerm_10 (by decide) (g_lk hh0 (by decide) (g_lk hh1 (by decide) (g_lk hh2 (by decide) (g_lk hh3 (by decide) (g_lk hh4 (by decide) (g_lk hh5 (by decide) (g_lk hh6 (by decide) (g_lk hh7 (by decide) (g_lk hh8 (by decide) (g_lk hh9 (by decide) (g_lk hh10 (by decide) (g_lk hh11 (by decide) (g_lk hh12 (by decide) (g_lk hh13 (by decide) rfl)))))))))))))) (by decide) ?_
                              refine gw_lv [1, 0] rfl ?_
                              exact Reader_readTerm_p218 ao aa hC N _ _ _ _ hf
def Reader_readTerm (N : Nat) (σ : g_S) : Option (Int32 × g_S) := Reader_readTerm_b0 N  σ
theorem Reader_readTerm_m (l : Launch) (D : va_G) (cA : ClassId) (ao aa : Nat → Nat) (N : Nat) (σ : g_S) (r : Int32) (σe : g_S) (hf : Reader_readTerm N σ = some (r, σe)) : Mt l D cA y_Reader_readTerm c_Reader_readTerm 2 none 5 111 [.ref (ao 2)] (LC ao aa cA σ) none (LC ao aa cA σe) := by
  refine g_met (by decide +kernel) (by simp [lg_sl, Value.category]) (fun X e1 e2 e3 hC => ?_)
  subst e1 e2 e3
  refine gw_lv [0] rfl ?_
  exact Reader_readTerm_p0 ao aa hC N _ (r) _ hf
def Reader_takeSign_b0 (N : Nat) (x1 : Int32) (x2 : Int32) (σ : g_S) : Option (Int32 × g_S) := some (1, (gF (gF (gF σ 17 x1) 18 x2) 12 ((σ.1 12) + 1)))
theorem Reader_takeSign_p0 (ao aa : Nat → Nat) {X : g_X} (hC : gC X c_Reader_takeSign R_Reader 0 0 3 (some .boolean)) (N : Nat) (x1 : Int32) (x2 : Int32) (σ : g_S) (r : Int32) (σe : g_S) (hf : Reader_takeSign_b0 N x1 x2 σ = some (r, σe)) : gw X (.inl (some (.int r))) (LC ao aa X.2.2.1 σe) (LC ao aa X.2.2.1 σ) [(0, .ref (ao 2)), (1, .int x1), (2, .int x2)] 0 [] := by
  unfold Reader_takeSign_b0 at hf
  refine gw_aload_n hC 0 d_Reader_takeSign_0 rfl rfl ?_
  refine gw_iload_n hC 1 d_Reader_takeSign_1 rfl rfl ?_
  refine Cp17 hC kf_Reader_158 d_Reader_takeSign_2 ?_
  refine gw_aload_n hC 0 d_Reader_takeSign_5 rfl rfl ?_
  refine gw_iload_n hC 2 d_Reader_takeSign_6 rfl rfl ?_
  refine Cp18 hC kf_Reader_163 d_Reader_takeSign_7 ?_
  refine gw_aload_n hC 0 d_Reader_takeSign_10 rfl rfl ?_
  refine gw_dup hC d_Reader_takeSign_11 rfl ?_
  refine Cg12 hC kf_Reader_35 d_Reader_takeSign_12 (σ.1 12) rfl ?_
  refine gw_iconst hC 1 d_Reader_takeSign_15 (by decide) ?_
  refine gw_iadd hC d_Reader_takeSign_16 ?_
  refine Cp12 hC kf_Reader_35 d_Reader_takeSign_17 ?_
  refine gw_iconst hC 1 d_Reader_takeSign_20 (by decide) ?_
  cases hf
  exact gw_zret hC (by decide) d_Reader_takeSign_21
def Reader_takeSign (N : Nat) (x1 : Int32) (x2 : Int32) (σ : g_S) : Option (Int32 × g_S) := Reader_takeSign_b0 N x1 x2 σ
theorem Reader_takeSign_m (l : Launch) (D : va_G) (cA : ClassId) (ao aa : Nat → Nat) (N : Nat) (x1 : Int32) (x2 : Int32) (σ : g_S) (r : Int32) (σe : g_S) (hf : Reader_takeSign N x1 x2 σ = some (r, σe)) : Mt l D cA y_Reader_takeSign c_Reader_takeSign 3 (some .boolean) 0 0 [.ref (ao 2), .int x1, .int x2] (LC ao aa cA σ) (some (.int r)) (LC ao aa cA σe) := by
  refine g_met (by decide +kernel) (by simp [lg_sl, Value.category]) (fun X e1 e2 e3 hC => ?_)
  subst e1 e2 e3
  refine gw_lv [0, 1, 2] rfl ?_
  exact Reader_takeSign_p0 ao aa hC N _ _ _ (r) _ hf
def Reader_isAbove_b91 (N : Nat) (σ : g_S) : Option (Int32 × g_S) := some (0, σ)
theorem Reader_isAbove_p91 (ao aa : Nat → Nat) {X : g_X} (hC : gC X c_Reader_isAbove R_Reader 1 21 8 (some .boolean)) (N : Nat) (σ : g_S) (r : Int32) (σe : g_S) (hf : Reader_isAbove_b91 N σ = some (r, σe)) : gw X (.inl (some (.int r))) (LC ao aa X.2.2.1 σe) (LC ao aa X.2.2.1 σ) [(0, .ref (ao 2))] 91 [] := by
  unfold Reader_isAbove_b91 at hf
  refine gw_iconst hC 0 d_Reader_isAbove_91 (by decide) ?_
  cases hf
  exact gw_zret hC (by decide) d_Reader_isAbove_92
def Reader_isAbove_b85 (N : Nat) (k12 : Int32 → Int32 → Int32 → Int32 → Int32 → g_S → Option (Int32 × g_S)) (x1 : Int32) (x2 : Int32) (x3 : Int32) (x4 : Int32) (x5 : Int32) (σ : g_S) : Option (Int32 × g_S) := k12 x1 x2 x3 x4 (x5 + (-1)) σ
theorem Reader_isAbove_p85 (ao aa : Nat → Nat) {X : g_X} (hC : gC X c_Reader_isAbove R_Reader 1 21 8 (some .boolean)) (N : Nat) (k12 : Int32 → Int32 → Int32 → Int32 → Int32 → g_S → Option (Int32 × g_S)) (hk12 : ∀ (x1 : Int32) (x2 : Int32) (x3 : Int32) (x4 : Int32) (x5 : Int32) (σ : g_S) (r : Int32) (σe : g_S), k12 x1 x2 x3 x4 x5 σ = some (r, σe) → gw X (.inl (some (.int r))) (LC ao aa X.2.2.1 σe) (LC ao aa X.2.2.1 σ) [(0, .ref (ao 2)), (1, .int x1), (2, .int x2), (3, .int x3), (4, .int x4), (5, .int x5)] 12 []) (x1 : Int32) (x2 : Int32) (x3 : Int32) (x4 : Int32) (x5 : Int32) (σ : g_S) (r : Int32) (σe : g_S) (hf : Reader_isAbove_b85 N k12 x1 x2 x3 x4 x5 σ = some (r, σe)) : gw X (.inl (some (.int r))) (LC ao aa X.2.2.1 σe) (LC ao aa X.2.2.1 σ) [(0, .ref (ao 2)), (1, .int x1), (2, .int x2), (3, .int x3), (4, .int x4), (5, .int x5)] 85 [] := by
  unfold Reader_isAbove_b85 at hf
  refine gw_iinc hC (x5 + (-1)) 5 [(5, .int (x5 + (-1))), (0, .ref (ao 2)), (1, .int x1), (2, .int x2), (3, .int x3), (4, .int x4)] d_Reader_isAbove_85 rfl rfl (by decide) rfl ?_
  refine gw_goto hC 12 d_Reader_isAbove_88 (by decide) ?_
  refine gw_lv [1, 2, 3, 4, 5, 0] rfl ?_
  exact hk12 _ _ _ _ _ _ _ _ hf
def Reader_isAbove_b84 (N : Nat) (s0 : Int32) (σ : g_S) : Option (Int32 × g_S) := if gB s0 = true then some (s0, σ) else none
theorem Reader_isAbove_p84 (ao aa : Nat → Nat) {X : g_X} (hC : gC X c_Reader_isAbove R_Reader 1 21 8 (some .boolean)) (N : Nat) (s0 : Int32) (σ : g_S) (r : Int32) (σe : g_S) (hf : Reader_isAbove_b84 N s0 σ = some (r, σe)) : gw X (.inl (some (.int r))) (LC ao aa X.2.2.1 σe) (LC ao aa X.2.2.1 σ) [(0, .ref (ao 2))] 84 [.int s0] := by
  unfold Reader_isAbove_b84 at hf
  obtain ⟨hg84, hf⟩ := g_guard hf
  cases hf
  exact gw_zret hC hg84 d_Reader_isAbove_84
def Reader_isAbove_b83 (N : Nat) (σ : g_S) : Option (Int32 × g_S) := Reader_isAbove_b84 N 0 σ
theorem Reader_isAbove_p83 (ao aa : Nat → Nat) {X : g_X} (hC : gC X c_Reader_isAbove R_Reader 1 21 8 (some .boolean)) (N : Nat) (σ : g_S) (r : Int32) (σe : g_S) (hf : Reader_isAbove_b83 N σ = some (r, σe)) : gw X (.inl (some (.int r))) (LC ao aa X.2.2.1 σe) (LC ao aa X.2.2.1 σ) [(0, .ref (ao 2))] 83 [] := by
  unfold Reader_isAbove_b83 at hf
  refine gw_iconst hC 0 d_Reader_isAbove_83 (by decide) ?_
  exact Reader_isAbove_p84 ao aa hC N _ _ _ _ hf
def Reader_isAbove_b79 (N : Nat) (σ : g_S) : Option (Int32 × g_S) := Reader_isAbove_b84 N 1 σ
theorem Reader_isAbove_p79 (ao aa : Nat → Nat) {X : g_X} (hC : gC X c_Reader_isAbove R_Reader 1 21 8 (some .boolean)) (N : Nat) (σ : g_S) (r : Int32) (σe : g_S) (hf : Reader_isAbove_b79 N σ = some (r, σe)) : gw X (.inl (some (.int r))) (LC ao aa X.2.2.1 σe) (LC ao aa X.2.2.1 σ) [(0, .ref (ao 2))] 79 [] := by
  unfold Reader_isAbove_b79 at hf
  refine gw_iconst hC 1 d_Reader_isAbove_79 (by decide) ?_
  refine gw_goto hC 84 d_Reader_isAbove_80 (by decide) ?_
  exact Reader_isAbove_p84 ao aa hC N _ _ _ _ hf
def Reader_isAbove_b72 (N : Nat) (x6 : Int32) (x7 : Int32) (σ : g_S) : Option (Int32 × g_S) := if x6 ≤ x7 then Reader_isAbove_b83 N σ else Reader_isAbove_b79 N σ
theorem Reader_isAbove_p72 (ao aa : Nat → Nat) {X : g_X} (hC : gC X c_Reader_isAbove R_Reader 1 21 8 (some .boolean)) (N : Nat) (x6 : Int32) (x7 : Int32) (σ : g_S) (r : Int32) (σe : g_S) (hf : Reader_isAbove_b72 N x6 x7 σ = some (r, σe)) : gw X (.inl (some (.int r))) (LC ao aa X.2.2.1 σe) (LC ao aa X.2.2.1 σ) [(0, .ref (ao 2)), (6, .int x6), (7, .int x7)] 72 [] := by
  unfold Reader_isAbove_b72 at hf
  refine gw_iload hC 1 d_Reader_isAbove_72 rfl ?_
  refine gw_iload hC 2 d_Reader_isAbove_74 rfl ?_
  refine gw_icmp_le hC 83 d_Reader_isAbove_76 (by decide) (fun hh => ?_) (fun hh => ?_)
  · rw [if_pos hh] at hf
    refine gw_lv [0] rfl ?_
    exact Reader_isAbove_p83 ao aa hC N _ _ _ hf
  · rw [if_neg hh] at hf
    refine gw_lv [0] rfl ?_
    exact Reader_isAbove_p79 ao aa hC N _ _ _ hf
def Reader_isAbove_b63 (N : Nat) (k12 : Int32 → Int32 → Int32 → Int32 → Int32 → g_S → Option (Int32 × g_S)) (x1 : Int32) (x2 : Int32) (x3 : Int32) (x4 : Int32) (x5 : Int32) (x6 : Int32) (s0 : Int32) (σ : g_S) : Option (Int32 × g_S) := if x6 = s0 then Reader_isAbove_b85 N k12 x1 x2 x3 x4 x5 σ else Reader_isAbove_b72 N x6 s0 σ
theorem Reader_isAbove_p63 (ao aa : Nat → Nat) {X : g_X} (hC : gC X c_Reader_isAbove R_Reader 1 21 8 (some .boolean)) (N : Nat) (k12 : Int32 → Int32 → Int32 → Int32 → Int32 → g_S → Option (Int32 × g_S)) (hk12 : ∀ (x1 : Int32) (x2 : Int32) (x3 : Int32) (x4 : Int32) (x5 : Int32) (σ : g_S) (r : Int32) (σe : g_S), k12 x1 x2 x3 x4 x5 σ = some (r, σe) → gw X (.inl (some (.int r))) (LC ao aa X.2.2.1 σe) (LC ao aa X.2.2.1 σ) [(0, .ref (ao 2)), (1, .int x1), (2, .int x2), (3, .int x3), (4, .int x4), (5, .int x5)] 12 []) (x1 : Int32) (x2 : Int32) (x3 : Int32) (x4 : Int32) (x5 : Int32) (x6 : Int32) (s0 : Int32) (σ : g_S) (r : Int32) (σe : g_S) (hf : Reader_isAbove_b63 N k12 x1 x2 x3 x4 x5 x6 s0 σ = some (r, σe)) : gw X (.inl (some (.int r))) (LC ao aa X.2.2.1 σe) (LC ao aa X.2.2.1 σ) [(0, .ref (ao 2)), (1, .int x1), (2, .int x2), (3, .int x3), (4, .int x4), (5, .int x5), (6, .int x6)] 63 [.int s0] := by
  unfold Reader_isAbove_b63 at hf
  refine gw_istore hC [(7, .int s0), (0, .ref (ao 2)), (1, .int x1), (2, .int x2), (3, .int x3), (4, .int x4), (5, .int x5), (6, .int x6)] d_Reader_isAbove_63 (by decide) rfl ?_
  refine gw_iload hC 7 d_Reader_isAbove_65 rfl ?_
  refine gw_iload hC 0 d_Reader_isAbove_67 rfl ?_
  refine gw_icmp_eq hC 85 d_Reader_isAbove_69 (by decide) (fun hh => ?_) (fun hh => ?_)
  · rw [if_pos hh] at hf
    refine gw_lv [1, 2, 3, 4, 5, 6] rfl ?_
    exact Reader_isAbove_p85 ao aa hC N _ hk12 _ _ _ _ _ _ _ _ hf
  · rw [if_neg hh] at hf
    refine gw_lv [1, 7, 0] rfl ?_
    exact Reader_isAbove_p72 ao aa hC N _ _ _ _ _ hf
def Reader_isAbove_b61 (N : Nat) (k12 : Int32 → Int32 → Int32 → Int32 → Int32 → g_S → Option (Int32 × g_S)) (x1 : Int32) (x2 : Int32) (x3 : Int32) (x4 : Int32) (x5 : Int32) (x6 : Int32) (σ : g_S) : Option (Int32 × g_S) := Reader_isAbove_b63 N k12 x1 x2 x3 x4 x5 x6 48 σ
theorem Reader_isAbove_p61 (ao aa : Nat → Nat) {X : g_X} (hC : gC X c_Reader_isAbove R_Reader 1 21 8 (some .boolean)) (N : Nat) (k12 : Int32 → Int32 → Int32 → Int32 → Int32 → g_S → Option (Int32 × g_S)) (hk12 : ∀ (x1 : Int32) (x2 : Int32) (x3 : Int32) (x4 : Int32) (x5 : Int32) (σ : g_S) (r : Int32) (σe : g_S), k12 x1 x2 x3 x4 x5 σ = some (r, σe) → gw X (.inl (some (.int r))) (LC ao aa X.2.2.1 σe) (LC ao aa X.2.2.1 σ) [(0, .ref (ao 2)), (1, .int x1), (2, .int x2), (3, .int x3), (4, .int x4), (5, .int x5)] 12 []) (x1 : Int32) (x2 : Int32) (x3 : Int32) (x4 : Int32) (x5 : Int32) (x6 : Int32) (σ : g_S) (r : Int32) (σe : g_S) (hf : Reader_isAbove_b61 N k12 x1 x2 x3 x4 x5 x6 σ = some (r, σe)) : gw X (.inl (some (.int r))) (LC ao aa X.2.2.1 σe) (LC ao aa X.2.2.1 σ) [(0, .ref (ao 2)), (1, .int x1), (2, .int x2), (3, .int x3), (4, .int x4), (5, .int x5), (6, .int x6)] 61 [] := by
  unfold Reader_isAbove_b61 at hf
  refine gw_bipush hC 48 d_Reader_isAbove_61 (by decide) ?_
  exact Reader_isAbove_p63 ao aa hC N _ hk12 _ _ _ _ _ _ _ _ _ _ hf
def Reader_isAbove_b49 (N : Nat) (k12 : Int32 → Int32 → Int32 → Int32 → Int32 → g_S → Option (Int32 × g_S)) (x1 : Int32) (x2 : Int32) (x3 : Int32) (x4 : Int32) (x5 : Int32) (x6 : Int32) (σ : g_S) : Option (Int32 × g_S) := (Reader_unitAt N (x4 - x5) σ).bind fun q55 => Reader_isAbove_b63 N k12 x1 x2 x3 x4 x5 x6 q55.1 q55.2
theorem Reader_isAbove_p49 (ao aa : Nat → Nat) {X : g_X} (hC : gC X c_Reader_isAbove R_Reader 1 21 8 (some .boolean)) (N : Nat) (k12 : Int32 → Int32 → Int32 → Int32 → Int32 → g_S → Option (Int32 × g_S)) (hk12 : ∀ (x1 : Int32) (x2 : Int32) (x3 : Int32) (x4 : Int32) (x5 : Int32) (σ : g_S) (r : Int32) (σe : g_S), k12 x1 x2 x3 x4 x5 σ = some (r, σe) → gw X (.inl (some (.int r))) (LC ao aa X.2.2.1 σe) (LC ao aa X.2.2.1 σ) [(0, .ref (ao 2)), (1, .int x1), (2, .int x2), (3, .int x3), (4, .int x4), (5, .int x5)] 12 []) (x1 : Int32) (x2 : Int32) (x3 : Int32) (x4 : Int32) (x5 : Int32) (x6 : Int32) (σ : g_S) (r : Int32) (σe : g_S) (hf : Reader_isAbove_b49 N k12 x1 x2 x3 x4 x5 x6 σ = some (r, σe)) : gw X (.inl (some (.int r))) (LC ao aa X.2.2.1 σe) (LC ao aa X.2.2.1 σ) [(0, .ref (ao 2)), (1, .int x1), (2, .int x2), (3, .int x3), (4, .int x4), (5, .int x5), (6, .int x6)] 49 [] := by
  unfold Reader_isAbove_b49 at hf
  refine gw_aload_n hC 0 d_Reader_isAbove_49 rfl rfl ?_
  refine gw_iload hC 4 d_Reader_isAbove_50 rfl ?_
  refine gw_iload hC 5 d_Reader_isAbove_52 rfl ?_
  refine gw_isub hC d_Reader_isAbove_54 ?_
  obtain ⟨q55, hq55, hf⟩ := g_bind hf
  refine gw_callV hC [.int (x4 - x5)] [] (Reader_unitAt_m _ _ _ ao aa N _ _ _ _ hq55) kc_Reader_76 2 (g_lay_obj rfl) rfl rfl ⟨by decide, by decide⟩ (Nat.le_of_ble_eq_true rfl) [.int (x4 - x5), .ref (ao 2)] [.int q55.1] rfl rfl d_Reader_isAbove_55 ?_
  refine gw_goto hC 63 d_Reader_isAbove_58 (by decide) ?_
  exact Reader_isAbove_p63 ao aa hC N _ hk12 _ _ _ _ _ _ _ _ _ _ hf
def Reader_isAbove_b38 (N : Nat) (k12 : Int32 → Int32 → Int32 → Int32 → Int32 → g_S → Option (Int32 × g_S)) (x1 : Int32) (x2 : Int32) (x3 : Int32) (x4 : Int32) (x5 : Int32) (s0 : Int32) (σ : g_S) : Option (Int32 × g_S) := if (x4 - x5) < x3 then Reader_isAbove_b61 N k12 x1 x2 x3 x4 x5 s0 σ else Reader_isAbove_b49 N k12 x1 x2 x3 x4 x5 s0 σ
theorem Reader_isAbove_p38 (ao aa : Nat → Nat) {X : g_X} (hC : gC X c_Reader_isAbove R_Reader 1 21 8 (some .boolean)) (N : Nat) (k12 : Int32 → Int32 → Int32 → Int32 → Int32 → g_S → Option (Int32 × g_S)) (hk12 : ∀ (x1 : Int32) (x2 : Int32) (x3 : Int32) (x4 : Int32) (x5 : Int32) (σ : g_S) (r : Int32) (σe : g_S), k12 x1 x2 x3 x4 x5 σ = some (r, σe) → gw X (.inl (some (.int r))) (LC ao aa X.2.2.1 σe) (LC ao aa X.2.2.1 σ) [(0, .ref (ao 2)), (1, .int x1), (2, .int x2), (3, .int x3), (4, .int x4), (5, .int x5)] 12 []) (x1 : Int32) (x2 : Int32) (x3 : Int32) (x4 : Int32) (x5 : Int32) (s0 : Int32) (σ : g_S) (r : Int32) (σe : g_S) (hf : Reader_isAbove_b38 N k12 x1 x2 x3 x4 x5 s0 σ = some (r, σe)) : gw X (.inl (some (.int r))) (LC ao aa X.2.2.1 σe) (LC ao aa X.2.2.1 σ) [(0, .ref (ao 2)), (1, .int x1), (2, .int x2), (3, .int x3), (4, .int x4), (5, .int x5)] 38 [.int s0] := by
  unfold Reader_isAbove_b38 at hf
  refine gw_istore hC [(6, .int s0), (0, .ref (ao 2)), (1, .int x1), (2, .int x2), (3, .int x3), (4, .int x4), (5, .int x5)] d_Reader_isAbove_38 (by decide) rfl ?_
  refine gw_iload hC 5 d_Reader_isAbove_40 rfl ?_
  refine gw_iload hC 6 d_Reader_isAbove_42 rfl ?_
  refine gw_isub hC d_Reader_isAbove_44 ?_
  refine gw_iload_n hC 4 d_Reader_isAbove_45 rfl rfl ?_
  refine gw_icmp_lt hC 61 d_Reader_isAbove_46 (by decide) (fun hh => ?_) (fun hh => ?_)
  · rw [if_pos hh] at hf
    refine gw_lv [1, 2, 3, 4, 5, 6, 0] rfl ?_
    exact Reader_isAbove_p61 ao aa hC N _ hk12 _ _ _ _ _ _ _ _ _ hf
  · rw [if_neg hh] at hf
    refine gw_lv [1, 2, 3, 4, 5, 6, 0] rfl ?_
    exact Reader_isAbove_p49 ao aa hC N _ hk12 _ _ _ _ _ _ _ _ _ hf
def Reader_isAbove_b36 (N : Nat) (k12 : Int32 → Int32 → Int32 → Int32 → Int32 → g_S → Option (Int32 × g_S)) (x1 : Int32) (x2 : Int32) (x3 : Int32) (x4 : Int32) (x5 : Int32) (σ : g_S) : Option (Int32 × g_S) := Reader_isAbove_b38 N k12 x1 x2 x3 x4 x5 48 σ
theorem Reader_isAbove_p36 (ao aa : Nat → Nat) {X : g_X} (hC : gC X c_Reader_isAbove R_Reader 1 21 8 (some .boolean)) (N : Nat) (k12 : Int32 → Int32 → Int32 → Int32 → Int32 → g_S → Option (Int32 × g_S)) (hk12 : ∀ (x1 : Int32) (x2 : Int32) (x3 : Int32) (x4 : Int32) (x5 : Int32) (σ : g_S) (r : Int32) (σe : g_S), k12 x1 x2 x3 x4 x5 σ = some (r, σe) → gw X (.inl (some (.int r))) (LC ao aa X.2.2.1 σe) (LC ao aa X.2.2.1 σ) [(0, .ref (ao 2)), (1, .int x1), (2, .int x2), (3, .int x3), (4, .int x4), (5, .int x5)] 12 []) (x1 : Int32) (x2 : Int32) (x3 : Int32) (x4 : Int32) (x5 : Int32) (σ : g_S) (r : Int32) (σe : g_S) (hf : Reader_isAbove_b36 N k12 x1 x2 x3 x4 x5 σ = some (r, σe)) : gw X (.inl (some (.int r))) (LC ao aa X.2.2.1 σe) (LC ao aa X.2.2.1 σ) [(0, .ref (ao 2)), (1, .int x1), (2, .int x2), (3, .int x3), (4, .int x4), (5, .int x5)] 36 [] := by
  unfold Reader_isAbove_b36 at hf
  refine gw_bipush hC 48 d_Reader_isAbove_36 (by decide) ?_
  exact Reader_isAbove_p38 ao aa hC N _ hk12 _ _ _ _ _ _ _ _ _ hf
def Reader_isAbove_b25 (N : Nat) (k12 : Int32 → Int32 → Int32 → Int32 → Int32 → g_S → Option (Int32 × g_S)) (x1 : Int32) (x2 : Int32) (x3 : Int32) (x4 : Int32) (x5 : Int32) (σ : g_S) : Option (Int32 × g_S) := (Reader_unitAt N (x2 - x5) σ).bind fun q30 => Reader_isAbove_b38 N k12 x1 x2 x3 x4 x5 q30.1 q30.2
theorem Reader_isAbove_p25 (ao aa : Nat → Nat) {X : g_X} (hC : gC X c_Reader_isAbove R_Reader 1 21 8 (some .boolean)) (N : Nat) (k12 : Int32 → Int32 → Int32 → Int32 → Int32 → g_S → Option (Int32 × g_S)) (hk12 : ∀ (x1 : Int32) (x2 : Int32) (x3 : Int32) (x4 : Int32) (x5 : Int32) (σ : g_S) (r : Int32) (σe : g_S), k12 x1 x2 x3 x4 x5 σ = some (r, σe) → gw X (.inl (some (.int r))) (LC ao aa X.2.2.1 σe) (LC ao aa X.2.2.1 σ) [(0, .ref (ao 2)), (1, .int x1), (2, .int x2), (3, .int x3), (4, .int x4), (5, .int x5)] 12 []) (x1 : Int32) (x2 : Int32) (x3 : Int32) (x4 : Int32) (x5 : Int32) (σ : g_S) (r : Int32) (σe : g_S) (hf : Reader_isAbove_b25 N k12 x1 x2 x3 x4 x5 σ = some (r, σe)) : gw X (.inl (some (.int r))) (LC ao aa X.2.2.1 σe) (LC ao aa X.2.2.1 σ) [(0, .ref (ao 2)), (1, .int x1), (2, .int x2), (3, .int x3), (4, .int x4), (5, .int x5)] 25 [] := by
  unfold Reader_isAbove_b25 at hf
  refine gw_aload_n hC 0 d_Reader_isAbove_25 rfl rfl ?_
  refine gw_iload_n hC 2 d_Reader_isAbove_26 rfl rfl ?_
  refine gw_iload hC 5 d_Reader_isAbove_27 rfl ?_
  refine gw_isub hC d_Reader_isAbove_29 ?_
  obtain ⟨q30, hq30, hf⟩ := g_bind hf
  refine gw_callV hC [.int (x2 - x5)] [] (Reader_unitAt_m _ _ _ ao aa N _ _ _ _ hq30) kc_Reader_76 2 (g_lay_obj rfl) rfl rfl ⟨by decide, by decide⟩ (Nat.le_of_ble_eq_true rfl) [.int (x2 - x5), .ref (ao 2)] [.int q30.1] rfl rfl d_Reader_isAbove_30 ?_
  refine gw_goto hC 38 d_Reader_isAbove_33 (by decide) ?_
  exact Reader_isAbove_p38 ao aa hC N _ hk12 _ _ _ _ _ _ _ _ _ hf
def Reader_isAbove_b17 (N : Nat) (k12 : Int32 → Int32 → Int32 → Int32 → Int32 → g_S → Option (Int32 × g_S)) (x1 : Int32) (x2 : Int32) (x3 : Int32) (x4 : Int32) (x5 : Int32) (σ : g_S) : Option (Int32 × g_S) := if (x2 - x5) < x1 then Reader_isAbove_b36 N k12 x1 x2 x3 x4 x5 σ else Reader_isAbove_b25 N k12 x1 x2 x3 x4 x5 σ
theorem Reader_isAbove_p17 (ao aa : Nat → Nat) {X : g_X} (hC : gC X c_Reader_isAbove R_Reader 1 21 8 (some .boolean)) (N : Nat) (k12 : Int32 → Int32 → Int32 → Int32 → Int32 → g_S → Option (Int32 × g_S)) (hk12 : ∀ (x1 : Int32) (x2 : Int32) (x3 : Int32) (x4 : Int32) (x5 : Int32) (σ : g_S) (r : Int32) (σe : g_S), k12 x1 x2 x3 x4 x5 σ = some (r, σe) → gw X (.inl (some (.int r))) (LC ao aa X.2.2.1 σe) (LC ao aa X.2.2.1 σ) [(0, .ref (ao 2)), (1, .int x1), (2, .int x2), (3, .int x3), (4, .int x4), (5, .int x5)] 12 []) (x1 : Int32) (x2 : Int32) (x3 : Int32) (x4 : Int32) (x5 : Int32) (σ : g_S) (r : Int32) (σe : g_S) (hf : Reader_isAbove_b17 N k12 x1 x2 x3 x4 x5 σ = some (r, σe)) : gw X (.inl (some (.int r))) (LC ao aa X.2.2.1 σe) (LC ao aa X.2.2.1 σ) [(0, .ref (ao 2)), (1, .int x1), (2, .int x2), (3, .int x3), (4, .int x4), (5, .int x5)] 17 [] := by
  unfold Reader_isAbove_b17 at hf
  refine gw_iload_n hC 2 d_Reader_isAbove_17 rfl rfl ?_
  refine gw_iload hC 5 d_Reader_isAbove_18 rfl ?_
  refine gw_isub hC d_Reader_isAbove_20 ?_
  refine gw_iload_n hC 1 d_Reader_isAbove_21 rfl rfl ?_
  refine gw_icmp_lt hC 36 d_Reader_isAbove_22 (by decide) (fun hh => ?_) (fun hh => ?_)
  · rw [if_pos hh] at hf
    exact Reader_isAbove_p36 ao aa hC N _ hk12 _ _ _ _ _ _ _ _ hf
  · rw [if_neg hh] at hf
    exact Reader_isAbove_p25 ao aa hC N _ hk12 _ _ _ _ _ _ _ _ hf
def Reader_isAbove_b12 (N : Nat) (k12 : Int32 → Int32 → Int32 → Int32 → Int32 → g_S → Option (Int32 × g_S)) (x1 : Int32) (x2 : Int32) (x3 : Int32) (x4 : Int32) (x5 : Int32) (σ : g_S) : Option (Int32 × g_S) := if x5 ≤ 0 then Reader_isAbove_b91 N σ else Reader_isAbove_b17 N k12 x1 x2 x3 x4 x5 σ
theorem Reader_isAbove_p12 (ao aa : Nat → Nat) {X : g_X} (hC : gC X c_Reader_isAbove R_Reader 1 21 8 (some .boolean)) (N : Nat) (k12 : Int32 → Int32 → Int32 → Int32 → Int32 → g_S → Option (Int32 × g_S)) (hk12 : ∀ (x1 : Int32) (x2 : Int32) (x3 : Int32) (x4 : Int32) (x5 : Int32) (σ : g_S) (r : Int32) (σe : g_S), k12 x1 x2 x3 x4 x5 σ = some (r, σe) → gw X (.inl (some (.int r))) (LC ao aa X.2.2.1 σe) (LC ao aa X.2.2.1 σ) [(0, .ref (ao 2)), (1, .int x1), (2, .int x2), (3, .int x3), (4, .int x4), (5, .int x5)] 12 []) (x1 : Int32) (x2 : Int32) (x3 : Int32) (x4 : Int32) (x5 : Int32) (σ : g_S) (r : Int32) (σe : g_S) (hf : Reader_isAbove_b12 N k12 x1 x2 x3 x4 x5 σ = some (r, σe)) : gw X (.inl (some (.int r))) (LC ao aa X.2.2.1 σe) (LC ao aa X.2.2.1 σ) [(0, .ref (ao 2)), (1, .int x1), (2, .int x2), (3, .int x3), (4, .int x4), (5, .int x5)] 12 [] := by
  unfold Reader_isAbove_b12 at hf
  refine gw_iload hC 5 d_Reader_isAbove_12 rfl ?_
  refine gw_if_le hC 91 d_Reader_isAbove_14 (by decide) (fun hh => ?_) (fun hh => ?_)
  · rw [if_pos hh] at hf
    refine gw_lv [0] rfl ?_
    exact Reader_isAbove_p91 ao aa hC N _ _ _ hf
  · rw [if_neg hh] at hf
    exact Reader_isAbove_p17 ao aa hC N _ hk12 _ _ _ _ _ _ _ _ hf
def Reader_isAbove_l12 (N : Nat) : Nat → Int32 → Int32 → Int32 → Int32 → Int32 → g_S → Option (Int32 × g_S)
  | 0 => fun _ _ _ _ _ _ => none
  | n + 1 => fun x1 x2 x3 x4 x5 σ => Reader_isAbove_b12 N (Reader_isAbove_l12 N n) x1 x2 x3 x4 x5 σ
theorem Reader_isAbove_q12 (ao aa : Nat → Nat) {X : g_X} (hC : gC X c_Reader_isAbove R_Reader 1 21 8 (some .boolean)) (N : Nat) (n : Nat) : ∀ (x1 : Int32) (x2 : Int32) (x3 : Int32) (x4 : Int32) (x5 : Int32) (σ : g_S) (r : Int32) (σe : g_S), Reader_isAbove_l12 N n x1 x2 x3 x4 x5 σ = some (r, σe) → gw X (.inl (some (.int r))) (LC ao aa X.2.2.1 σe) (LC ao aa X.2.2.1 σ) [(0, .ref (ao 2)), (1, .int x1), (2, .int x2), (3, .int x3), (4, .int x4), (5, .int x5)] 12 [] := by
  induction n with
  | zero => intro x1 x2 x3 x4 x5 σ r σe hf; cases hf
  | succ n ih => intro x1 x2 x3 x4 x5 σ r σe hf; exact Reader_isAbove_p12 ao aa hC N _ (fun x1 x2 x3 x4 x5 σ r2 σ2 h2 => ih x1 x2 x3 x4 x5 σ r2 σ2 h2) x1 x2 x3 x4 x5 σ r σe hf
def Reader_isAbove_b0 (N : Nat) (x1 : Int32) (x2 : Int32) (x3 : Int32) (x4 : Int32) (σ : g_S) : Option (Int32 × g_S) := Reader_isAbove_l12 N N x1 x2 x3 x4 (if (x2 - x1) < (x4 - x3) then (x4 - x3) else (x2 - x1)) σ
theorem Reader_isAbove_p0 (ao aa : Nat → Nat) {X : g_X} (hC : gC X c_Reader_isAbove R_Reader 1 21 8 (some .boolean)) (N : Nat) (x1 : Int32) (x2 : Int32) (x3 : Int32) (x4 : Int32) (σ : g_S) (r : Int32) (σe : g_S) (hf : Reader_isAbove_b0 N x1 x2 x3 x4 σ = some (r, σe)) : gw X (.inl (some (.int r))) (LC ao aa X.2.2.1 σe) (LC ao aa X.2.2.1 σ) [(0, .ref (ao 2)), (1, .int x1), (2, .int x2), (3, .int x3), (4, .int x4)] 0 [] := by
  unfold Reader_isAbove_b0 at hf
  refine gw_iload_n hC 2 d_Reader_isAbove_0 rfl rfl ?_
  refine gw_iload_n hC 1 d_Reader_isAbove_1 rfl rfl ?_
  refine gw_isub hC d_Reader_isAbove_2 ?_
  refine gw_iload hC 4 d_Reader_isAbove_3 rfl ?_
  refine gw_iload_n hC 3 d_Reader_isAbove_5 rfl rfl ?_
  refine gw_isub hC d_Reader_isAbove_6 ?_
  refine gw_mmax hC km_Reader_201 ⟨by decide, by decide⟩ (Nat.le_of_ble_eq_true rfl) d_Reader_isAbove_7 ?_
  refine gw_istore hC [(5, .int (if (x2 - x1) < (x4 - x3) then (x4 - x3) else (x2 - x1))), (0, .ref (ao 2)), (1, .int x1), (2, .int x2), (3, .int x3), (4, .int x4)] d_Reader_isAbove_10 (by decide) rfl ?_
  refine gw_lv [1, 2, 3, 4, 5, 0] rfl ?_
  exact Reader_isAbove_q12 ao aa hC N N _ _ _ _ _ _ _ _ hf
def Reader_isAbove (N : Nat) (x1 : Int32) (x2 : Int32) (x3 : Int32) (x4 : Int32) (σ : g_S) : Option (Int32 × g_S) := Reader_isAbove_b0 N x1 x2 x3 x4 σ
theorem Reader_isAbove_m (l : Launch) (D : va_G) (cA : ClassId) (ao aa : Nat → Nat) (N : Nat) (x1 : Int32) (x2 : Int32) (x3 : Int32) (x4 : Int32) (σ : g_S) (r : Int32) (σe : g_S) (hf : Reader_isAbove N x1 x2 x3 x4 σ = some (r, σe)) : Mt l D cA y_Reader_isAbove c_Reader_isAbove 8 (some .boolean) 1 21 [.ref (ao 2), .int x1, .int x2, .int x3, .int x4] (LC ao aa cA σ) (some (.int r)) (LC ao aa cA σe) := by
  refine g_met (by decide +kernel) (by simp [lg_sl, Value.category]) (fun X e1 e2 e3 hC => ?_)
  subst e1 e2 e3
  refine gw_lv [0, 1, 2, 3, 4] rfl ?_
  exact Reader_isAbove_p0 ao aa hC N _ _ _ _ _ (r) _ hf
def Reader_readBraces_b179 (N : Nat) (σ : g_S) : Option (Int32 × g_S) := some (0, σ)
theorem Reader_readBraces_p179 (ao aa : Nat → Nat) {X : g_X} (hC : gC X c_Reader_readBraces R_Reader 2 48 6 none) (N : Nat) (σ : g_S) (r : Int32) (σe : g_S) (hf : Reader_readBraces_b179 N σ = some (r, σe)) : gw X (.inl none) (LC ao aa X.2.2.1 σe) (LC ao aa X.2.2.1 σ) [(0, .ref (ao 2))] 179 [] := by
  unfold Reader_readBraces_b179 at hf
  cases hf
  exact gw_vret hC d_Reader_readBraces_179
def Reader_readBraces_b169 (N : Nat) (σ : g_S) : Option (Int32 × g_S) := Reader_readBraces_b179 N (gF σ 12 ((σ.1 12) + 1))
theorem Reader_readBraces_p169 (ao aa : Nat → Nat) {X : g_X} (hC : gC X c_Reader_readBraces R_Reader 2 48 6 none) (N : Nat) (σ : g_S) (r : Int32) (σe : g_S) (hf : Reader_readBraces_b169 N σ = some (r, σe)) : gw X (.inl none) (LC ao aa X.2.2.1 σe) (LC ao aa X.2.2.1 σ) [(0, .ref (ao 2))] 169 [] := by
  unfold Reader_readBraces_b169 at hf
  refine gw_aload_n hC 0 d_Reader_readBraces_169 rfl rfl ?_
  refine gw_dup hC d_Reader_readBraces_170 rfl ?_
  refine Cg12 hC kf_Reader_35 d_Reader_readBraces_171 (σ.1 12) rfl ?_
  refine gw_iconst hC 1 d_Reader_readBraces_174 (by decide) ?_
  refine gw_iadd hC d_Reader_readBraces_175 ?_
  refine Cp12 hC kf_Reader_35 d_Reader_readBraces_176 ?_
  exact Reader_readBraces_p179 ao aa hC N _ _ _ hf
def Reader_readBraces_b161 (N : Nat) (x1 : Int32) (σ : g_S) : Option (Int32 × g_S) := Reader_readBraces_b179 N (gF σ 13 x1)
theorem Reader_readBraces_p161 (ao aa : Nat → Nat) {X : g_X} (hC : gC X c_Reader_readBraces R_Reader 2 48 6 none) (N : Nat) (x1 : Int32) (σ : g_S) (r : Int32) (σe : g_S) (hf : Reader_readBraces_b161 N x1 σ = some (r, σe)) : gw X (.inl none) (LC ao aa X.2.2.1 σe) (LC ao aa X.2.2.1 σ) [(0, .ref (ao 2)), (1, .int x1)] 161 [] := by
  unfold Reader_readBraces_b161 at hf
  refine gw_aload_n hC 0 d_Reader_readBraces_161 rfl rfl ?_
  refine gw_iload_n hC 1 d_Reader_readBraces_162 rfl rfl ?_
  refine Cp13 hC kf_Reader_38 d_Reader_readBraces_163 ?_
  refine gw_goto hC 179 d_Reader_readBraces_166 (by decide) ?_
  refine gw_lv [0] rfl ?_
  exact Reader_readBraces_p179 ao aa hC N _ _ _ hf
def Reader_readBraces_b156 (N : Nat) (x1 : Int32) (x4 : Int32) (σ : g_S) : Option (Int32 × g_S) := if x4 = 0 then Reader_readBraces_b169 N σ else Reader_readBraces_b161 N x1 σ
theorem Reader_readBraces_p156 (ao aa : Nat → Nat) {X : g_X} (hC : gC X c_Reader_readBraces R_Reader 2 48 6 none) (N : Nat) (x1 : Int32) (x4 : Int32) (σ : g_S) (r : Int32) (σe : g_S) (hf : Reader_readBraces_b156 N x1 x4 σ = some (r, σe)) : gw X (.inl none) (LC ao aa X.2.2.1 σe) (LC ao aa X.2.2.1 σ) [(0, .ref (ao 2)), (1, .int x1), (4, .int x4)] 156 [] := by
  unfold Reader_readBraces_b156 at hf
  refine gw_iload hC 2 d_Reader_readBraces_156 rfl ?_
  refine gw_if_eq hC 169 d_Reader_readBraces_158 (by decide) (fun hh => ?_) (fun hh => ?_)
  · rw [if_pos hh] at hf
    refine gw_lv [0] rfl ?_
    exact Reader_readBraces_p169 ao aa hC N _ _ _ hf
  · rw [if_neg hh] at hf
    refine gw_lv [0, 1] rfl ?_
    exact Reader_readBraces_p161 ao aa hC N _ _ _ _ hf
def Reader_readBraces_b145 (N : Nat) (σ : g_S) : Option (Int32 × g_S) := Reader_readBraces_b179 N (gF σ 13 (σ.1 12))
theorem Reader_readBraces_p145 (ao aa : Nat → Nat) {X : g_X} (hC : gC X c_Reader_readBraces R_Reader 2 48 6 none) (N : Nat) (σ : g_S) (r : Int32) (σe : g_S) (hf : Reader_readBraces_b145 N σ = some (r, σe)) : gw X (.inl none) (LC ao aa X.2.2.1 σe) (LC ao aa X.2.2.1 σ) [(0, .ref (ao 2))] 145 [] := by
  unfold Reader_readBraces_b145 at hf
  refine gw_aload_n hC 0 d_Reader_readBraces_145 rfl rfl ?_
  refine gw_aload_n hC 0 d_Reader_readBraces_146 rfl rfl ?_
  refine Cg12 hC kf_Reader_35 d_Reader_readBraces_147 (σ.1 12) rfl ?_
  refine Cp13 hC kf_Reader_38 d_Reader_readBraces_150 ?_
  refine gw_goto hC 179 d_Reader_readBraces_153 (by decide) ?_
  exact Reader_readBraces_p179 ao aa hC N _ _ _ hf
def Reader_readBraces_b132 (N : Nat) (x1 : Int32) (x4 : Int32) (σ : g_S) : Option (Int32 × g_S) := (Reader_unitAt N (σ.1 12) σ).bind fun q137 => if q137.1 = 125 then Reader_readBraces_b156 N x1 x4 q137.2 else Reader_readBraces_b145 N q137.2
theorem Reader_readBraces_p132 (ao aa : Nat → Nat) {X : g_X} (hC : gC X c_Reader_readBraces R_Reader 2 48 6 none) (N : Nat) (x1 : Int32) (x4 : Int32) (σ : g_S) (r : Int32) (σe : g_S) (hf : Reader_readBraces_b132 N x1 x4 σ = some (r, σe)) : gw X (.inl none) (LC ao aa X.2.2.1 σe) (LC ao aa X.2.2.1 σ) [(0, .ref (ao 2)), (1, .int x1), (4, .int x4)] 132 [] := by
  unfold Reader_readBraces_b132 at hf
  refine gw_aload_n hC 0 d_Reader_readBraces_132 rfl rfl ?_
  refine gw_aload_n hC 0 d_Reader_readBraces_133 rfl rfl ?_
  refine Cg12 hC kf_Reader_35 d_Reader_readBraces_134 (σ.1 12) rfl ?_
  obtain ⟨q137, hq137, hf⟩ := g_bind hf
  refine gw_callV hC [.int (σ.1 12)] [] (Reader_unitAt_m _ _ _ ao aa N _ _ _ _ hq137) kc_Reader_76 2 (g_lay_obj rfl) rfl rfl ⟨by decide, by decide⟩ (Nat.le_of_ble_eq_true rfl) [.int (σ.1 12), .ref (ao 2)] [.int q137.1] rfl rfl d_Reader_readBraces_137 ?_
  refine gw_bipush hC 125 d_Reader_readBraces_140 (by decide) ?_
  refine gw_icmp_eq hC 156 d_Reader_readBraces_142 (by decide) (fun hh => ?_) (fun hh => ?_)
  · rw [if_pos hh] at hf
    exact Reader_readBraces_p156 ao aa hC N _ _ _ _ _ hf
  · rw [if_neg hh] at hf
    refine gw_lv [0] rfl ?_
    exact Reader_readBraces_p145 ao aa hC N _ _ _ hf
def Reader_readBraces_b131 (N : Nat) (σ : g_S) : Option (Int32 × g_S) := some (0, σ)
theorem Reader_readBraces_p131 (ao aa : Nat → Nat) {X : g_X} (hC : gC X c_Reader_readBraces R_Reader 2 48 6 none) (N : Nat) (σ : g_S) (r : Int32) (σe : g_S) (hf : Reader_readBraces_b131 N σ = some (r, σe)) : gw X (.inl none) (LC ao aa X.2.2.1 σe) (LC ao aa X.2.2.1 σ) [(0, .ref (ao 2))] 131 [] := by
  unfold Reader_readBraces_b131 at hf
  cases hf
  exact gw_vret hC d_Reader_readBraces_131
def Reader_readBraces_b124 (N : Nat) (x1 : Int32) (x4 : Int32) (σ : g_S) : Option (Int32 × g_S) := if (σ.1 13) < 0 then Reader_readBraces_b132 N x1 x4 σ else Reader_readBraces_b131 N σ
theorem Reader_readBraces_p124 (ao aa : Nat → Nat) {X : g_X} (hC : gC X c_Reader_readBraces R_Reader 2 48 6 none) (N : Nat) (x1 : Int32) (x4 : Int32) (σ : g_S) (r : Int32) (σe : g_S) (hf : Reader_readBraces_b124 N x1 x4 σ = some (r, σe)) : gw X (.inl none) (LC ao aa X.2.2.1 σe) (LC ao aa X.2.2.1 σ) [(0, .ref (ao 2)), (1, .int x1), (4, .int x4)] 124 [] := by
  unfold Reader_readBraces_b124 at hf
  refine gw_aload_n hC 0 d_Reader_readBraces_124 rfl rfl ?_
  refine Cg13 hC kf_Reader_38 d_Reader_readBraces_125 (σ.1 13) rfl ?_
  refine gw_if_lt hC 132 d_Reader_readBraces_128 (by decide) (fun hh => ?_) (fun hh => ?_)
  · rw [if_pos hh] at hf
    exact Reader_readBraces_p132 ao aa hC N _ _ _ _ _ hf
  · rw [if_neg hh] at hf
    refine gw_lv [0] rfl ?_
    exact Reader_readBraces_p131 ao aa hC N _ _ _ hf
def Reader_readBraces_b96 (N : Nat) (x1 : Int32) (x2 : Int32) (x3 : Int32) (σ : g_S) : Option (Int32 × g_S) := (Reader_readNumber N σ).bind fun q104 => (Reader_isAbove N x2 x3 (σ.1 12) (q104.2.1 12) (gF q104.2 18 q104.1)).bind fun q119 => Reader_readBraces_b124 N x1 q119.1 q119.2
theorem Reader_readBraces_p96 (ao aa : Nat → Nat) {X : g_X} (hC : gC X c_Reader_readBraces R_Reader 2 48 6 none) (N : Nat) (x1 : Int32) (x2 : Int32) (x3 : Int32) (σ : g_S) (r : Int32) (σe : g_S) (hf : Reader_readBraces_b96 N x1 x2 x3 σ = some (r, σe)) : gw X (.inl none) (LC ao aa X.2.2.1 σe) (LC ao aa X.2.2.1 σ) [(0, .ref (ao 2)), (1, .int x1), (2, .int x2), (3, .int x3)] 96 [] := by
  unfold Reader_readBraces_b96 at hf
  refine gw_aload_n hC 0 d_Reader_readBraces_96 rfl rfl ?_
  refine Cg12 hC kf_Reader_35 d_Reader_readBraces_97 (σ.1 12) rfl ?_
  refine gw_istore hC [(5, .int (σ.1 12)), (0, .ref (ao 2)), (1, .int x1), (2, .int x2), (3, .int x3)] d_Reader_readBraces_100 (by decide) rfl ?_
  refine gw_aload_n hC 1 d_Reader_readBraces_102 rfl rfl ?_
  refine gw_aload_n hC 1 d_Reader_readBraces_103 rfl rfl ?_
  obtain ⟨q104, hq104, hf⟩ := g_bind hf
  refine gw_callV hC [] [.ref (ao 2)] (Reader_readNumber_m _ _ _ ao aa N _ _ _ hq104) kc_Reader_182 2 (g_lay_obj rfl) rfl rfl ⟨by decide, by decide⟩ (Nat.le_of_ble_eq_true rfl) [.ref (ao 2), .ref (ao 2)] [.int q104.1, .ref (ao 2)] rfl rfl d_Reader_readBraces_104 ?_
  refine Cp18 hC kf_Reader_163 d_Reader_readBraces_107 ?_
  refine gw_aload_n hC 1 d_Reader_readBraces_110 rfl rfl ?_
  refine gw_iload_n hC 3 d_Reader_readBraces_111 rfl rfl ?_
  refine gw_iload_n hC 4 d_Reader_readBraces_112 rfl rfl ?_
  refine gw_iload hC 0 d_Reader_readBraces_113 rfl ?_
  refine gw_aload_n hC 1 d_Reader_readBraces_115 rfl rfl ?_
  refine Cg12 hC kf_Reader_35 d_Reader_readBraces_116 (q104.2.1 12) rfl ?_
  obtain ⟨q119, hq119, hf⟩ := g_bind hf
  refine gw_callV hC [.int x2, .int x3, .int (σ.1 12), .int (q104.2.1 12)] [] (Reader_isAbove_m _ _ _ ao aa N _ _ _ _ _ _ _ hq119) kc_Reader_185 2 (g_lay_obj rfl) rfl rfl ⟨by decide, by decide⟩ (Nat.le_of_ble_eq_true rfl) [.int (q104.2.1 12), .int (σ.1 12), .int x3, .int x2, .ref (ao 2)] [.int q119.1] rfl rfl d_Reader_readBraces_119 ?_
  refine gw_istore hC [(4, .int q119.1), (5, .int (σ.1 12)), (0, .ref (ao 2)), (1, .int x1), (2, .int x2), (3, .int x3)] d_Reader_readBraces_122 (by decide) rfl ?_
  refine gw_lv [2, 3, 0] rfl ?_
  exact Reader_readBraces_p124 ao aa hC N _ _ _ _ _ hf
def Reader_readBraces_b87 (N : Nat) (x1 : Int32) (x4 : Int32) (σ : g_S) : Option (Int32 × g_S) := Reader_readBraces_b124 N x1 x4 (gF σ 18 100000)
theorem Reader_readBraces_p87 (ao aa : Nat → Nat) {X : g_X} (hC : gC X c_Reader_readBraces R_Reader 2 48 6 none) (N : Nat) (x1 : Int32) (x4 : Int32) (σ : g_S) (r : Int32) (σe : g_S) (hf : Reader_readBraces_b87 N x1 x4 σ = some (r, σe)) : gw X (.inl none) (LC ao aa X.2.2.1 σe) (LC ao aa X.2.2.1 σ) [(0, .ref (ao 2)), (1, .int x1), (4, .int x4)] 87 [] := by
  unfold Reader_readBraces_b87 at hf
  refine gw_aload_n hC 0 d_Reader_readBraces_87 rfl rfl ?_
  refine gw_ldc hC 100000 kn_Reader_174 d_Reader_readBraces_88 ?_
  refine Cp18 hC kf_Reader_163 d_Reader_readBraces_90 ?_
  refine gw_goto hC 124 d_Reader_readBraces_93 (by decide) ?_
  exact Reader_readBraces_p124 ao aa hC N _ _ _ _ _ hf
def Reader_readBraces_b64 (N : Nat) (x1 : Int32) (x2 : Int32) (x3 : Int32) (x4 : Int32) (σ : g_S) : Option (Int32 × g_S) := (Reader_unitAt N ((σ.1 12) + 1) (gF σ 12 ((σ.1 12) + 1))).bind fun q79 => if q79.1 = 125 then Reader_readBraces_b87 N x1 x4 q79.2 else Reader_readBraces_b96 N x1 x2 x3 q79.2
theorem Reader_readBraces_p64 (ao aa : Nat → Nat) {X : g_X} (hC : gC X c_Reader_readBraces R_Reader 2 48 6 none) (N : Nat) (x1 : Int32) (x2 : Int32) (x3 : Int32) (x4 : Int32) (σ : g_S) (r : Int32) (σe : g_S) (hf : Reader_readBraces_b64 N x1 x2 x3 x4 σ = some (r, σe)) : gw X (.inl none) (LC ao aa X.2.2.1 σe) (LC ao aa X.2.2.1 σ) [(0, .ref (ao 2)), (1, .int x1), (2, .int x2), (3, .int x3), (4, .int x4)] 64 [] := by
  unfold Reader_readBraces_b64 at hf
  refine gw_aload_n hC 0 d_Reader_readBraces_64 rfl rfl ?_
  refine gw_dup hC d_Reader_readBraces_65 rfl ?_
  refine Cg12 hC kf_Reader_35 d_Reader_readBraces_66 (σ.1 12) rfl ?_
  refine gw_iconst hC 1 d_Reader_readBraces_69 (by decide) ?_
  refine gw_iadd hC d_Reader_readBraces_70 ?_
  refine Cp12 hC kf_Reader_35 d_Reader_readBraces_71 ?_
  refine gw_aload_n hC 0 d_Reader_readBraces_74 rfl rfl ?_
  refine gw_aload_n hC 0 d_Reader_readBraces_75 rfl rfl ?_
  refine Cg12 hC kf_Reader_35 d_Reader_readBraces_76 ((σ.1 12) + 1) rfl ?_
  obtain ⟨q79, hq79, hf⟩ := g_bind hf
  refine gw_callV hC [.int ((σ.1 12) + 1)] [] (Reader_unitAt_m _ _ _ ao aa N _ _ _ _ hq79) kc_Reader_76 2 (g_lay_obj rfl) rfl rfl ⟨by decide, by decide⟩ (Nat.le_of_ble_eq_true rfl) [.int ((σ.1 12) + 1), .ref (ao 2)] [.int q79.1] rfl rfl d_Reader_readBraces_79 ?_
  refine gw_bipush hC 125 d_Reader_readBraces_82 (by decide) ?_
  refine gw_icmp_ne hC 96 d_Reader_readBraces_84 (by decide) (fun hh => ?_) (fun hh => ?_)
  · rw [if_neg hh] at hf
    refine gw_lv [0, 1, 2, 3] rfl ?_
    exact Reader_readBraces_p96 ao aa hC N _ _ _ _ _ _ hf
  · rw [if_pos hh] at hf
    refine gw_lv [0, 1, 4] rfl ?_
    exact Reader_readBraces_p87 ao aa hC N _ _ _ _ _ hf
def Reader_readBraces_b51 (N : Nat) (x1 : Int32) (x2 : Int32) (x3 : Int32) (x4 : Int32) (σ : g_S) : Option (Int32 × g_S) := (Reader_unitAt N (σ.1 12) σ).bind fun q56 => if q56.1 = 44 then Reader_readBraces_b64 N x1 x2 x3 x4 q56.2 else Reader_readBraces_b124 N x1 x4 q56.2
theorem Reader_readBraces_p51 (ao aa : Nat → Nat) {X : g_X} (hC : gC X c_Reader_readBraces R_Reader 2 48 6 none) (N : Nat) (x1 : Int32) (x2 : Int32) (x3 : Int32) (x4 : Int32) (σ : g_S) (r : Int32) (σe : g_S) (hf : Reader_readBraces_b51 N x1 x2 x3 x4 σ = some (r, σe)) : gw X (.inl none) (LC ao aa X.2.2.1 σe) (LC ao aa X.2.2.1 σ) [(0, .ref (ao 2)), (1, .int x1), (2, .int x2), (3, .int x3), (4, .int x4)] 51 [] := by
  unfold Reader_readBraces_b51 at hf
  refine gw_aload_n hC 0 d_Reader_readBraces_51 rfl rfl ?_
  refine gw_aload_n hC 0 d_Reader_readBraces_52 rfl rfl ?_
  refine Cg12 hC kf_Reader_35 d_Reader_readBraces_53 (σ.1 12) rfl ?_
  obtain ⟨q56, hq56, hf⟩ := g_bind hf
  refine gw_callV hC [.int (σ.1 12)] [] (Reader_unitAt_m _ _ _ ao aa N _ _ _ _ hq56) kc_Reader_76 2 (g_lay_obj rfl) rfl rfl ⟨by decide, by decide⟩ (Nat.le_of_ble_eq_true rfl) [.int (σ.1 12), .ref (ao 2)] [.int q56.1] rfl rfl d_Reader_readBraces_56 ?_
  refine gw_bipush hC 44 d_Reader_readBraces_59 (by decide) ?_
  refine gw_icmp_ne hC 124 d_Reader_readBraces_61 (by decide) (fun hh => ?_) (fun hh => ?_)
  · rw [if_neg hh] at hf
    refine gw_lv [0, 1, 4] rfl ?_
    exact Reader_readBraces_p124 ao aa hC N _ _ _ _ _ hf
  · rw [if_pos hh] at hf
    exact Reader_readBraces_p64 ao aa hC N _ _ _ _ _ _ _ hf
def Reader_readBraces_b0 (N : Nat) (σ : g_S) : Option (Int32 × g_S) := (Reader_readNumber N (gF σ 12 ((σ.1 12) + 1))).bind fun q22 => if 0 ≤ (q22.2.1 13) then Reader_readBraces_b124 N (σ.1 12) 0 (gF (gF q22.2 17 q22.1) 18 q22.1) else Reader_readBraces_b51 N (σ.1 12) ((σ.1 12) + 1) (q22.2.1 12) 0 (gF (gF q22.2 17 q22.1) 18 q22.1)
theorem Reader_readBraces_p0 (ao aa : Nat → Nat) {X : g_X} (hC : gC X c_Reader_readBraces R_Reader 2 48 6 none) (N : Nat) (σ : g_S) (r : Int32) (σe : g_S) (hf : Reader_readBraces_b0 N σ = some (r, σe)) : gw X (.inl none) (LC ao aa X.2.2.1 σe) (LC ao aa X.2.2.1 σ) [(0, .ref (ao 2))] 0 [] := by
  unfold Reader_readBraces_b0 at hf
  refine gw_aload_n hC 0 d_Reader_readBraces_0 rfl rfl ?_
  refine Cg12 hC kf_Reader_35 d_Reader_readBraces_1 (σ.1 12) rfl ?_
  refine gw_istore_n hC [(1, .int (σ.1 12)), (0, .ref (ao 2))] d_Reader_readBraces_4 rfl (by decide) rfl ?_
  refine gw_aload_n hC 1 d_Reader_readBraces_5 rfl rfl ?_
  refine gw_dup hC d_Reader_readBraces_6 rfl ?_
  refine Cg12 hC kf_Reader_35 d_Reader_readBraces_7 (σ.1 12) rfl ?_
  refine gw_iconst hC 1 d_Reader_readBraces_10 (by decide) ?_
  refine gw_iadd hC d_Reader_readBraces_11 ?_
  refine Cp12 hC kf_Reader_35 d_Reader_readBraces_12 ?_
  refine gw_aload_n hC 1 d_Reader_readBraces_15 rfl rfl ?_
  refine Cg12 hC kf_Reader_35 d_Reader_readBraces_16 ((σ.1 12) + 1) rfl ?_
  refine gw_istore_n hC [(2, .int ((σ.1 12) + 1)), (1, .int (σ.1 12)), (0, .ref (ao 2))] d_Reader_readBraces_19 rfl (by decide) rfl ?_
  refine gw_aload_n hC 2 d_Reader_readBraces_20 rfl rfl ?_
  refine gw_aload_n hC 2 d_Reader_readBraces_21 rfl rfl ?_
  obtain ⟨q22, hq22, hf⟩ := g_bind hf
  refine gw_callV hC [] [.ref (ao 2)] (Reader_readNumber_m _ _ _ ao aa N _ _ _ hq22) kc_Reader_182 2 (g_lay_obj rfl) rfl rfl ⟨by decide, by decide⟩ (Nat.le_of_ble_eq_true rfl) [.ref (ao 2), .ref (ao 2)] [.int q22.1, .ref (ao 2)] rfl rfl d_Reader_readBraces_22 ?_
  refine Cp17 hC kf_Reader_158 d_Reader_readBraces_25 ?_
  refine gw_aload_n hC 2 d_Reader_readBraces_28 rfl rfl ?_
  refine Cg12 hC kf_Reader_35 d_Reader_readBraces_29 (q22.2.1 12) rfl ?_
  refine gw_istore_n hC [(3, .int (q22.2.1 12)), (2, .int ((σ.1 12) + 1)), (1, .int (σ.1 12)), (0, .ref (ao 2))] d_Reader_readBraces_32 rfl (by decide) rfl ?_
  refine gw_aload_n hC 3 d_Reader_readBraces_33 rfl rfl ?_
  refine gw_aload_n hC 3 d_Reader_readBraces_34 rfl rfl ?_
  refine Cg17 hC kf_Reader_158 d_Reader_readBraces_35 q22.1 rfl ?_
  refine Cp18 hC kf_Reader_163 d_Reader_readBraces_38 ?_
  refine gw_iconst hC 0 d_Reader_readBraces_41 (by decide) ?_
  refine gw_istore hC [(4, .int 0), (3, .int (q22.2.1 12)), (2, .int ((σ.1 12) + 1)), (1, .int (σ.1 12)), (0, .ref (ao 2))] d_Reader_readBraces_42 (by decide) rfl ?_
  refine gw_aload_n hC 4 d_Reader_readBraces_44 rfl rfl ?_
  refine Cg13 hC kf_Reader_38 d_Reader_readBraces_45 (q22.2.1 13) rfl ?_
  refine gw_if_ge hC 124 d_Reader_readBraces_48 (by decide) (fun hh => ?_) (fun hh => ?_)
  · rw [if_pos hh] at hf
    refine gw_lv [4, 3, 0] rfl ?_
    exact Reader_readBraces_p124 ao aa hC N _ _ _ _ _ hf
  · rw [if_neg hh] at hf
    refine gw_lv [4, 3, 2, 1, 0] rfl ?_
    exact Reader_readBraces_p51 ao aa hC N _ _ _ _ _ _ _ hf
def Reader_readBraces (N : Nat) (σ : g_S) : Option (Int32 × g_S) := Reader_readBraces_b0 N  σ
theorem Reader_readBraces_m (l : Launch) (D : va_G) (cA : ClassId) (ao aa : Nat → Nat) (N : Nat) (σ : g_S) (r : Int32) (σe : g_S) (hf : Reader_readBraces N σ = some (r, σe)) : Mt l D cA y_Reader_readBraces c_Reader_readBraces 6 none 2 48 [.ref (ao 2)] (LC ao aa cA σ) none (LC ao aa cA σe) := by
  refine g_met (by decide +kernel) (by simp [lg_sl, Value.category]) (fun X e1 e2 e3 hC => ?_)
  subst e1 e2 e3
  refine gw_lv [0] rfl ?_
  exact Reader_readBraces_p0 ao aa hC N _ (r) _ hf
def Reader_readQuantifier_b52 (N : Nat) (σ : g_S) : Option (Int32 × g_S) := (Reader_takeSign N 0 100000 σ).bind fun q56 => if gB q56.1 = true then some (q56.1, q56.2) else none
theorem Reader_readQuantifier_p52 (ao aa : Nat → Nat) {X : g_X} (hC : gC X c_Reader_readQuantifier R_Reader 3 73 1 (some .boolean)) (N : Nat) (σ : g_S) (r : Int32) (σe : g_S) (hf : Reader_readQuantifier_b52 N σ = some (r, σe)) : gw X (.inl (some (.int r))) (LC ao aa X.2.2.1 σe) (LC ao aa X.2.2.1 σ) [(0, .ref (ao 2))] 52 [] := by
  unfold Reader_readQuantifier_b52 at hf
  refine gw_aload_n hC 0 d_Reader_readQuantifier_52 rfl rfl ?_
  refine gw_iconst hC 0 d_Reader_readQuantifier_53 (by decide) ?_
  refine gw_ldc hC 100000 kn_Reader_174 d_Reader_readQuantifier_54 ?_
  obtain ⟨q56, hq56, hf⟩ := g_bind hf
  refine gw_callV hC [.int 0, .int 100000] [] (Reader_takeSign_m _ _ _ ao aa N _ _ _ _ _ hq56) kc_Reader_175 2 (g_lay_obj rfl) rfl rfl ⟨by decide, by decide⟩ (Nat.le_of_ble_eq_true rfl) [.int 100000, .int 0, .ref (ao 2)] [.int q56.1] rfl rfl d_Reader_readQuantifier_56 ?_
  obtain ⟨hg59, hf⟩ := g_guard hf
  cases hf
  exact gw_zret hC hg59 d_Reader_readQuantifier_59
def Reader_readQuantifier_b60 (N : Nat) (σ : g_S) : Option (Int32 × g_S) := (Reader_takeSign N 1 100000 σ).bind fun q64 => if gB q64.1 = true then some (q64.1, q64.2) else none
theorem Reader_readQuantifier_p60 (ao aa : Nat → Nat) {X : g_X} (hC : gC X c_Reader_readQuantifier R_Reader 3 73 1 (some .boolean)) (N : Nat) (σ : g_S) (r : Int32) (σe : g_S) (hf : Reader_readQuantifier_b60 N σ = some (r, σe)) : gw X (.inl (some (.int r))) (LC ao aa X.2.2.1 σe) (LC ao aa X.2.2.1 σ) [(0, .ref (ao 2))] 60 [] := by
  unfold Reader_readQuantifier_b60 at hf
  refine gw_aload_n hC 0 d_Reader_readQuantifier_60 rfl rfl ?_
  refine gw_iconst hC 1 d_Reader_readQuantifier_61 (by decide) ?_
  refine gw_ldc hC 100000 kn_Reader_174 d_Reader_readQuantifier_62 ?_
  obtain ⟨q64, hq64, hf⟩ := g_bind hf
  refine gw_callV hC [.int 1, .int 100000] [] (Reader_takeSign_m _ _ _ ao aa N _ _ _ _ _ hq64) kc_Reader_175 2 (g_lay_obj rfl) rfl rfl ⟨by decide, by decide⟩ (Nat.le_of_ble_eq_true rfl) [.int 100000, .int 1, .ref (ao 2)] [.int q64.1] rfl rfl d_Reader_readQuantifier_64 ?_
  obtain ⟨hg67, hf⟩ := g_guard hf
  cases hf
  exact gw_zret hC hg67 d_Reader_readQuantifier_67
def Reader_readQuantifier_b68 (N : Nat) (σ : g_S) : Option (Int32 × g_S) := (Reader_takeSign N 0 1 σ).bind fun q71 => if gB q71.1 = true then some (q71.1, q71.2) else none
theorem Reader_readQuantifier_p68 (ao aa : Nat → Nat) {X : g_X} (hC : gC X c_Reader_readQuantifier R_Reader 3 73 1 (some .boolean)) (N : Nat) (σ : g_S) (r : Int32) (σe : g_S) (hf : Reader_readQuantifier_b68 N σ = some (r, σe)) : gw X (.inl (some (.int r))) (LC ao aa X.2.2.1 σe) (LC ao aa X.2.2.1 σ) [(0, .ref (ao 2))] 68 [] := by
  unfold Reader_readQuantifier_b68 at hf
  refine gw_aload_n hC 0 d_Reader_readQuantifier_68 rfl rfl ?_
  refine gw_iconst hC 0 d_Reader_readQuantifier_69 (by decide) ?_
  refine gw_iconst hC 1 d_Reader_readQuantifier_70 (by decide) ?_
  obtain ⟨q71, hq71, hf⟩ := g_bind hf
  refine gw_callV hC [.int 0, .int 1] [] (Reader_takeSign_m _ _ _ ao aa N _ _ _ _ _ hq71) kc_Reader_175 2 (g_lay_obj rfl) rfl rfl ⟨by decide, by decide⟩ (Nat.le_of_ble_eq_true rfl) [.int 1, .int 0, .ref (ao 2)] [.int q71.1] rfl rfl d_Reader_readQuantifier_71 ?_
  obtain ⟨hg74, hf⟩ := g_guard hf
  cases hf
  exact gw_zret hC hg74 d_Reader_readQuantifier_74
def Reader_readQuantifier_b91 (N : Nat) (s0 : Int32) (σ : g_S) : Option (Int32 × g_S) := if gB s0 = true then some (s0, σ) else none
theorem Reader_readQuantifier_p91 (ao aa : Nat → Nat) {X : g_X} (hC : gC X c_Reader_readQuantifier R_Reader 3 73 1 (some .boolean)) (N : Nat) (s0 : Int32) (σ : g_S) (r : Int32) (σe : g_S) (hf : Reader_readQuantifier_b91 N s0 σ = some (r, σe)) : gw X (.inl (some (.int r))) (LC ao aa X.2.2.1 σe) (LC ao aa X.2.2.1 σ) [(0, .ref (ao 2))] 91 [.int s0] := by
  unfold Reader_readQuantifier_b91 at hf
  obtain ⟨hg91, hf⟩ := g_guard hf
  cases hf
  exact gw_zret hC hg91 d_Reader_readQuantifier_91
def Reader_readQuantifier_b90 (N : Nat) (σ : g_S) : Option (Int32 × g_S) := Reader_readQuantifier_b91 N 0 σ
theorem Reader_readQuantifier_p90 (ao aa : Nat → Nat) {X : g_X} (hC : gC X c_Reader_readQuantifier R_Reader 3 73 1 (some .boolean)) (N : Nat) (σ : g_S) (r : Int32) (σe : g_S) (hf : Reader_readQuantifier_b90 N σ = some (r, σe)) : gw X (.inl (some (.int r))) (LC ao aa X.2.2.1 σe) (LC ao aa X.2.2.1 σ) [(0, .ref (ao 2))] 90 [] := by
  unfold Reader_readQuantifier_b90 at hf
  refine gw_iconst hC 0 d_Reader_readQuantifier_90 (by decide) ?_
  exact Reader_readQuantifier_p91 ao aa hC N _ _ _ _ hf
def Reader_readQuantifier_b86 (N : Nat) (σ : g_S) : Option (Int32 × g_S) := Reader_readQuantifier_b91 N 1 σ
theorem Reader_readQuantifier_p86 (ao aa : Nat → Nat) {X : g_X} (hC : gC X c_Reader_readQuantifier R_Reader 3 73 1 (some .boolean)) (N : Nat) (σ : g_S) (r : Int32) (σe : g_S) (hf : Reader_readQuantifier_b86 N σ = some (r, σe)) : gw X (.inl (some (.int r))) (LC ao aa X.2.2.1 σe) (LC ao aa X.2.2.1 σ) [(0, .ref (ao 2))] 86 [] := by
  unfold Reader_readQuantifier_b86 at hf
  refine gw_iconst hC 1 d_Reader_readQuantifier_86 (by decide) ?_
  refine gw_goto hC 91 d_Reader_readQuantifier_87 (by decide) ?_
  exact Reader_readQuantifier_p91 ao aa hC N _ _ _ _ hf
def Reader_readQuantifier_b75 (N : Nat) (σ : g_S) : Option (Int32 × g_S) := (Reader_readBraces N σ).bind fun q76 => if 0 ≤ (q76.2.1 13) then Reader_readQuantifier_b90 N q76.2 else Reader_readQuantifier_b86 N q76.2
theorem Reader_readQuantifier_p75 (ao aa : Nat → Nat) {X : g_X} (hC : gC X c_Reader_readQuantifier R_Reader 3 73 1 (some .boolean)) (N : Nat) (σ : g_S) (r : Int32) (σe : g_S) (hf : Reader_readQuantifier_b75 N σ = some (r, σe)) : gw X (.inl (some (.int r))) (LC ao aa X.2.2.1 σe) (LC ao aa X.2.2.1 σ) [(0, .ref (ao 2))] 75 [] := by
  unfold Reader_readQuantifier_b75 at hf
  refine gw_aload_n hC 0 d_Reader_readQuantifier_75 rfl rfl ?_
  obtain ⟨q76, hq76, hf⟩ := g_bind hf
  refine gw_callV hC [] [] (Reader_readBraces_m _ _ _ ao aa N _ _ _ hq76) kc_Reader_179 2 (g_lay_obj rfl) rfl rfl ⟨by decide, by decide⟩ (Nat.le_of_ble_eq_true rfl) [.ref (ao 2)] [] rfl rfl d_Reader_readQuantifier_76 ?_
  refine gw_aload_n hC 0 d_Reader_readQuantifier_79 rfl rfl ?_
  refine Cg13 hC kf_Reader_38 d_Reader_readQuantifier_80 (q76.2.1 13) rfl ?_
  refine gw_if_ge hC 90 d_Reader_readQuantifier_83 (by decide) (fun hh => ?_) (fun hh => ?_)
  · rw [if_pos hh] at hf
    exact Reader_readQuantifier_p90 ao aa hC N _ _ _ hf
  · rw [if_neg hh] at hf
    exact Reader_readQuantifier_p86 ao aa hC N _ _ _ hf
def Reader_readQuantifier_b92 (N : Nat) (σ : g_S) : Option (Int32 × g_S) := some (0, σ)
theorem Reader_readQuantifier_p92 (ao aa : Nat → Nat) {X : g_X} (hC : gC X c_Reader_readQuantifier R_Reader 3 73 1 (some .boolean)) (N : Nat) (σ : g_S) (r : Int32) (σe : g_S) (hf : Reader_readQuantifier_b92 N σ = some (r, σe)) : gw X (.inl (some (.int r))) (LC ao aa X.2.2.1 σe) (LC ao aa X.2.2.1 σ) [(0, .ref (ao 2))] 92 [] := by
  unfold Reader_readQuantifier_b92 at hf
  refine gw_iconst hC 0 d_Reader_readQuantifier_92 (by decide) ?_
  cases hf
  exact gw_zret hC (by decide) d_Reader_readQuantifier_93
def Reader_readQuantifier_b0 (N : Nat) (σ : g_S) : Option (Int32 × g_S) := (Reader_unitAt N (σ.1 12) σ).bind fun q5 => if q5.1 = 42 then Reader_readQuantifier_b52 N q5.2 else if q5.1 = 43 then Reader_readQuantifier_b60 N q5.2 else if q5.1 = 63 then Reader_readQuantifier_b68 N q5.2 else if q5.1 = 123 then Reader_readQuantifier_b75 N q5.2 else Reader_readQuantifier_b92 N q5.2
theorem Reader_readQuantifier_p0 (ao aa : Nat → Nat) {X : g_X} (hC : gC X c_Reader_readQuantifier R_Reader 3 73 1 (some .boolean)) (N : Nat) (σ : g_S) (r : Int32) (σe : g_S) (hf : Reader_readQuantifier_b0 N σ = some (r, σe)) : gw X (.inl (some (.int r))) (LC ao aa X.2.2.1 σe) (LC ao aa X.2.2.1 σ) [(0, .ref (ao 2))] 0 [] := by
  unfold Reader_readQuantifier_b0 at hf
  refine gw_aload_n hC 0 d_Reader_readQuantifier_0 rfl rfl ?_
  refine gw_aload_n hC 0 d_Reader_readQuantifier_1 rfl rfl ?_
  refine Cg12 hC kf_Reader_35 d_Reader_readQuantifier_2 (σ.1 12) rfl ?_
  obtain ⟨q5, hq5, hf⟩ := g_bind hf
  refine gw_callV hC [.int (σ.1 12)] [] (Reader_unitAt_m _ _ _ ao aa N _ _ _ _ hq5) kc_Reader_76 2 (g_lay_obj rfl) rfl rfl ⟨by decide, by decide⟩ (Nat.le_of_ble_eq_true rfl) [.int (σ.1 12), .ref (ao 2)] [.int q5.1] rfl rfl d_Reader_readQuantifier_5 ?_
  by_cases hh0 : q5.1 = 42
  · rw [if_pos hh0] at hf
    refine gw_lookup hC 44 52 d_Reader_readQuantifier_8 (by decide) (by rw [hh0]; decide +kernel) (by decide) ?_
    exact Reader_readQuantifier_p52 ao aa hC N _ _ _ hf
  · rw [if_neg hh0] at hf
    by_cases hh1 : q5.1 = 43
    · rw [if_pos hh1] at hf
      refine gw_lookup hC 52 60 d_Reader_readQuantifier_8 (by decide) (by rw [hh1]; decide +kernel) (by decide) ?_
      exact Reader_readQuantifier_p60 ao aa hC N _ _ _ hf
    · rw [if_neg hh1] at hf
      by_cases hh2 : q5.1 = 63
      · rw [if_pos hh2] at hf
        refine gw_lookup hC 60 68 d_Reader_readQuantifier_8 (by decide) (by rw [hh2]; decide +kernel) (by decide) ?_
        exact Reader_readQuantifier_p68 ao aa hC N _ _ _ hf
      · rw [if_neg hh2] at hf
        by_cases hh3 : q5.1 = 123
        · rw [if_pos hh3] at hf
          refine gw_lookup hC 67 75 d_Reader_readQuantifier_8 (by decide) (by rw [hh3]; decide +kernel) (by decide) ?_
          exact Reader_readQuantifier_p75 ao aa hC N _ _ _ hf
        · rw [if_neg hh3] at hf
          refine gw_lookup hC 84 92 d_Reader_readQuantifier_8 (by decide) (g_lk hh0 (by decide) (g_lk hh1 (by decide) (g_lk hh2 (by decide) (g_lk hh3 (by decide) rfl)))) (by decide) ?_
          exact Reader_readQuantifier_p92 ao aa hC N _ _ _ hf
def Reader_readQuantifier (N : Nat) (σ : g_S) : Option (Int32 × g_S) := Reader_readQuantifier_b0 N  σ
theorem Reader_readQuantifier_m (l : Launch) (D : va_G) (cA : ClassId) (ao aa : Nat → Nat) (N : Nat) (σ : g_S) (r : Int32) (σe : g_S) (hf : Reader_readQuantifier N σ = some (r, σe)) : Mt l D cA y_Reader_readQuantifier c_Reader_readQuantifier 1 (some .boolean) 3 73 [.ref (ao 2)] (LC ao aa cA σ) (some (.int r)) (LC ao aa cA σe) := by
  refine g_met (by decide +kernel) (by simp [lg_sl, Value.category]) (fun X e1 e2 e3 hC => ?_)
  subst e1 e2 e3
  refine gw_lv [0] rfl ?_
  exact Reader_readQuantifier_p0 ao aa hC N _ (r) _ hf
def Reader_appendRepetition_b177 (N : Nat) (x2 : Int32) (x3 : Int32) (s1 : Int32) (s2 : Int32) (σ : g_S) : Option (Int32 × g_S) := (Rows_write N 9 s1 s2 σ).bind fun q177 => (Rows_write N 10 x2 (q177.2.1 21) q177.2).bind fun q192 => (Rows_write N 11 x2 (q192.2.1 8) q192.2).bind fun q210 => (Reader_append N x3 x3 q210.2).bind fun q216 => some (0, q216.2)
theorem Reader_appendRepetition_p177 (ao aa : Nat → Nat) {X : g_X} (hC : gC X c_Reader_appendRepetition R_Reader 3 66 6 none) (N : Nat) (x2 : Int32) (x3 : Int32) (s1 : Int32) (s2 : Int32) (σ : g_S) (r : Int32) (σe : g_S) (hf : Reader_appendRepetition_b177 N x2 x3 s1 s2 σ = some (r, σe)) : gw X (.inl none) (LC ao aa X.2.2.1 σe) (LC ao aa X.2.2.1 σ) [(0, .ref (ao 2)), (2, .int x2), (3, .int x3)] 177 [.int s2, .int s1, .ref (aa 9)] := by
  unfold Reader_appendRepetition_b177 at hf
  obtain ⟨q177, hq177, hf⟩ := g_bind hf
  refine gw_callS hC [.ref (aa 9), .int s1, .int s2] [] (Rows_write_m _ _ _ ao aa N _ _ _ _ _ _ hq177) kc_Reader_114 ⟨by decide, by decide⟩ (Nat.le_of_ble_eq_true rfl) [.int s2, .int s1, .ref (aa 9)] [] rfl rfl d_Reader_appendRepetition_177 ?_
  refine gw_aload_n hC 0 d_Reader_appendRepetition_180 rfl rfl ?_
  refine Cr_Reader_program hC kf_Reader_24 d_Reader_appendRepetition_181 ?_
  refine Cr_Program_groupsBefore hC kf_Reader_168 d_Reader_appendRepetition_184 ?_
  refine gw_iload_n hC 1 d_Reader_appendRepetition_187 rfl rfl ?_
  refine gw_aload_n hC 0 d_Reader_appendRepetition_188 rfl rfl ?_
  refine Cg21 hC kf_Reader_139 d_Reader_appendRepetition_189 (q177.2.1 21) rfl ?_
  obtain ⟨q192, hq192, hf⟩ := g_bind hf
  refine gw_callS hC [.ref (aa 10), .int x2, .int (q177.2.1 21)] [] (Rows_write_m _ _ _ ao aa N _ _ _ _ _ _ hq192) kc_Reader_114 ⟨by decide, by decide⟩ (Nat.le_of_ble_eq_true rfl) [.int (q177.2.1 21), .int x2, .ref (aa 10)] [] rfl rfl d_Reader_appendRepetition_192 ?_
  refine gw_aload_n hC 0 d_Reader_appendRepetition_195 rfl rfl ?_
  refine Cr_Reader_program hC kf_Reader_24 d_Reader_appendRepetition_196 ?_
  refine Cr_Program_groupsThrough hC kf_Reader_171 d_Reader_appendRepetition_199 ?_
  refine gw_iload_n hC 1 d_Reader_appendRepetition_202 rfl rfl ?_
  refine gw_aload_n hC 0 d_Reader_appendRepetition_203 rfl rfl ?_
  refine Cr_Reader_program hC kf_Reader_24 d_Reader_appendRepetition_204 ?_
  refine Cg8 hC kf_Reader_118 d_Reader_appendRepetition_207 (q192.2.1 8) rfl ?_
  obtain ⟨q210, hq210, hf⟩ := g_bind hf
  refine gw_callS hC [.ref (aa 11), .int x2, .int (q192.2.1 8)] [] (Rows_write_m _ _ _ ao aa N _ _ _ _ _ _ hq210) kc_Reader_114 ⟨by decide, by decide⟩ (Nat.le_of_ble_eq_true rfl) [.int (q192.2.1 8), .int x2, .ref (aa 11)] [] rfl rfl d_Reader_appendRepetition_210 ?_
  refine gw_aload_n hC 0 d_Reader_appendRepetition_213 rfl rfl ?_
  refine gw_iload_n hC 2 d_Reader_appendRepetition_214 rfl rfl ?_
  refine gw_iload_n hC 2 d_Reader_appendRepetition_215 rfl rfl ?_
  obtain ⟨q216, hq216, hf⟩ := g_bind hf
  refine gw_callV hC [.int x3, .int x3] [] (Reader_append_m _ _ _ ao aa N _ _ _ _ _ hq216) kc_Reader_130 2 (g_lay_obj rfl) rfl rfl ⟨by decide, by decide⟩ (Nat.le_of_ble_eq_true rfl) [.int x3, .int x3, .ref (ao 2)] [] rfl rfl d_Reader_appendRepetition_216 ?_
  cases hf
  exact gw_vret hC d_Reader_appendRepetition_219
def Reader_appendRepetition_b176 (N : Nat) (x2 : Int32) (x3 : Int32) (s1 : Int32) (σ : g_S) : Option (Int32 × g_S) := Reader_appendRepetition_b177 N x2 x3 s1 0 σ
theorem Reader_appendRepetition_p176 (ao aa : Nat → Nat) {X : g_X} (hC : gC X c_Reader_appendRepetition R_Reader 3 66 6 none) (N : Nat) (x2 : Int32) (x3 : Int32) (s1 : Int32) (σ : g_S) (r : Int32) (σe : g_S) (hf : Reader_appendRepetition_b176 N x2 x3 s1 σ = some (r, σe)) : gw X (.inl none) (LC ao aa X.2.2.1 σe) (LC ao aa X.2.2.1 σ) [(0, .ref (ao 2)), (2, .int x2), (3, .int x3)] 176 [.int s1, .ref (aa 9)] := by
  unfold Reader_appendRepetition_b176 at hf
  refine gw_iconst hC 0 d_Reader_appendRepetition_176 (by decide) ?_
  exact Reader_appendRepetition_p177 ao aa hC N _ _ _ _ _ _ _ hf
def Reader_appendRepetition_b172 (N : Nat) (x2 : Int32) (x3 : Int32) (s1 : Int32) (σ : g_S) : Option (Int32 × g_S) := Reader_appendRepetition_b177 N x2 x3 s1 1 σ
theorem Reader_appendRepetition_p172 (ao aa : Nat → Nat) {X : g_X} (hC : gC X c_Reader_appendRepetition R_Reader 3 66 6 none) (N : Nat) (x2 : Int32) (x3 : Int32) (s1 : Int32) (σ : g_S) (r : Int32) (σe : g_S) (hf : Reader_appendRepetition_b172 N x2 x3 s1 σ = some (r, σe)) : gw X (.inl none) (LC ao aa X.2.2.1 σe) (LC ao aa X.2.2.1 σ) [(0, .ref (ao 2)), (2, .int x2), (3, .int x3)] 172 [.int s1, .ref (aa 9)] := by
  unfold Reader_appendRepetition_b172 at hf
  refine gw_iconst hC 1 d_Reader_appendRepetition_172 (by decide) ?_
  refine gw_goto hC 177 d_Reader_appendRepetition_173 (by decide) ?_
  exact Reader_appendRepetition_p177 ao aa hC N _ _ _ _ _ _ _ hf
def Reader_appendRepetition_b33 (N : Nat) (x1 : Int32) (σ : g_S) : Option (Int32 × g_S) := (Program_addNode N 12 (σ.1 6) 0 (gF σ 6 ((σ.1 6) + 1))).bind fun q62 => (Program_addNode N 13 (σ.1 6) 0 q62.2).bind fun q74 => (Program_addNode N 14 (σ.1 6) 0 q74.2).bind fun q87 => (Program_link N q74.1 (q87.2.1 19) q87.2).bind fun q102 => (Program_link N (q102.2.1 20) q87.1 q102.2).bind fun q115 => (Rows_write N 12 (σ.1 6) q62.1 q115.2).bind fun q127 => (Rows_write N 7 (σ.1 6) (q127.2.1 17) q127.2).bind fun q142 => (Rows_write N 8 (σ.1 6) (q142.2.1 18) q142.2).bind fun q157 => if x1 = 0 then Reader_appendRepetition_b176 N (σ.1 6) q62.1 (σ.1 6) q157.2 else Reader_appendRepetition_b172 N (σ.1 6) q62.1 (σ.1 6) q157.2
theorem Reader_appendRepetition_p33 (ao aa : Nat → Nat) {X : g_X} (hC : gC X c_Reader_appendRepetition R_Reader 3 66 6 none) (N : Nat) (x1 : Int32) (σ : g_S) (r : Int32) (σe : g_S) (hf : Reader_appendRepetition_b33 N x1 σ = some (r, σe)) : gw X (.inl none) (LC ao aa X.2.2.1 σe) (LC ao aa X.2.2.1 σ) [(0, .ref (ao 2)), (1, .int x1)] 33 [] := by
  unfold Reader_appendRepetition_b33 at hf
  refine gw_aload_n hC 0 d_Reader_appendRepetition_33 rfl rfl ?_
  refine Cr_Reader_program hC kf_Reader_24 d_Reader_appendRepetition_34 ?_
  refine Cg6 hC kf_Reader_149 d_Reader_appendRepetition_37 (σ.1 6) rfl ?_
  refine gw_istore_n hC [(2, .int (σ.1 6)), (0, .ref (ao 2)), (1, .int x1)] d_Reader_appendRepetition_40 rfl (by decide) rfl ?_
  refine gw_aload_n hC 1 d_Reader_appendRepetition_41 rfl rfl ?_
  refine Cr_Reader_program hC kf_Reader_24 d_Reader_appendRepetition_42 ?_
  refine gw_dup hC d_Reader_appendRepetition_45 rfl ?_
  refine Cg6 hC kf_Reader_149 d_Reader_appendRepetition_46 (σ.1 6) rfl ?_
  refine gw_iconst hC 1 d_Reader_appendRepetition_49 (by decide) ?_
  refine gw_iadd hC d_Reader_appendRepetition_50 ?_
  refine Cp6 hC kf_Reader_149 d_Reader_appendRepetition_51 ?_
  refine gw_aload_n hC 1 d_Reader_appendRepetition_54 rfl rfl ?_
  refine Cr_Reader_program hC kf_Reader_24 d_Reader_appendRepetition_55 ?_
  refine gw_bipush hC 12 d_Reader_appendRepetition_58 (by decide) ?_
  refine gw_iload_n hC 0 d_Reader_appendRepetition_60 rfl rfl ?_
  refine gw_iconst hC 0 d_Reader_appendRepetition_61 (by decide) ?_
  obtain ⟨q62, hq62, hf⟩ := g_bind hf
  refine gw_callV hC [.int 12, .int (σ.1 6), .int 0] [] (Program_addNode_m _ _ _ ao aa N _ _ _ _ _ _ hq62) kc_Reader_52 1 (g_lay_obj rfl) rfl rfl ⟨by decide, by decide⟩ (Nat.le_of_ble_eq_true rfl) [.int 0, .int (σ.1 6), .int 12, .ref (ao 1)] [.int q62.1] rfl rfl d_Reader_appendRepetition_62 ?_
  refine gw_istore_n hC [(3, .int q62.1), (2, .int (σ.1 6)), (0, .ref (ao 2)), (1, .int x1)] d_Reader_appendRepetition_65 rfl (by decide) rfl ?_
  refine gw_aload_n hC 2 d_Reader_appendRepetition_66 rfl rfl ?_
  refine Cr_Reader_program hC kf_Reader_24 d_Reader_appendRepetition_67 ?_
  refine gw_bipush hC 13 d_Reader_appendRepetition_70 (by decide) ?_
  refine gw_iload_n hC 1 d_Reader_appendRepetition_72 rfl rfl ?_
  refine gw_iconst hC 0 d_Reader_appendRepetition_73 (by decide) ?_
  obtain ⟨q74, hq74, hf⟩ := g_bind hf
  refine gw_callV hC [.int 13, .int (σ.1 6), .int 0] [] (Program_addNode_m _ _ _ ao aa N _ _ _ _ _ _ hq74) kc_Reader_52 1 (g_lay_obj rfl) rfl rfl ⟨by decide, by decide⟩ (Nat.le_of_ble_eq_true rfl) [.int 0, .int (σ.1 6), .int 13, .ref (ao 1)] [.int q74.1] rfl rfl d_Reader_appendRepetition_74 ?_
  refine gw_istore hC [(4, .int q74.1), (3, .int q62.1), (2, .int (σ.1 6)), (0, .ref (ao 2)), (1, .int x1)] d_Reader_appendRepetition_77 (by decide) rfl ?_
  refine gw_aload_n hC 3 d_Reader_appendRepetition_79 rfl rfl ?_
  refine Cr_Reader_program hC kf_Reader_24 d_Reader_appendRepetition_80 ?_
  refine gw_bipush hC 14 d_Reader_appendRepetition_83 (by decide) ?_
  refine gw_iload_n hC 2 d_Reader_appendRepetition_85 rfl rfl ?_
  refine gw_iconst hC 0 d_Reader_appendRepetition_86 (by decide) ?_
  obtain ⟨q87, hq87, hf⟩ := g_bind hf
  refine gw_callV hC [.int 14, .int (σ.1 6), .int 0] [] (Program_addNode_m _ _ _ ao aa N _ _ _ _ _ _ hq87) kc_Reader_52 1 (g_lay_obj rfl) rfl rfl ⟨by decide, by decide⟩ (Nat.le_of_ble_eq_true rfl) [.int 0, .int (σ.1 6), .int 14, .ref (ao 1)] [.int q87.1] rfl rfl d_Reader_appendRepetition_87 ?_
  refine gw_istore hC [(5, .int q87.1), (4, .int q74.1), (3, .int q62.1), (2, .int (σ.1 6)), (0, .ref (ao 2)), (1, .int x1)] d_Reader_appendRepetition_90 (by decide) rfl ?_
  refine gw_aload_n hC 4 d_Reader_appendRepetition_92 rfl rfl ?_
  refine Cr_Reader_program hC kf_Reader_24 d_Reader_appendRepetition_93 ?_
  refine gw_iload hC 1 d_Reader_appendRepetition_96 rfl ?_
  refine gw_aload_n hC 4 d_Reader_appendRepetition_98 rfl rfl ?_
  refine Cg19 hC kf_Reader_46 d_Reader_appendRepetition_99 (q87.2.1 19) rfl ?_
  obtain ⟨q102, hq102, hf⟩ := g_bind hf
  refine gw_callV hC [.int q74.1, .int (q87.2.1 19)] [] (Program_link_m _ _ _ ao aa N _ _ _ _ _ hq102) kc_Reader_72 1 (g_lay_obj rfl) rfl rfl ⟨by decide, by decide⟩ (Nat.le_of_ble_eq_true rfl) [.int (q87.2.1 19), .int q74.1, .ref (ao 1)] [] rfl rfl d_Reader_appendRepetition_102 ?_
  refine gw_aload_n hC 4 d_Reader_appendRepetition_105 rfl rfl ?_
  refine Cr_Reader_program hC kf_Reader_24 d_Reader_appendRepetition_106 ?_
  refine gw_aload_n hC 4 d_Reader_appendRepetition_109 rfl rfl ?_
  refine Cg20 hC kf_Reader_136 d_Reader_appendRepetition_110 (q102.2.1 20) rfl ?_
  refine gw_iload hC 0 d_Reader_appendRepetition_113 rfl ?_
  obtain ⟨q115, hq115, hf⟩ := g_bind hf
  refine gw_callV hC [.int (q102.2.1 20), .int q87.1] [] (Program_link_m _ _ _ ao aa N _ _ _ _ _ hq115) kc_Reader_72 1 (g_lay_obj rfl) rfl rfl ⟨by decide, by decide⟩ (Nat.le_of_ble_eq_true rfl) [.int q87.1, .int (q102.2.1 20), .ref (ao 1)] [] rfl rfl d_Reader_appendRepetition_115 ?_
  refine gw_aload_n hC 4 d_Reader_appendRepetition_118 rfl rfl ?_
  refine Cr_Reader_program hC kf_Reader_24 d_Reader_appendRepetition_119 ?_
  refine Cr_Program_head hC kf_Reader_152 d_Reader_appendRepetition_122 ?_
  refine gw_iload_n hC 3 d_Reader_appendRepetition_125 rfl rfl ?_
  refine gw_iload_n hC 2 d_Reader_appendRepetition_126 rfl rfl ?_
  obtain ⟨q127, hq127, hf⟩ := g_bind hf
  refine gw_callS hC [.ref (aa 12), .int (σ.1 6), .int q62.1] [] (Rows_write_m _ _ _ ao aa N _ _ _ _ _ _ hq127) kc_Reader_114 ⟨by decide, by decide⟩ (Nat.le_of_ble_eq_true rfl) [.int q62.1, .int (σ.1 6), .ref (aa 12)] [] rfl rfl d_Reader_appendRepetition_127 ?_
  refine gw_aload_n hC 4 d_Reader_appendRepetition_130 rfl rfl ?_
  refine Cr_Reader_program hC kf_Reader_24 d_Reader_appendRepetition_131 ?_
  refine Cr_Program_least hC kf_Reader_155 d_Reader_appendRepetition_134 ?_
  refine gw_iload_n hC 3 d_Reader_appendRepetition_137 rfl rfl ?_
  refine gw_aload_n hC 4 d_Reader_appendRepetition_138 rfl rfl ?_
  refine Cg17 hC kf_Reader_158 d_Reader_appendRepetition_139 (q127.2.1 17) rfl ?_
  obtain ⟨q142, hq142, hf⟩ := g_bind hf
  refine gw_callS hC [.ref (aa 7), .int (σ.1 6), .int (q127.2.1 17)] [] (Rows_write_m _ _ _ ao aa N _ _ _ _ _ _ hq142) kc_Reader_114 ⟨by decide, by decide⟩ (Nat.le_of_ble_eq_true rfl) [.int (q127.2.1 17), .int (σ.1 6), .ref (aa 7)] [] rfl rfl d_Reader_appendRepetition_142 ?_
  refine gw_aload_n hC 4 d_Reader_appendRepetition_145 rfl rfl ?_
  refine Cr_Reader_program hC kf_Reader_24 d_Reader_appendRepetition_146 ?_
  refine Cr_Program_most hC kf_Reader_160 d_Reader_appendRepetition_149 ?_
  refine gw_iload_n hC 3 d_Reader_appendRepetition_152 rfl rfl ?_
  refine gw_aload_n hC 4 d_Reader_appendRepetition_153 rfl rfl ?_
  refine Cg18 hC kf_Reader_163 d_Reader_appendRepetition_154 (q142.2.1 18) rfl ?_
  obtain ⟨q157, hq157, hf⟩ := g_bind hf
  refine gw_callS hC [.ref (aa 8), .int (σ.1 6), .int (q142.2.1 18)] [] (Rows_write_m _ _ _ ao aa N _ _ _ _ _ _ hq157) kc_Reader_114 ⟨by decide, by decide⟩ (Nat.le_of_ble_eq_true rfl) [.int (q142.2.1 18), .int (σ.1 6), .ref (aa 8)] [] rfl rfl d_Reader_appendRepetition_157 ?_
  refine gw_aload_n hC 4 d_Reader_appendRepetition_160 rfl rfl ?_
  refine Cr_Reader_program hC kf_Reader_24 d_Reader_appendRepetition_161 ?_
  refine Cr_Program_lazy hC kf_Reader_165 d_Reader_appendRepetition_164 ?_
  refine gw_iload_n hC 3 d_Reader_appendRepetition_167 rfl rfl ?_
  refine gw_iload_n hC 5 d_Reader_appendRepetition_168 rfl rfl ?_
  refine gw_if_eq hC 176 d_Reader_appendRepetition_169 (by decide) (fun hh => ?_) (fun hh => ?_)
  · rw [if_pos hh] at hf
    refine gw_lv [4, 3, 2] rfl ?_
    exact Reader_appendRepetition_p176 ao aa hC N _ _ _ _ _ _ hf
  · rw [if_neg hh] at hf
    refine gw_lv [4, 3, 2] rfl ?_
    exact Reader_appendRepetition_p172 ao aa hC N _ _ _ _ _ _ hf
def Reader_appendRepetition_b23 (N : Nat) (x1 : Int32) (σ : g_S) : Option (Int32 × g_S) := Reader_appendRepetition_b33 N x1 (gF σ 12 ((σ.1 12) + 1))
theorem Reader_appendRepetition_p23 (ao aa : Nat → Nat) {X : g_X} (hC : gC X c_Reader_appendRepetition R_Reader 3 66 6 none) (N : Nat) (x1 : Int32) (σ : g_S) (r : Int32) (σe : g_S) (hf : Reader_appendRepetition_b23 N x1 σ = some (r, σe)) : gw X (.inl none) (LC ao aa X.2.2.1 σe) (LC ao aa X.2.2.1 σ) [(0, .ref (ao 2)), (1, .int x1)] 23 [] := by
  unfold Reader_appendRepetition_b23 at hf
  refine gw_aload_n hC 0 d_Reader_appendRepetition_23 rfl rfl ?_
  refine gw_dup hC d_Reader_appendRepetition_24 rfl ?_
  refine Cg12 hC kf_Reader_35 d_Reader_appendRepetition_25 (σ.1 12) rfl ?_
  refine gw_iconst hC 1 d_Reader_appendRepetition_28 (by decide) ?_
  refine gw_iadd hC d_Reader_appendRepetition_29 ?_
  refine Cp12 hC kf_Reader_35 d_Reader_appendRepetition_30 ?_
  exact Reader_appendRepetition_p33 ao aa hC N _ _ _ _ hf
def Reader_appendRepetition_b18 (N : Nat) (s0 : Int32) (σ : g_S) : Option (Int32 × g_S) := if s0 = 0 then Reader_appendRepetition_b33 N s0 σ else Reader_appendRepetition_b23 N s0 σ
theorem Reader_appendRepetition_p18 (ao aa : Nat → Nat) {X : g_X} (hC : gC X c_Reader_appendRepetition R_Reader 3 66 6 none) (N : Nat) (s0 : Int32) (σ : g_S) (r : Int32) (σe : g_S) (hf : Reader_appendRepetition_b18 N s0 σ = some (r, σe)) : gw X (.inl none) (LC ao aa X.2.2.1 σe) (LC ao aa X.2.2.1 σ) [(0, .ref (ao 2))] 18 [.int s0] := by
  unfold Reader_appendRepetition_b18 at hf
  refine gw_istore_n hC [(1, .int s0), (0, .ref (ao 2))] d_Reader_appendRepetition_18 rfl (by decide) rfl ?_
  refine gw_iload_n hC 0 d_Reader_appendRepetition_19 rfl rfl ?_
  refine gw_if_eq hC 33 d_Reader_appendRepetition_20 (by decide) (fun hh => ?_) (fun hh => ?_)
  · rw [if_pos hh] at hf
    refine gw_lv [1, 0] rfl ?_
    exact Reader_appendRepetition_p33 ao aa hC N _ _ _ _ hf
  · rw [if_neg hh] at hf
    refine gw_lv [1, 0] rfl ?_
    exact Reader_appendRepetition_p23 ao aa hC N _ _ _ _ hf
def Reader_appendRepetition_b17 (N : Nat) (σ : g_S) : Option (Int32 × g_S) := Reader_appendRepetition_b18 N 0 σ
theorem Reader_appendRepetition_p17 (ao aa : Nat → Nat) {X : g_X} (hC : gC X c_Reader_appendRepetition R_Reader 3 66 6 none) (N : Nat) (σ : g_S) (r : Int32) (σe : g_S) (hf : Reader_appendRepetition_b17 N σ = some (r, σe)) : gw X (.inl none) (LC ao aa X.2.2.1 σe) (LC ao aa X.2.2.1 σ) [(0, .ref (ao 2))] 17 [] := by
  unfold Reader_appendRepetition_b17 at hf
  refine gw_iconst hC 0 d_Reader_appendRepetition_17 (by decide) ?_
  exact Reader_appendRepetition_p18 ao aa hC N _ _ _ _ hf
def Reader_appendRepetition_b13 (N : Nat) (σ : g_S) : Option (Int32 × g_S) := Reader_appendRepetition_b18 N 1 σ
theorem Reader_appendRepetition_p13 (ao aa : Nat → Nat) {X : g_X} (hC : gC X c_Reader_appendRepetition R_Reader 3 66 6 none) (N : Nat) (σ : g_S) (r : Int32) (σe : g_S) (hf : Reader_appendRepetition_b13 N σ = some (r, σe)) : gw X (.inl none) (LC ao aa X.2.2.1 σe) (LC ao aa X.2.2.1 σ) [(0, .ref (ao 2))] 13 [] := by
  unfold Reader_appendRepetition_b13 at hf
  refine gw_iconst hC 1 d_Reader_appendRepetition_13 (by decide) ?_
  refine gw_goto hC 18 d_Reader_appendRepetition_14 (by decide) ?_
  exact Reader_appendRepetition_p18 ao aa hC N _ _ _ _ hf
def Reader_appendRepetition_b0 (N : Nat) (σ : g_S) : Option (Int32 × g_S) := (Reader_unitAt N (σ.1 12) σ).bind fun q5 => if q5.1 = 63 then Reader_appendRepetition_b13 N q5.2 else Reader_appendRepetition_b17 N q5.2
theorem Reader_appendRepetition_p0 (ao aa : Nat → Nat) {X : g_X} (hC : gC X c_Reader_appendRepetition R_Reader 3 66 6 none) (N : Nat) (σ : g_S) (r : Int32) (σe : g_S) (hf : Reader_appendRepetition_b0 N σ = some (r, σe)) : gw X (.inl none) (LC ao aa X.2.2.1 σe) (LC ao aa X.2.2.1 σ) [(0, .ref (ao 2))] 0 [] := by
  unfold Reader_appendRepetition_b0 at hf
  refine gw_aload_n hC 0 d_Reader_appendRepetition_0 rfl rfl ?_
  refine gw_aload_n hC 0 d_Reader_appendRepetition_1 rfl rfl ?_
  refine Cg12 hC kf_Reader_35 d_Reader_appendRepetition_2 (σ.1 12) rfl ?_
  obtain ⟨q5, hq5, hf⟩ := g_bind hf
  refine gw_callV hC [.int (σ.1 12)] [] (Reader_unitAt_m _ _ _ ao aa N _ _ _ _ hq5) kc_Reader_76 2 (g_lay_obj rfl) rfl rfl ⟨by decide, by decide⟩ (Nat.le_of_ble_eq_true rfl) [.int (σ.1 12), .ref (ao 2)] [.int q5.1] rfl rfl d_Reader_appendRepetition_5 ?_
  refine gw_bipush hC 63 d_Reader_appendRepetition_8 (by decide) ?_
  refine gw_icmp_ne hC 17 d_Reader_appendRepetition_10 (by decide) (fun hh => ?_) (fun hh => ?_)
  · rw [if_neg hh] at hf
    exact Reader_appendRepetition_p17 ao aa hC N _ _ _ hf
  · rw [if_pos hh] at hf
    exact Reader_appendRepetition_p13 ao aa hC N _ _ _ hf
def Reader_appendRepetition (N : Nat) (σ : g_S) : Option (Int32 × g_S) := Reader_appendRepetition_b0 N  σ
theorem Reader_appendRepetition_m (l : Launch) (D : va_G) (cA : ClassId) (ao aa : Nat → Nat) (N : Nat) (σ : g_S) (r : Int32) (σe : g_S) (hf : Reader_appendRepetition N σ = some (r, σe)) : Mt l D cA y_Reader_appendRepetition c_Reader_appendRepetition 6 none 3 66 [.ref (ao 2)] (LC ao aa cA σ) none (LC ao aa cA σe) := by
  refine g_met (by decide +kernel) (by simp [lg_sl, Value.category]) (fun X e1 e2 e3 hC => ?_)
  subst e1 e2 e3
  refine gw_lv [0] rfl ?_
  exact Reader_appendRepetition_p0 ao aa hC N _ (r) _ hf
def Reader_appendAtom_b26 (N : Nat) (σ : g_S) : Option (Int32 × g_S) := some (0, (gF σ 19 (-1)))
theorem Reader_appendAtom_p26 (ao aa : Nat → Nat) {X : g_X} (hC : gC X c_Reader_appendAtom R_Reader 4 93 1 none) (N : Nat) (σ : g_S) (r : Int32) (σe : g_S) (hf : Reader_appendAtom_b26 N σ = some (r, σe)) : gw X (.inl none) (LC ao aa X.2.2.1 σe) (LC ao aa X.2.2.1 σ) [(0, .ref (ao 2))] 26 [] := by
  unfold Reader_appendAtom_b26 at hf
  refine gw_aload_n hC 0 d_Reader_appendAtom_26 rfl rfl ?_
  refine gw_iconst hC (-1) d_Reader_appendAtom_27 (by decide) ?_
  refine Cp19 hC kf_Reader_46 d_Reader_appendAtom_28 ?_
  cases hf
  exact gw_vret hC d_Reader_appendAtom_31
def Reader_appendAtom_b14 (N : Nat) (σ : g_S) : Option (Int32 × g_S) := (Reader_append N (σ.1 19) (σ.1 20) σ).bind fun q23 => Reader_appendAtom_b26 N q23.2
theorem Reader_appendAtom_p14 (ao aa : Nat → Nat) {X : g_X} (hC : gC X c_Reader_appendAtom R_Reader 4 93 1 none) (N : Nat) (σ : g_S) (r : Int32) (σe : g_S) (hf : Reader_appendAtom_b14 N σ = some (r, σe)) : gw X (.inl none) (LC ao aa X.2.2.1 σe) (LC ao aa X.2.2.1 σ) [(0, .ref (ao 2))] 14 [] := by
  unfold Reader_appendAtom_b14 at hf
  refine gw_aload_n hC 0 d_Reader_appendAtom_14 rfl rfl ?_
  refine gw_aload_n hC 0 d_Reader_appendAtom_15 rfl rfl ?_
  refine Cg19 hC kf_Reader_46 d_Reader_appendAtom_16 (σ.1 19) rfl ?_
  refine gw_aload_n hC 0 d_Reader_appendAtom_19 rfl rfl ?_
  refine Cg20 hC kf_Reader_136 d_Reader_appendAtom_20 (σ.1 20) rfl ?_
  obtain ⟨q23, hq23, hf⟩ := g_bind hf
  refine gw_callV hC [.int (σ.1 19), .int (σ.1 20)] [] (Reader_append_m _ _ _ ao aa N _ _ _ _ _ hq23) kc_Reader_130 2 (g_lay_obj rfl) rfl rfl ⟨by decide, by decide⟩ (Nat.le_of_ble_eq_true rfl) [.int (σ.1 20), .int (σ.1 19), .ref (ao 2)] [] rfl rfl d_Reader_appendAtom_23 ?_
  exact Reader_appendAtom_p26 ao aa hC N _ _ _ hf
def Reader_appendAtom_b7 (N : Nat) (σ : g_S) : Option (Int32 × g_S) := (Reader_appendRepetition N σ).bind fun q8 => Reader_appendAtom_b26 N q8.2
theorem Reader_appendAtom_p7 (ao aa : Nat → Nat) {X : g_X} (hC : gC X c_Reader_appendAtom R_Reader 4 93 1 none) (N : Nat) (σ : g_S) (r : Int32) (σe : g_S) (hf : Reader_appendAtom_b7 N σ = some (r, σe)) : gw X (.inl none) (LC ao aa X.2.2.1 σe) (LC ao aa X.2.2.1 σ) [(0, .ref (ao 2))] 7 [] := by
  unfold Reader_appendAtom_b7 at hf
  refine gw_aload_n hC 0 d_Reader_appendAtom_7 rfl rfl ?_
  obtain ⟨q8, hq8, hf⟩ := g_bind hf
  refine gw_callV hC [] [] (Reader_appendRepetition_m _ _ _ ao aa N _ _ _ hq8) kc_Reader_146 2 (g_lay_obj rfl) rfl rfl ⟨by decide, by decide⟩ (Nat.le_of_ble_eq_true rfl) [.ref (ao 2)] [] rfl rfl d_Reader_appendAtom_8 ?_
  refine gw_goto hC 26 d_Reader_appendAtom_11 (by decide) ?_
  exact Reader_appendAtom_p26 ao aa hC N _ _ _ hf
def Reader_appendAtom_b0 (N : Nat) (σ : g_S) : Option (Int32 × g_S) := (Reader_readQuantifier N σ).bind fun q1 => if q1.1 = 0 then Reader_appendAtom_b14 N q1.2 else Reader_appendAtom_b7 N q1.2
theorem Reader_appendAtom_p0 (ao aa : Nat → Nat) {X : g_X} (hC : gC X c_Reader_appendAtom R_Reader 4 93 1 none) (N : Nat) (σ : g_S) (r : Int32) (σe : g_S) (hf : Reader_appendAtom_b0 N σ = some (r, σe)) : gw X (.inl none) (LC ao aa X.2.2.1 σe) (LC ao aa X.2.2.1 σ) [(0, .ref (ao 2))] 0 [] := by
  unfold Reader_appendAtom_b0 at hf
  refine gw_aload_n hC 0 d_Reader_appendAtom_0 rfl rfl ?_
  obtain ⟨q1, hq1, hf⟩ := g_bind hf
  refine gw_callV hC [] [] (Reader_readQuantifier_m _ _ _ ao aa N _ _ _ hq1) kc_Reader_142 2 (g_lay_obj rfl) rfl rfl ⟨by decide, by decide⟩ (Nat.le_of_ble_eq_true rfl) [.ref (ao 2)] [.int q1.1] rfl rfl d_Reader_appendAtom_1 ?_
  refine gw_if_eq hC 14 d_Reader_appendAtom_4 (by decide) (fun hh => ?_) (fun hh => ?_)
  · rw [if_pos hh] at hf
    exact Reader_appendAtom_p14 ao aa hC N _ _ _ hf
  · rw [if_neg hh] at hf
    exact Reader_appendAtom_p7 ao aa hC N _ _ _ hf
def Reader_appendAtom (N : Nat) (σ : g_S) : Option (Int32 × g_S) := Reader_appendAtom_b0 N  σ
theorem Reader_appendAtom_m (l : Launch) (D : va_G) (cA : ClassId) (ao aa : Nat → Nat) (N : Nat) (σ : g_S) (r : Int32) (σe : g_S) (hf : Reader_appendAtom N σ = some (r, σe)) : Mt l D cA y_Reader_appendAtom c_Reader_appendAtom 1 none 4 93 [.ref (ao 2)] (LC ao aa cA σ) none (LC ao aa cA σe) := by
  refine g_met (by decide +kernel) (by simp [lg_sl, Value.category]) (fun X e1 e2 e3 hC => ?_)
  subst e1 e2 e3
  refine gw_lv [0] rfl ?_
  exact Reader_appendAtom_p0 ao aa hC N _ (r) _ hf
def Reader_tooGreatReference_b68 (N : Nat) (σ : g_S) : Option (Int32 × g_S) := some ((-1), σ)
theorem Reader_tooGreatReference_p68 (ao aa : Nat → Nat) {X : g_X} (hC : gC X c_Reader_tooGreatReference R_Reader 1 21 2 (some .int)) (N : Nat) (σ : g_S) (r : Int32) (σe : g_S) (hf : Reader_tooGreatReference_b68 N σ = some (r, σe)) : gw X (.inl (some (.int r))) (LC ao aa X.2.2.1 σe) (LC ao aa X.2.2.1 σ) [(0, .ref (ao 2))] 68 [] := by
  unfold Reader_tooGreatReference_b68 at hf
  refine gw_iconst hC (-1) d_Reader_tooGreatReference_68 (by decide) ?_
  cases hf
  exact gw_iret hC d_Reader_tooGreatReference_69
def Reader_tooGreatReference_b62 (N : Nat) (k2 : Int32 → g_S → Option (Int32 × g_S)) (x1 : Int32) (σ : g_S) : Option (Int32 × g_S) := k2 (x1 + 1) σ
theorem Reader_tooGreatReference_p62 (ao aa : Nat → Nat) {X : g_X} (hC : gC X c_Reader_tooGreatReference R_Reader 1 21 2 (some .int)) (N : Nat) (k2 : Int32 → g_S → Option (Int32 × g_S)) (hk2 : ∀ (x1 : Int32) (σ : g_S) (r : Int32) (σe : g_S), k2 x1 σ = some (r, σe) → gw X (.inl (some (.int r))) (LC ao aa X.2.2.1 σe) (LC ao aa X.2.2.1 σ) [(0, .ref (ao 2)), (1, .int x1)] 2 []) (x1 : Int32) (σ : g_S) (r : Int32) (σe : g_S) (hf : Reader_tooGreatReference_b62 N k2 x1 σ = some (r, σe)) : gw X (.inl (some (.int r))) (LC ao aa X.2.2.1 σe) (LC ao aa X.2.2.1 σ) [(0, .ref (ao 2)), (1, .int x1)] 62 [] := by
  unfold Reader_tooGreatReference_b62 at hf
  refine gw_iinc hC (x1 + 1) 1 [(1, .int (x1 + 1)), (0, .ref (ao 2))] d_Reader_tooGreatReference_62 rfl rfl (by decide) rfl ?_
  refine gw_goto hC 2 d_Reader_tooGreatReference_65 (by decide) ?_
  refine gw_lv [1, 0] rfl ?_
  exact hk2 _ _ _ _ hf
def Reader_tooGreatReference_b50 (N : Nat) (x1 : Int32) (σ : g_S) : Option (Int32 × g_S) := (Rows_read N 4 x1 σ).bind fun q58 => some (q58.1, q58.2)
theorem Reader_tooGreatReference_p50 (ao aa : Nat → Nat) {X : g_X} (hC : gC X c_Reader_tooGreatReference R_Reader 1 21 2 (some .int)) (N : Nat) (x1 : Int32) (σ : g_S) (r : Int32) (σe : g_S) (hf : Reader_tooGreatReference_b50 N x1 σ = some (r, σe)) : gw X (.inl (some (.int r))) (LC ao aa X.2.2.1 σe) (LC ao aa X.2.2.1 σ) [(0, .ref (ao 2)), (1, .int x1)] 50 [] := by
  unfold Reader_tooGreatReference_b50 at hf
  refine gw_aload_n hC 0 d_Reader_tooGreatReference_50 rfl rfl ?_
  refine Cr_Reader_program hC kf_Reader_24 d_Reader_tooGreatReference_51 ?_
  refine Cr_Program_second hC kf_Reader_241 d_Reader_tooGreatReference_54 ?_
  refine gw_iload_n hC 1 d_Reader_tooGreatReference_57 rfl rfl ?_
  obtain ⟨q58, hq58, hf⟩ := g_bind hf
  refine gw_callS hC [.ref (aa 4), .int x1] [] (Rows_read_m _ _ _ ao aa N _ _ _ _ _ hq58) kc_Reader_105 ⟨by decide, by decide⟩ (Nat.le_of_ble_eq_true rfl) [.int x1, .ref (aa 4)] [.int q58.1] rfl rfl d_Reader_tooGreatReference_58 ?_
  cases hf
  exact gw_iret hC d_Reader_tooGreatReference_61
def Reader_tooGreatReference_b29 (N : Nat) (k2 : Int32 → g_S → Option (Int32 × g_S)) (x1 : Int32) (σ : g_S) : Option (Int32 × g_S) := (Rows_read N 3 x1 σ).bind fun q37 => if q37.1 ≤ (q37.2.1 8) then Reader_tooGreatReference_b62 N k2 x1 q37.2 else Reader_tooGreatReference_b50 N x1 q37.2
theorem Reader_tooGreatReference_p29 (ao aa : Nat → Nat) {X : g_X} (hC : gC X c_Reader_tooGreatReference R_Reader 1 21 2 (some .int)) (N : Nat) (k2 : Int32 → g_S → Option (Int32 × g_S)) (hk2 : ∀ (x1 : Int32) (σ : g_S) (r : Int32) (σe : g_S), k2 x1 σ = some (r, σe) → gw X (.inl (some (.int r))) (LC ao aa X.2.2.1 σe) (LC ao aa X.2.2.1 σ) [(0, .ref (ao 2)), (1, .int x1)] 2 []) (x1 : Int32) (σ : g_S) (r : Int32) (σe : g_S) (hf : Reader_tooGreatReference_b29 N k2 x1 σ = some (r, σe)) : gw X (.inl (some (.int r))) (LC ao aa X.2.2.1 σe) (LC ao aa X.2.2.1 σ) [(0, .ref (ao 2)), (1, .int x1)] 29 [] := by
  unfold Reader_tooGreatReference_b29 at hf
  refine gw_aload_n hC 0 d_Reader_tooGreatReference_29 rfl rfl ?_
  refine Cr_Reader_program hC kf_Reader_24 d_Reader_tooGreatReference_30 ?_
  refine Cr_Program_first hC kf_Reader_111 d_Reader_tooGreatReference_33 ?_
  refine gw_iload_n hC 1 d_Reader_tooGreatReference_36 rfl rfl ?_
  obtain ⟨q37, hq37, hf⟩ := g_bind hf
  refine gw_callS hC [.ref (aa 3), .int x1] [] (Rows_read_m _ _ _ ao aa N _ _ _ _ _ hq37) kc_Reader_105 ⟨by decide, by decide⟩ (Nat.le_of_ble_eq_true rfl) [.int x1, .ref (aa 3)] [.int q37.1] rfl rfl d_Reader_tooGreatReference_37 ?_
  refine gw_aload_n hC 0 d_Reader_tooGreatReference_40 rfl rfl ?_
  refine Cr_Reader_program hC kf_Reader_24 d_Reader_tooGreatReference_41 ?_
  refine Cg8 hC kf_Reader_118 d_Reader_tooGreatReference_44 (q37.2.1 8) rfl ?_
  refine gw_icmp_le hC 62 d_Reader_tooGreatReference_47 (by decide) (fun hh => ?_) (fun hh => ?_)
  · rw [if_pos hh] at hf
    exact Reader_tooGreatReference_p62 ao aa hC N _ hk2 _ _ _ _ hf
  · rw [if_neg hh] at hf
    exact Reader_tooGreatReference_p50 ao aa hC N _ _ _ _ hf
def Reader_tooGreatReference_b13 (N : Nat) (k2 : Int32 → g_S → Option (Int32 × g_S)) (x1 : Int32) (σ : g_S) : Option (Int32 × g_S) := (Rows_read N 1 x1 σ).bind fun q21 => if q21.1 = 6 then Reader_tooGreatReference_b29 N k2 x1 q21.2 else Reader_tooGreatReference_b62 N k2 x1 q21.2
theorem Reader_tooGreatReference_p13 (ao aa : Nat → Nat) {X : g_X} (hC : gC X c_Reader_tooGreatReference R_Reader 1 21 2 (some .int)) (N : Nat) (k2 : Int32 → g_S → Option (Int32 × g_S)) (hk2 : ∀ (x1 : Int32) (σ : g_S) (r : Int32) (σe : g_S), k2 x1 σ = some (r, σe) → gw X (.inl (some (.int r))) (LC ao aa X.2.2.1 σe) (LC ao aa X.2.2.1 σ) [(0, .ref (ao 2)), (1, .int x1)] 2 []) (x1 : Int32) (σ : g_S) (r : Int32) (σe : g_S) (hf : Reader_tooGreatReference_b13 N k2 x1 σ = some (r, σe)) : gw X (.inl (some (.int r))) (LC ao aa X.2.2.1 σe) (LC ao aa X.2.2.1 σ) [(0, .ref (ao 2)), (1, .int x1)] 13 [] := by
  unfold Reader_tooGreatReference_b13 at hf
  refine gw_aload_n hC 0 d_Reader_tooGreatReference_13 rfl rfl ?_
  refine Cr_Reader_program hC kf_Reader_24 d_Reader_tooGreatReference_14 ?_
  refine Cr_Program_kind hC kf_Reader_127 d_Reader_tooGreatReference_17 ?_
  refine gw_iload_n hC 1 d_Reader_tooGreatReference_20 rfl rfl ?_
  obtain ⟨q21, hq21, hf⟩ := g_bind hf
  refine gw_callS hC [.ref (aa 1), .int x1] [] (Rows_read_m _ _ _ ao aa N _ _ _ _ _ hq21) kc_Reader_105 ⟨by decide, by decide⟩ (Nat.le_of_ble_eq_true rfl) [.int x1, .ref (aa 1)] [.int q21.1] rfl rfl d_Reader_tooGreatReference_21 ?_
  refine gw_bipush hC 6 d_Reader_tooGreatReference_24 (by decide) ?_
  refine gw_icmp_ne hC 62 d_Reader_tooGreatReference_26 (by decide) (fun hh => ?_) (fun hh => ?_)
  · rw [if_neg hh] at hf
    exact Reader_tooGreatReference_p62 ao aa hC N _ hk2 _ _ _ _ hf
  · rw [if_pos hh] at hf
    exact Reader_tooGreatReference_p29 ao aa hC N _ hk2 _ _ _ _ hf
def Reader_tooGreatReference_b2 (N : Nat) (k2 : Int32 → g_S → Option (Int32 × g_S)) (x1 : Int32) (σ : g_S) : Option (Int32 × g_S) := if (σ.1 4) ≤ x1 then Reader_tooGreatReference_b68 N σ else Reader_tooGreatReference_b13 N k2 x1 σ
theorem Reader_tooGreatReference_p2 (ao aa : Nat → Nat) {X : g_X} (hC : gC X c_Reader_tooGreatReference R_Reader 1 21 2 (some .int)) (N : Nat) (k2 : Int32 → g_S → Option (Int32 × g_S)) (hk2 : ∀ (x1 : Int32) (σ : g_S) (r : Int32) (σe : g_S), k2 x1 σ = some (r, σe) → gw X (.inl (some (.int r))) (LC ao aa X.2.2.1 σe) (LC ao aa X.2.2.1 σ) [(0, .ref (ao 2)), (1, .int x1)] 2 []) (x1 : Int32) (σ : g_S) (r : Int32) (σe : g_S) (hf : Reader_tooGreatReference_b2 N k2 x1 σ = some (r, σe)) : gw X (.inl (some (.int r))) (LC ao aa X.2.2.1 σe) (LC ao aa X.2.2.1 σ) [(0, .ref (ao 2)), (1, .int x1)] 2 [] := by
  unfold Reader_tooGreatReference_b2 at hf
  refine gw_iload_n hC 1 d_Reader_tooGreatReference_2 rfl rfl ?_
  refine gw_aload_n hC 0 d_Reader_tooGreatReference_3 rfl rfl ?_
  refine Cr_Reader_program hC kf_Reader_24 d_Reader_tooGreatReference_4 ?_
  refine Cg4 hC kf_Reader_238 d_Reader_tooGreatReference_7 (σ.1 4) rfl ?_
  refine gw_icmp_ge hC 68 d_Reader_tooGreatReference_10 (by decide) (fun hh => ?_) (fun hh => ?_)
  · rw [if_pos hh] at hf
    refine gw_lv [0] rfl ?_
    exact Reader_tooGreatReference_p68 ao aa hC N _ _ _ hf
  · rw [if_neg hh] at hf
    exact Reader_tooGreatReference_p13 ao aa hC N _ hk2 _ _ _ _ hf
def Reader_tooGreatReference_l2 (N : Nat) : Nat → Int32 → g_S → Option (Int32 × g_S)
  | 0 => fun _ _ => none
  | n + 1 => fun x1 σ => Reader_tooGreatReference_b2 N (Reader_tooGreatReference_l2 N n) x1 σ
theorem Reader_tooGreatReference_q2 (ao aa : Nat → Nat) {X : g_X} (hC : gC X c_Reader_tooGreatReference R_Reader 1 21 2 (some .int)) (N : Nat) (n : Nat) : ∀ (x1 : Int32) (σ : g_S) (r : Int32) (σe : g_S), Reader_tooGreatReference_l2 N n x1 σ = some (r, σe) → gw X (.inl (some (.int r))) (LC ao aa X.2.2.1 σe) (LC ao aa X.2.2.1 σ) [(0, .ref (ao 2)), (1, .int x1)] 2 [] := by
  induction n with
  | zero => intro x1 σ r σe hf; cases hf
  | succ n ih => intro x1 σ r σe hf; exact Reader_tooGreatReference_p2 ao aa hC N _ (fun x1 σ r2 σ2 h2 => ih x1 σ r2 σ2 h2) x1 σ r σe hf
def Reader_tooGreatReference_b0 (N : Nat) (σ : g_S) : Option (Int32 × g_S) := Reader_tooGreatReference_l2 N N 0 σ
theorem Reader_tooGreatReference_p0 (ao aa : Nat → Nat) {X : g_X} (hC : gC X c_Reader_tooGreatReference R_Reader 1 21 2 (some .int)) (N : Nat) (σ : g_S) (r : Int32) (σe : g_S) (hf : Reader_tooGreatReference_b0 N σ = some (r, σe)) : gw X (.inl (some (.int r))) (LC ao aa X.2.2.1 σe) (LC ao aa X.2.2.1 σ) [(0, .ref (ao 2))] 0 [] := by
  unfold Reader_tooGreatReference_b0 at hf
  refine gw_iconst hC 0 d_Reader_tooGreatReference_0 (by decide) ?_
  refine gw_istore_n hC [(1, .int 0), (0, .ref (ao 2))] d_Reader_tooGreatReference_1 rfl (by decide) rfl ?_
  refine gw_lv [1, 0] rfl ?_
  exact Reader_tooGreatReference_q2 ao aa hC N N _ _ _ _ hf
def Reader_tooGreatReference (N : Nat) (σ : g_S) : Option (Int32 × g_S) := Reader_tooGreatReference_b0 N  σ
theorem Reader_tooGreatReference_m (l : Launch) (D : va_G) (cA : ClassId) (ao aa : Nat → Nat) (N : Nat) (σ : g_S) (r : Int32) (σe : g_S) (hf : Reader_tooGreatReference N σ = some (r, σe)) : Mt l D cA y_Reader_tooGreatReference c_Reader_tooGreatReference 2 (some .int) 1 21 [.ref (ao 2)] (LC ao aa cA σ) (some (.int r)) (LC ao aa cA σe) := by
  refine g_met (by decide +kernel) (by simp [lg_sl, Value.category]) (fun X e1 e2 e3 hC => ?_)
  subst e1 e2 e3
  refine gw_lv [0] rfl ?_
  exact Reader_tooGreatReference_p0 ao aa hC N _ (r) _ hf
