theorem kc_Reader_208 : g_okV R_Reader 208 y_Reader_readZero c_Reader_readZero 1 (some .int) 0 := ⟨g_mem (List.mem_append_right _ (List.mem_append_right _ (List.mem_append_left _ (List.mem_of_getElem? (i := 203) rfl)))) rfl, g_mem (List.mem_append_right _ (List.mem_append_left _ (List.mem_of_getElem? (i := 3) (by decide +kernel)))) rfl, g_mem (List.mem_append_right _ (List.mem_append_right _ (List.mem_append_left _ (List.mem_of_getElem? (i := 200) (by decide +kernel))))) rfl, g_mem (List.mem_append_right _ (List.mem_append_right _ (List.mem_append_left _ (List.mem_of_getElem? (i := 202) (by decide +kernel))))) rfl, g_mem (List.mem_append_left _ (List.mem_of_getElem? (i := 12) (by decide +kernel))) rfl, by decide +kernel, by decide +kernel, by decide +kernel⟩
theorem kn_Reader_207 : Cond.constant R_Reader 207 65536 ∈ g_TB := g_mem (List.mem_append_right _ (List.mem_append_right _ (List.mem_append_left _ (List.mem_of_getElem? (i := 221) (by decide +kernel))))) rfl
theorem kc_Reader_211 : g_okV R_Reader 211 y_Reader_readControl c_Reader_readControl 2 (some .int) 0 := ⟨g_mem (List.mem_append_right _ (List.mem_append_right _ (List.mem_append_left _ (List.mem_of_getElem? (i := 210) rfl)))) rfl, g_mem (List.mem_append_right _ (List.mem_append_left _ (List.mem_of_getElem? (i := 3) (by decide +kernel)))) rfl, g_mem (List.mem_append_right _ (List.mem_append_right _ (List.mem_append_left _ (List.mem_of_getElem? (i := 207) (by decide +kernel))))) rfl, g_mem (List.mem_append_right _ (List.mem_append_right _ (List.mem_append_left _ (List.mem_of_getElem? (i := 209) (by decide +kernel))))) rfl, g_mem (List.mem_append_left _ (List.mem_of_getElem? (i := 13) (by decide +kernel))) rfl, by decide +kernel, by decide +kernel, by decide +kernel⟩
theorem kc_Reader_214 : g_okV R_Reader 214 y_Reader_readSixteenths c_Reader_readSixteenths 5 (some .int) 1 := ⟨g_mem (List.mem_append_right _ (List.mem_append_right _ (List.mem_append_left _ (List.mem_of_getElem? (i := 217) rfl)))) rfl, g_mem (List.mem_append_right _ (List.mem_append_left _ (List.mem_of_getElem? (i := 3) (by decide +kernel)))) rfl, g_mem (List.mem_append_right _ (List.mem_append_right _ (List.mem_append_left _ (List.mem_of_getElem? (i := 214) (by decide +kernel))))) rfl, g_mem (List.mem_append_right _ (List.mem_append_right _ (List.mem_append_left _ (List.mem_of_getElem? (i := 216) (by decide +kernel))))) rfl, g_mem (List.mem_append_left _ (List.mem_of_getElem? (i := 14) (by decide +kernel))) rfl, by decide +kernel, by decide +kernel, by decide +kernel⟩
theorem kc_Reader_217 : g_okS R_Reader 217 y_Units_isNamePart c_Units_isNamePart 1 (some .boolean) 1 := ⟨g_mem (List.mem_append_right _ (List.mem_append_right _ (List.mem_append_left _ (List.mem_of_getElem? (i := 224) rfl)))) rfl, g_mem (List.mem_append_right _ (List.mem_append_left _ (List.mem_of_getElem? (i := 12) (by decide +kernel)))) rfl, g_mem (List.mem_append_right _ (List.mem_append_right _ (List.mem_append_left _ (List.mem_of_getElem? (i := 222) (by decide +kernel))))) rfl, g_mem (List.mem_append_right _ (List.mem_append_right _ (List.mem_append_left _ (List.mem_of_getElem? (i := 223) (by decide +kernel))))) rfl, by decide +kernel, by decide +kernel, by decide +kernel⟩
theorem kc_Reader_235 : g_okV R_Reader 235 y_Program_addMember c_Program_addMember 3 none 2 := ⟨g_mem (List.mem_append_right _ (List.mem_append_right _ (List.mem_append_left _ (List.mem_of_getElem? (i := 238) rfl)))) rfl, g_mem (List.mem_append_right _ (List.mem_append_left _ (List.mem_of_getElem? (i := 2) (by decide +kernel)))) rfl, g_mem (List.mem_append_right _ (List.mem_append_right _ (List.mem_append_left _ (List.mem_of_getElem? (i := 235) (by decide +kernel))))) rfl, g_mem (List.mem_append_right _ (List.mem_append_right _ (List.mem_append_left _ (List.mem_of_getElem? (i := 236) (by decide +kernel))))) rfl, g_mem (List.mem_append_right _ (List.mem_append_right _ (List.mem_append_left _ (List.mem_of_getElem? (i := 237) (by decide +kernel))))) rfl, by decide +kernel, by decide +kernel, by decide +kernel⟩
theorem kf_Reader_226 : Cond.fieldLink R_Reader 226 "PatternDesk$Program" "members" "I" ∈ g_TB := g_mem (List.mem_append_right _ (List.mem_append_left _ (List.mem_of_getElem? (i := 64) (by decide +kernel)))) rfl
theorem kc_Reader_98 : g_okV R_Reader 98 y_Reader_addAtom c_Reader_addAtom 5 none 3 := ⟨g_mem (List.mem_append_right _ (List.mem_append_right _ (List.mem_append_right _ (List.mem_append_left _ (List.mem_of_getElem? (i := 2) rfl))))) rfl, g_mem (List.mem_append_right _ (List.mem_append_left _ (List.mem_of_getElem? (i := 3) (by decide +kernel)))) rfl, g_mem (List.mem_append_right _ (List.mem_append_right _ (List.mem_append_left _ (List.mem_of_getElem? (i := 239) (by decide +kernel))))) rfl, g_mem (List.mem_append_right _ (List.mem_append_right _ (List.mem_append_right _ (List.mem_append_left _ (List.mem_of_getElem? (i := 1) (by decide +kernel)))))) rfl, g_mem (List.mem_append_left _ (List.mem_of_getElem? (i := 17) (by decide +kernel))) rfl, by decide +kernel, by decide +kernel, by decide +kernel⟩
theorem kc_Reader_232 : g_okV R_Reader 232 y_Reader_takeMember c_Reader_takeMember 6 (some .int) 3 := ⟨g_mem (List.mem_append_right _ (List.mem_append_right _ (List.mem_append_left _ (List.mem_of_getElem? (i := 234) rfl)))) rfl, g_mem (List.mem_append_right _ (List.mem_append_left _ (List.mem_of_getElem? (i := 3) (by decide +kernel)))) rfl, g_mem (List.mem_append_right _ (List.mem_append_right _ (List.mem_append_left _ (List.mem_of_getElem? (i := 231) (by decide +kernel))))) rfl, g_mem (List.mem_append_right _ (List.mem_append_right _ (List.mem_append_left _ (List.mem_of_getElem? (i := 233) (by decide +kernel))))) rfl, g_mem (List.mem_append_left _ (List.mem_of_getElem? (i := 16) (by decide +kernel))) rfl, by decide +kernel, by decide +kernel, by decide +kernel⟩
theorem kc_Reader_229 : g_okV R_Reader 229 y_Reader_takeUnit c_Reader_takeUnit 2 (some .int) 0 := ⟨g_mem (List.mem_append_right _ (List.mem_append_right _ (List.mem_append_left _ (List.mem_of_getElem? (i := 230) rfl)))) rfl, g_mem (List.mem_append_right _ (List.mem_append_left _ (List.mem_of_getElem? (i := 3) (by decide +kernel)))) rfl, g_mem (List.mem_append_right _ (List.mem_append_right _ (List.mem_append_left _ (List.mem_of_getElem? (i := 227) (by decide +kernel))))) rfl, g_mem (List.mem_append_right _ (List.mem_append_right _ (List.mem_append_left _ (List.mem_of_getElem? (i := 229) (by decide +kernel))))) rfl, g_mem (List.mem_append_left _ (List.mem_of_getElem? (i := 15) (by decide +kernel))) rfl, by decide +kernel, by decide +kernel, by decide +kernel⟩
theorem kc_Reader_204 : g_okV R_Reader 204 y_Reader_readEscape c_Reader_readEscape 2 (some .int) 0 := ⟨g_mem (List.mem_append_right _ (List.mem_append_right _ (List.mem_append_left _ (List.mem_of_getElem? (i := 199) rfl)))) rfl, g_mem (List.mem_append_right _ (List.mem_append_left _ (List.mem_of_getElem? (i := 3) (by decide +kernel)))) rfl, g_mem (List.mem_append_right _ (List.mem_append_right _ (List.mem_append_left _ (List.mem_of_getElem? (i := 196) (by decide +kernel))))) rfl, g_mem (List.mem_append_right _ (List.mem_append_right _ (List.mem_append_left _ (List.mem_of_getElem? (i := 198) (by decide +kernel))))) rfl, g_mem (List.mem_append_left _ (List.mem_of_getElem? (i := 11) (by decide +kernel))) rfl, by decide +kernel, by decide +kernel, by decide +kernel⟩
theorem kn_Reader_174 : Cond.constant R_Reader 174 100000 ∈ g_TB := g_mem (List.mem_append_right _ (List.mem_append_right _ (List.mem_append_right _ (List.mem_append_left _ (List.mem_of_getElem? (i := 15) (by decide +kernel)))))) rfl
theorem km_Reader_195 : g_okM R_Reader 195 Lib.Math.min.name Lib.Math.min.code := ⟨g_mem (List.mem_append_right _ (List.mem_append_right _ (List.mem_append_right _ (List.mem_append_left _ (List.mem_of_getElem? (i := 16) (by decide +kernel)))))) rfl, g_mem (List.mem_append_right _ (List.mem_append_right _ (List.mem_append_right _ (List.mem_append_left _ (List.mem_of_getElem? (i := 17) (by decide +kernel)))))) rfl, g_mem (List.mem_append_right _ (List.mem_append_left _ (List.mem_of_getElem? (i := 13) (by decide +kernel)))) rfl, g_mem (List.mem_append_right _ (List.mem_append_right _ (List.mem_append_right _ (List.mem_append_left _ (List.mem_of_getElem? (i := 18) rfl))))) rfl⟩
theorem kc_Reader_182 : g_okV R_Reader 182 y_Reader_readNumber c_Reader_readNumber 2 (some .int) 0 := ⟨g_mem (List.mem_append_right _ (List.mem_append_right _ (List.mem_append_right _ (List.mem_append_left _ (List.mem_of_getElem? (i := 14) rfl))))) rfl, g_mem (List.mem_append_right _ (List.mem_append_left _ (List.mem_of_getElem? (i := 3) (by decide +kernel)))) rfl, g_mem (List.mem_append_right _ (List.mem_append_right _ (List.mem_append_right _ (List.mem_append_left _ (List.mem_of_getElem? (i := 11) (by decide +kernel)))))) rfl, g_mem (List.mem_append_right _ (List.mem_append_right _ (List.mem_append_right _ (List.mem_append_left _ (List.mem_of_getElem? (i := 13) (by decide +kernel)))))) rfl, g_mem (List.mem_append_left _ (List.mem_of_getElem? (i := 20) (by decide +kernel))) rfl, by decide +kernel, by decide +kernel, by decide +kernel⟩
theorem kc_Reader_95 : g_okV R_Reader 95 y_Reader_addAssertion c_Reader_addAssertion 4 none 2 := ⟨g_mem (List.mem_append_right _ (List.mem_append_right _ (List.mem_append_right _ (List.mem_append_left _ (List.mem_of_getElem? (i := 10) rfl))))) rfl, g_mem (List.mem_append_right _ (List.mem_append_left _ (List.mem_of_getElem? (i := 3) (by decide +kernel)))) rfl, g_mem (List.mem_append_right _ (List.mem_append_right _ (List.mem_append_right _ (List.mem_append_left _ (List.mem_of_getElem? (i := 7) (by decide +kernel)))))) rfl, g_mem (List.mem_append_right _ (List.mem_append_right _ (List.mem_append_right _ (List.mem_append_left _ (List.mem_of_getElem? (i := 9) (by decide +kernel)))))) rfl, g_mem (List.mem_append_left _ (List.mem_of_getElem? (i := 19) (by decide +kernel))) rfl, by decide +kernel, by decide +kernel, by decide +kernel⟩
theorem d_Reader_readEscape_0 : decode c_Reader_readEscape 0 = .ok (.aload_n 0, 1) := by decide +kernel
theorem d_Reader_readEscape_1 : decode c_Reader_readEscape 1 = .ok (.aload_n 0, 1) := by decide +kernel
theorem d_Reader_readEscape_2 : decode c_Reader_readEscape 2 = .ok (.getfield 35, 3) := by decide +kernel
theorem d_Reader_readEscape_5 : decode c_Reader_readEscape 5 = .ok (.iconst 1, 1) := by decide +kernel
theorem d_Reader_readEscape_6 : decode c_Reader_readEscape 6 = .ok (.iadd, 1) := by decide +kernel
theorem d_Reader_readEscape_7 : decode c_Reader_readEscape 7 = .ok (.invokevirtual 76, 3) := by decide +kernel
theorem d_Reader_readEscape_10 : decode c_Reader_readEscape 10 = .ok (.istore_n 1, 1) := by decide +kernel
theorem d_Reader_readEscape_11 : decode c_Reader_readEscape 11 = .ok (.aload_n 0, 1) := by decide +kernel
theorem d_Reader_readEscape_12 : decode c_Reader_readEscape 12 = .ok (.dup, 1) := by decide +kernel
theorem d_Reader_readEscape_13 : decode c_Reader_readEscape 13 = .ok (.getfield 35, 3) := by decide +kernel
theorem d_Reader_readEscape_16 : decode c_Reader_readEscape 16 = .ok (.iconst 2, 1) := by decide +kernel
theorem d_Reader_readEscape_17 : decode c_Reader_readEscape 17 = .ok (.iadd, 1) := by decide +kernel
theorem d_Reader_readEscape_18 : decode c_Reader_readEscape 18 = .ok (.putfield 35, 3) := by decide +kernel
theorem d_Reader_readEscape_21 : decode c_Reader_readEscape 21 = .ok (.iload_n 1, 1) := by decide +kernel
theorem d_Reader_readEscape_22 : decode c_Reader_readEscape 22 = .ok (.lookupswitch 183 #[(48, 138), (68, 178), (83, 178), (87, 178), (98, 143), (99, 161), (100, 178), (102, 155), (110, 149), (114, 158), (115, 178), (116, 146), (117, 172), (118, 152), (119, 178), (120, 166)], 138) := by decide +kernel
theorem d_Reader_readEscape_160 : decode c_Reader_readEscape 160 = .ok (.aload_n 0, 1) := by decide +kernel
theorem d_Reader_readEscape_161 : decode c_Reader_readEscape 161 = .ok (.invokevirtual 208, 3) := by decide +kernel
theorem d_Reader_readEscape_164 : decode c_Reader_readEscape 164 = .ok (.ireturn, 1) := by decide +kernel
theorem d_Reader_readEscape_165 : decode c_Reader_readEscape 165 = .ok (.bipush 8, 2) := by decide +kernel
theorem d_Reader_readEscape_167 : decode c_Reader_readEscape 167 = .ok (.ireturn, 1) := by decide +kernel
theorem d_Reader_readEscape_168 : decode c_Reader_readEscape 168 = .ok (.bipush 9, 2) := by decide +kernel
theorem d_Reader_readEscape_170 : decode c_Reader_readEscape 170 = .ok (.ireturn, 1) := by decide +kernel
theorem d_Reader_readEscape_171 : decode c_Reader_readEscape 171 = .ok (.bipush 10, 2) := by decide +kernel
theorem d_Reader_readEscape_173 : decode c_Reader_readEscape 173 = .ok (.ireturn, 1) := by decide +kernel
theorem d_Reader_readEscape_174 : decode c_Reader_readEscape 174 = .ok (.bipush 11, 2) := by decide +kernel
theorem d_Reader_readEscape_176 : decode c_Reader_readEscape 176 = .ok (.ireturn, 1) := by decide +kernel
theorem d_Reader_readEscape_177 : decode c_Reader_readEscape 177 = .ok (.bipush 12, 2) := by decide +kernel
theorem d_Reader_readEscape_179 : decode c_Reader_readEscape 179 = .ok (.ireturn, 1) := by decide +kernel
theorem d_Reader_readEscape_180 : decode c_Reader_readEscape 180 = .ok (.bipush 13, 2) := by decide +kernel
theorem d_Reader_readEscape_182 : decode c_Reader_readEscape 182 = .ok (.ireturn, 1) := by decide +kernel
theorem d_Reader_readEscape_183 : decode c_Reader_readEscape 183 = .ok (.aload_n 0, 1) := by decide +kernel
theorem d_Reader_readEscape_184 : decode c_Reader_readEscape 184 = .ok (.invokevirtual 211, 3) := by decide +kernel
theorem d_Reader_readEscape_187 : decode c_Reader_readEscape 187 = .ok (.ireturn, 1) := by decide +kernel
theorem d_Reader_readEscape_188 : decode c_Reader_readEscape 188 = .ok (.aload_n 0, 1) := by decide +kernel
theorem d_Reader_readEscape_189 : decode c_Reader_readEscape 189 = .ok (.iconst 2, 1) := by decide +kernel
theorem d_Reader_readEscape_190 : decode c_Reader_readEscape 190 = .ok (.invokevirtual 214, 3) := by decide +kernel
theorem d_Reader_readEscape_193 : decode c_Reader_readEscape 193 = .ok (.ireturn, 1) := by decide +kernel
theorem d_Reader_readEscape_194 : decode c_Reader_readEscape 194 = .ok (.aload_n 0, 1) := by decide +kernel
theorem d_Reader_readEscape_195 : decode c_Reader_readEscape 195 = .ok (.iconst 4, 1) := by decide +kernel
theorem d_Reader_readEscape_196 : decode c_Reader_readEscape 196 = .ok (.invokevirtual 214, 3) := by decide +kernel
theorem d_Reader_readEscape_199 : decode c_Reader_readEscape 199 = .ok (.ireturn, 1) := by decide +kernel
theorem d_Reader_readEscape_200 : decode c_Reader_readEscape 200 = .ok (.ldc 207, 2) := by decide +kernel
theorem d_Reader_readEscape_202 : decode c_Reader_readEscape 202 = .ok (.iload_n 1, 1) := by decide +kernel
theorem d_Reader_readEscape_203 : decode c_Reader_readEscape 203 = .ok (.iadd, 1) := by decide +kernel
theorem d_Reader_readEscape_204 : decode c_Reader_readEscape 204 = .ok (.ireturn, 1) := by decide +kernel
theorem d_Reader_readEscape_205 : decode c_Reader_readEscape 205 = .ok (.iload_n 1, 1) := by decide +kernel
theorem d_Reader_readEscape_206 : decode c_Reader_readEscape 206 = .ok (.ifCond .lt 17, 3) := by decide +kernel
theorem d_Reader_readEscape_209 : decode c_Reader_readEscape 209 = .ok (.iload_n 1, 1) := by decide +kernel
theorem d_Reader_readEscape_210 : decode c_Reader_readEscape 210 = .ok (.sipush 255, 3) := by decide +kernel
theorem d_Reader_readEscape_213 : decode c_Reader_readEscape 213 = .ok (.if_icmp .gt 10, 3) := by decide +kernel
theorem d_Reader_readEscape_216 : decode c_Reader_readEscape 216 = .ok (.iload_n 1, 1) := by decide +kernel
theorem d_Reader_readEscape_217 : decode c_Reader_readEscape 217 = .ok (.invokestatic 217, 3) := by decide +kernel
theorem d_Reader_readEscape_220 : decode c_Reader_readEscape 220 = .ok (.ifCond .eq 13, 3) := by decide +kernel
theorem d_Reader_readEscape_223 : decode c_Reader_readEscape 223 = .ok (.aload_n 0, 1) := by decide +kernel
theorem d_Reader_readEscape_224 : decode c_Reader_readEscape 224 = .ok (.aload_n 0, 1) := by decide +kernel
theorem d_Reader_readEscape_225 : decode c_Reader_readEscape 225 = .ok (.getfield 35, 3) := by decide +kernel
theorem d_Reader_readEscape_228 : decode c_Reader_readEscape 228 = .ok (.iconst 1, 1) := by decide +kernel
theorem d_Reader_readEscape_229 : decode c_Reader_readEscape 229 = .ok (.isub, 1) := by decide +kernel
theorem d_Reader_readEscape_230 : decode c_Reader_readEscape 230 = .ok (.putfield 38, 3) := by decide +kernel
theorem d_Reader_readEscape_233 : decode c_Reader_readEscape 233 = .ok (.iload_n 1, 1) := by decide +kernel
theorem d_Reader_readEscape_234 : decode c_Reader_readEscape 234 = .ok (.ireturn, 1) := by decide +kernel
theorem d_Reader_takeUnit_0 : decode c_Reader_takeUnit 0 = .ok (.aload_n 0, 1) := by decide +kernel
theorem d_Reader_takeUnit_1 : decode c_Reader_takeUnit 1 = .ok (.aload_n 0, 1) := by decide +kernel
theorem d_Reader_takeUnit_2 : decode c_Reader_takeUnit 2 = .ok (.getfield 35, 3) := by decide +kernel
theorem d_Reader_takeUnit_5 : decode c_Reader_takeUnit 5 = .ok (.invokevirtual 76, 3) := by decide +kernel
theorem d_Reader_takeUnit_8 : decode c_Reader_takeUnit 8 = .ok (.istore_n 1, 1) := by decide +kernel
theorem d_Reader_takeUnit_9 : decode c_Reader_takeUnit 9 = .ok (.aload_n 0, 1) := by decide +kernel
theorem d_Reader_takeUnit_10 : decode c_Reader_takeUnit 10 = .ok (.dup, 1) := by decide +kernel
theorem d_Reader_takeUnit_11 : decode c_Reader_takeUnit 11 = .ok (.getfield 35, 3) := by decide +kernel
theorem d_Reader_takeUnit_14 : decode c_Reader_takeUnit 14 = .ok (.iconst 1, 1) := by decide +kernel
theorem d_Reader_takeUnit_15 : decode c_Reader_takeUnit 15 = .ok (.iadd, 1) := by decide +kernel
theorem d_Reader_takeUnit_16 : decode c_Reader_takeUnit 16 = .ok (.putfield 35, 3) := by decide +kernel
theorem d_Reader_takeUnit_19 : decode c_Reader_takeUnit 19 = .ok (.iload_n 1, 1) := by decide +kernel
theorem d_Reader_takeUnit_20 : decode c_Reader_takeUnit 20 = .ok (.ireturn, 1) := by decide +kernel
theorem d_Reader_takeMember_0 : decode c_Reader_takeMember 0 = .ok (.iload_n 2, 1) := by decide +kernel
theorem d_Reader_takeMember_1 : decode c_Reader_takeMember 1 = .ok (.ldc 207, 2) := by decide +kernel
theorem d_Reader_takeMember_3 : decode c_Reader_takeMember 3 = .ok (.if_icmp .lt 7, 3) := by decide +kernel
theorem d_Reader_takeMember_6 : decode c_Reader_takeMember 6 = .ok (.iconst 1, 1) := by decide +kernel
theorem d_Reader_takeMember_7 : decode c_Reader_takeMember 7 = .ok (.goto 4, 3) := by decide +kernel
theorem d_Reader_takeMember_10 : decode c_Reader_takeMember 10 = .ok (.iconst 0, 1) := by decide +kernel
theorem d_Reader_takeMember_11 : decode c_Reader_takeMember 11 = .ok (.istore 4, 2) := by decide +kernel
theorem d_Reader_takeMember_13 : decode c_Reader_takeMember 13 = .ok (.iload_n 1, 1) := by decide +kernel
theorem d_Reader_takeMember_14 : decode c_Reader_takeMember 14 = .ok (.iconst (-1), 1) := by decide +kernel
theorem d_Reader_takeMember_15 : decode c_Reader_takeMember 15 = .ok (.if_icmp .eq 29, 3) := by decide +kernel
theorem d_Reader_takeMember_18 : decode c_Reader_takeMember 18 = .ok (.iload 4, 2) := by decide +kernel
theorem d_Reader_takeMember_20 : decode c_Reader_takeMember 20 = .ok (.ifCond .ne 8, 3) := by decide +kernel
theorem d_Reader_takeMember_23 : decode c_Reader_takeMember 23 = .ok (.iload_n 2, 1) := by decide +kernel
theorem d_Reader_takeMember_24 : decode c_Reader_takeMember 24 = .ok (.iload_n 1, 1) := by decide +kernel
theorem d_Reader_takeMember_25 : decode c_Reader_takeMember 25 = .ok (.if_icmp .ge 8, 3) := by decide +kernel
theorem d_Reader_takeMember_28 : decode c_Reader_takeMember 28 = .ok (.aload_n 0, 1) := by decide +kernel
theorem d_Reader_takeMember_29 : decode c_Reader_takeMember 29 = .ok (.iload_n 3, 1) := by decide +kernel
theorem d_Reader_takeMember_30 : decode c_Reader_takeMember 30 = .ok (.putfield 38, 3) := by decide +kernel
theorem d_Reader_takeMember_33 : decode c_Reader_takeMember 33 = .ok (.aload_n 0, 1) := by decide +kernel
theorem d_Reader_takeMember_34 : decode c_Reader_takeMember 34 = .ok (.getfield 24, 3) := by decide +kernel
theorem d_Reader_takeMember_37 : decode c_Reader_takeMember 37 = .ok (.iload_n 1, 1) := by decide +kernel
theorem d_Reader_takeMember_38 : decode c_Reader_takeMember 38 = .ok (.iload_n 2, 1) := by decide +kernel
theorem d_Reader_takeMember_39 : decode c_Reader_takeMember 39 = .ok (.invokevirtual 235, 3) := by decide +kernel
theorem d_Reader_takeMember_42 : decode c_Reader_takeMember 42 = .ok (.iconst (-1), 1) := by decide +kernel
theorem d_Reader_takeMember_43 : decode c_Reader_takeMember 43 = .ok (.ireturn, 1) := by decide +kernel
theorem d_Reader_takeMember_44 : decode c_Reader_takeMember 44 = .ok (.aload_n 0, 1) := by decide +kernel
theorem d_Reader_takeMember_45 : decode c_Reader_takeMember 45 = .ok (.aload_n 0, 1) := by decide +kernel
theorem d_Reader_takeMember_46 : decode c_Reader_takeMember 46 = .ok (.getfield 35, 3) := by decide +kernel
theorem d_Reader_takeMember_49 : decode c_Reader_takeMember 49 = .ok (.invokevirtual 76, 3) := by decide +kernel
theorem d_Reader_takeMember_52 : decode c_Reader_takeMember 52 = .ok (.bipush 45, 2) := by decide +kernel
theorem d_Reader_takeMember_54 : decode c_Reader_takeMember 54 = .ok (.if_icmp .ne 35, 3) := by decide +kernel
theorem d_Reader_takeMember_57 : decode c_Reader_takeMember 57 = .ok (.aload_n 0, 1) := by decide +kernel
theorem d_Reader_takeMember_58 : decode c_Reader_takeMember 58 = .ok (.getfield 35, 3) := by decide +kernel
theorem d_Reader_takeMember_61 : decode c_Reader_takeMember 61 = .ok (.iconst 1, 1) := by decide +kernel
theorem d_Reader_takeMember_62 : decode c_Reader_takeMember 62 = .ok (.iadd, 1) := by decide +kernel
theorem d_Reader_takeMember_63 : decode c_Reader_takeMember 63 = .ok (.aload_n 0, 1) := by decide +kernel
theorem d_Reader_takeMember_64 : decode c_Reader_takeMember 64 = .ok (.getfield 31, 3) := by decide +kernel
theorem d_Reader_takeMember_67 : decode c_Reader_takeMember 67 = .ok (.if_icmp .ge 22, 3) := by decide +kernel
theorem d_Reader_takeMember_70 : decode c_Reader_takeMember 70 = .ok (.aload_n 0, 1) := by decide +kernel
theorem d_Reader_takeMember_71 : decode c_Reader_takeMember 71 = .ok (.aload_n 0, 1) := by decide +kernel
theorem d_Reader_takeMember_72 : decode c_Reader_takeMember 72 = .ok (.getfield 35, 3) := by decide +kernel
theorem d_Reader_takeMember_75 : decode c_Reader_takeMember 75 = .ok (.iconst 1, 1) := by decide +kernel
theorem d_Reader_takeMember_76 : decode c_Reader_takeMember 76 = .ok (.iadd, 1) := by decide +kernel
theorem d_Reader_takeMember_77 : decode c_Reader_takeMember 77 = .ok (.invokevirtual 76, 3) := by decide +kernel
theorem d_Reader_takeMember_80 : decode c_Reader_takeMember 80 = .ok (.bipush 93, 2) := by decide +kernel
theorem d_Reader_takeMember_82 : decode c_Reader_takeMember 82 = .ok (.if_icmp .eq 7, 3) := by decide +kernel
theorem d_Reader_takeMember_85 : decode c_Reader_takeMember 85 = .ok (.iconst 1, 1) := by decide +kernel
theorem d_Reader_takeMember_86 : decode c_Reader_takeMember 86 = .ok (.goto 4, 3) := by decide +kernel
theorem d_Reader_takeMember_89 : decode c_Reader_takeMember 89 = .ok (.iconst 0, 1) := by decide +kernel
theorem d_Reader_takeMember_90 : decode c_Reader_takeMember 90 = .ok (.istore 5, 2) := by decide +kernel
theorem d_Reader_takeMember_92 : decode c_Reader_takeMember 92 = .ok (.iload 5, 2) := by decide +kernel
theorem d_Reader_takeMember_94 : decode c_Reader_takeMember 94 = .ok (.ifCond .ne 14, 3) := by decide +kernel
theorem d_Reader_takeMember_97 : decode c_Reader_takeMember 97 = .ok (.aload_n 0, 1) := by decide +kernel
theorem d_Reader_takeMember_98 : decode c_Reader_takeMember 98 = .ok (.getfield 24, 3) := by decide +kernel
theorem d_Reader_takeMember_101 : decode c_Reader_takeMember 101 = .ok (.iload_n 2, 1) := by decide +kernel
theorem d_Reader_takeMember_102 : decode c_Reader_takeMember 102 = .ok (.iload_n 2, 1) := by decide +kernel
theorem d_Reader_takeMember_103 : decode c_Reader_takeMember 103 = .ok (.invokevirtual 235, 3) := by decide +kernel
theorem d_Reader_takeMember_106 : decode c_Reader_takeMember 106 = .ok (.iconst (-1), 1) := by decide +kernel
theorem d_Reader_takeMember_107 : decode c_Reader_takeMember 107 = .ok (.ireturn, 1) := by decide +kernel
theorem d_Reader_takeMember_108 : decode c_Reader_takeMember 108 = .ok (.iload 4, 2) := by decide +kernel
theorem d_Reader_takeMember_110 : decode c_Reader_takeMember 110 = .ok (.ifCond .eq 11, 3) := by decide +kernel
theorem d_Reader_takeMember_113 : decode c_Reader_takeMember 113 = .ok (.aload_n 0, 1) := by decide +kernel
theorem d_Reader_takeMember_114 : decode c_Reader_takeMember 114 = .ok (.aload_n 0, 1) := by decide +kernel
theorem d_Reader_takeMember_115 : decode c_Reader_takeMember 115 = .ok (.getfield 35, 3) := by decide +kernel
theorem d_Reader_takeMember_118 : decode c_Reader_takeMember 118 = .ok (.putfield 38, 3) := by decide +kernel
theorem d_Reader_takeMember_121 : decode c_Reader_takeMember 121 = .ok (.aload_n 0, 1) := by decide +kernel
theorem d_Reader_takeMember_122 : decode c_Reader_takeMember 122 = .ok (.dup, 1) := by decide +kernel
theorem d_Reader_takeMember_123 : decode c_Reader_takeMember 123 = .ok (.getfield 35, 3) := by decide +kernel
theorem d_Reader_takeMember_126 : decode c_Reader_takeMember 126 = .ok (.iconst 1, 1) := by decide +kernel
theorem d_Reader_takeMember_127 : decode c_Reader_takeMember 127 = .ok (.iadd, 1) := by decide +kernel
theorem d_Reader_takeMember_128 : decode c_Reader_takeMember 128 = .ok (.putfield 35, 3) := by decide +kernel
theorem d_Reader_takeMember_131 : decode c_Reader_takeMember 131 = .ok (.iload_n 2, 1) := by decide +kernel
theorem d_Reader_takeMember_132 : decode c_Reader_takeMember 132 = .ok (.ireturn, 1) := by decide +kernel
theorem d_Reader_addAtom_0 : decode c_Reader_addAtom 0 = .ok (.aload_n 0, 1) := by decide +kernel
theorem d_Reader_addAtom_1 : decode c_Reader_addAtom 1 = .ok (.getfield 24, 3) := by decide +kernel
theorem d_Reader_addAtom_4 : decode c_Reader_addAtom 4 = .ok (.iload_n 1, 1) := by decide +kernel
theorem d_Reader_addAtom_5 : decode c_Reader_addAtom 5 = .ok (.iload_n 2, 1) := by decide +kernel
theorem d_Reader_addAtom_6 : decode c_Reader_addAtom 6 = .ok (.iload_n 3, 1) := by decide +kernel
theorem d_Reader_addAtom_7 : decode c_Reader_addAtom 7 = .ok (.invokevirtual 52, 3) := by decide +kernel
theorem d_Reader_addAtom_10 : decode c_Reader_addAtom 10 = .ok (.istore 4, 2) := by decide +kernel
theorem d_Reader_addAtom_12 : decode c_Reader_addAtom 12 = .ok (.aload_n 0, 1) := by decide +kernel
theorem d_Reader_addAtom_13 : decode c_Reader_addAtom 13 = .ok (.iload 4, 2) := by decide +kernel
theorem d_Reader_addAtom_15 : decode c_Reader_addAtom 15 = .ok (.iload 4, 2) := by decide +kernel
theorem d_Reader_addAtom_17 : decode c_Reader_addAtom 17 = .ok (.aload_n 0, 1) := by decide +kernel
theorem d_Reader_addAtom_18 : decode c_Reader_addAtom 18 = .ok (.getfield 24, 3) := by decide +kernel
theorem d_Reader_addAtom_21 : decode c_Reader_addAtom 21 = .ok (.getfield 118, 3) := by decide +kernel
theorem d_Reader_addAtom_24 : decode c_Reader_addAtom 24 = .ok (.invokevirtual 133, 3) := by decide +kernel
theorem d_Reader_addAtom_27 : decode c_Reader_addAtom 27 = .ok (.return_, 1) := by decide +kernel
theorem d_Reader_readClass_0 : decode c_Reader_readClass 0 = .ok (.aload_n 0, 1) := by decide +kernel
theorem d_Reader_readClass_1 : decode c_Reader_readClass 1 = .ok (.dup, 1) := by decide +kernel
theorem d_Reader_readClass_2 : decode c_Reader_readClass 2 = .ok (.getfield 35, 3) := by decide +kernel
theorem d_Reader_readClass_5 : decode c_Reader_readClass 5 = .ok (.iconst 1, 1) := by decide +kernel
theorem d_Reader_readClass_6 : decode c_Reader_readClass 6 = .ok (.iadd, 1) := by decide +kernel
theorem d_Reader_readClass_7 : decode c_Reader_readClass 7 = .ok (.putfield 35, 3) := by decide +kernel
theorem d_Reader_readClass_10 : decode c_Reader_readClass 10 = .ok (.aload_n 0, 1) := by decide +kernel
theorem d_Reader_readClass_11 : decode c_Reader_readClass 11 = .ok (.aload_n 0, 1) := by decide +kernel
theorem d_Reader_readClass_12 : decode c_Reader_readClass 12 = .ok (.getfield 35, 3) := by decide +kernel
theorem d_Reader_readClass_15 : decode c_Reader_readClass 15 = .ok (.invokevirtual 76, 3) := by decide +kernel
theorem d_Reader_readClass_18 : decode c_Reader_readClass 18 = .ok (.bipush 94, 2) := by decide +kernel
theorem d_Reader_readClass_20 : decode c_Reader_readClass 20 = .ok (.if_icmp .ne 7, 3) := by decide +kernel
theorem d_Reader_readClass_23 : decode c_Reader_readClass 23 = .ok (.iconst 1, 1) := by decide +kernel
theorem d_Reader_readClass_24 : decode c_Reader_readClass 24 = .ok (.goto 4, 3) := by decide +kernel
theorem d_Reader_readClass_27 : decode c_Reader_readClass 27 = .ok (.iconst 0, 1) := by decide +kernel
theorem d_Reader_readClass_28 : decode c_Reader_readClass 28 = .ok (.istore_n 1, 1) := by decide +kernel
theorem d_Reader_readClass_29 : decode c_Reader_readClass 29 = .ok (.iload_n 1, 1) := by decide +kernel
theorem d_Reader_readClass_30 : decode c_Reader_readClass 30 = .ok (.ifCond .eq 13, 3) := by decide +kernel
theorem d_Reader_readClass_33 : decode c_Reader_readClass 33 = .ok (.aload_n 0, 1) := by decide +kernel
theorem d_Reader_readClass_34 : decode c_Reader_readClass 34 = .ok (.dup, 1) := by decide +kernel
theorem d_Reader_readClass_35 : decode c_Reader_readClass 35 = .ok (.getfield 35, 3) := by decide +kernel
theorem d_Reader_readClass_38 : decode c_Reader_readClass 38 = .ok (.iconst 1, 1) := by decide +kernel
theorem d_Reader_readClass_39 : decode c_Reader_readClass 39 = .ok (.iadd, 1) := by decide +kernel
theorem d_Reader_readClass_40 : decode c_Reader_readClass 40 = .ok (.putfield 35, 3) := by decide +kernel
theorem d_Reader_readClass_43 : decode c_Reader_readClass 43 = .ok (.aload_n 0, 1) := by decide +kernel
theorem d_Reader_readClass_44 : decode c_Reader_readClass 44 = .ok (.getfield 24, 3) := by decide +kernel
theorem d_Reader_readClass_47 : decode c_Reader_readClass 47 = .ok (.getfield 226, 3) := by decide +kernel
theorem d_Reader_readClass_50 : decode c_Reader_readClass 50 = .ok (.istore_n 2, 1) := by decide +kernel
theorem d_Reader_readClass_51 : decode c_Reader_readClass 51 = .ok (.iconst (-1), 1) := by decide +kernel
theorem d_Reader_readClass_52 : decode c_Reader_readClass 52 = .ok (.istore_n 3, 1) := by decide +kernel
theorem d_Reader_readClass_53 : decode c_Reader_readClass 53 = .ok (.iconst 0, 1) := by decide +kernel
theorem d_Reader_readClass_54 : decode c_Reader_readClass 54 = .ok (.istore 4, 2) := by decide +kernel
theorem d_Reader_readClass_56 : decode c_Reader_readClass 56 = .ok (.iload 4, 2) := by decide +kernel
theorem d_Reader_readClass_58 : decode c_Reader_readClass 58 = .ok (.sipush 200, 3) := by decide +kernel
theorem d_Reader_readClass_61 : decode c_Reader_readClass 61 = .ok (.if_icmp .ge 89, 3) := by decide +kernel
theorem d_Reader_readClass_64 : decode c_Reader_readClass 64 = .ok (.aload_n 0, 1) := by decide +kernel
theorem d_Reader_readClass_65 : decode c_Reader_readClass 65 = .ok (.getfield 35, 3) := by decide +kernel
theorem d_Reader_readClass_68 : decode c_Reader_readClass 68 = .ok (.aload_n 0, 1) := by decide +kernel
theorem d_Reader_readClass_69 : decode c_Reader_readClass 69 = .ok (.getfield 31, 3) := by decide +kernel
theorem d_Reader_readClass_72 : decode c_Reader_readClass 72 = .ok (.if_icmp .ge 78, 3) := by decide +kernel
theorem d_Reader_readClass_75 : decode c_Reader_readClass 75 = .ok (.aload_n 0, 1) := by decide +kernel
theorem d_Reader_readClass_76 : decode c_Reader_readClass 76 = .ok (.aload_n 0, 1) := by decide +kernel
theorem d_Reader_readClass_77 : decode c_Reader_readClass 77 = .ok (.getfield 35, 3) := by decide +kernel
theorem d_Reader_readClass_80 : decode c_Reader_readClass 80 = .ok (.invokevirtual 76, 3) := by decide +kernel
theorem d_Reader_readClass_83 : decode c_Reader_readClass 83 = .ok (.bipush 93, 2) := by decide +kernel
theorem d_Reader_readClass_85 : decode c_Reader_readClass 85 = .ok (.if_icmp .eq 65, 3) := by decide +kernel
theorem d_Reader_readClass_88 : decode c_Reader_readClass 88 = .ok (.aload_n 0, 1) := by decide +kernel
theorem d_Reader_readClass_89 : decode c_Reader_readClass 89 = .ok (.getfield 38, 3) := by decide +kernel
theorem d_Reader_readClass_92 : decode c_Reader_readClass 92 = .ok (.ifCond .ge 58, 3) := by decide +kernel
theorem d_Reader_readClass_95 : decode c_Reader_readClass 95 = .ok (.aload_n 0, 1) := by decide +kernel
theorem d_Reader_readClass_96 : decode c_Reader_readClass 96 = .ok (.getfield 35, 3) := by decide +kernel
theorem d_Reader_readClass_99 : decode c_Reader_readClass 99 = .ok (.istore 5, 2) := by decide +kernel
theorem d_Reader_readClass_101 : decode c_Reader_readClass 101 = .ok (.aload_n 0, 1) := by decide +kernel
theorem d_Reader_readClass_102 : decode c_Reader_readClass 102 = .ok (.aload_n 0, 1) := by decide +kernel
theorem d_Reader_readClass_103 : decode c_Reader_readClass 103 = .ok (.getfield 35, 3) := by decide +kernel
theorem d_Reader_readClass_106 : decode c_Reader_readClass 106 = .ok (.invokevirtual 76, 3) := by decide +kernel
theorem d_Reader_readClass_109 : decode c_Reader_readClass 109 = .ok (.bipush 92, 2) := by decide +kernel
theorem d_Reader_readClass_111 : decode c_Reader_readClass 111 = .ok (.if_icmp .ne 10, 3) := by decide +kernel
theorem d_Reader_readClass_114 : decode c_Reader_readClass 114 = .ok (.aload_n 0, 1) := by decide +kernel
theorem d_Reader_readClass_115 : decode c_Reader_readClass 115 = .ok (.invokevirtual 204, 3) := by decide +kernel
theorem d_Reader_readClass_118 : decode c_Reader_readClass 118 = .ok (.goto 7, 3) := by decide +kernel
theorem d_Reader_readClass_121 : decode c_Reader_readClass 121 = .ok (.aload_n 0, 1) := by decide +kernel
theorem d_Reader_readClass_122 : decode c_Reader_readClass 122 = .ok (.invokevirtual 229, 3) := by decide +kernel
theorem d_Reader_readClass_125 : decode c_Reader_readClass 125 = .ok (.istore 6, 2) := by decide +kernel
theorem d_Reader_readClass_127 : decode c_Reader_readClass 127 = .ok (.aload_n 0, 1) := by decide +kernel
theorem d_Reader_readClass_128 : decode c_Reader_readClass 128 = .ok (.getfield 38, 3) := by decide +kernel
theorem d_Reader_readClass_131 : decode c_Reader_readClass 131 = .ok (.ifCond .ge 13, 3) := by decide +kernel
theorem d_Reader_readClass_134 : decode c_Reader_readClass 134 = .ok (.aload_n 0, 1) := by decide +kernel
theorem d_Reader_readClass_135 : decode c_Reader_readClass 135 = .ok (.iload_n 3, 1) := by decide +kernel
theorem d_Reader_readClass_136 : decode c_Reader_readClass 136 = .ok (.iload 6, 2) := by decide +kernel
theorem d_Reader_readClass_138 : decode c_Reader_readClass 138 = .ok (.iload 5, 2) := by decide +kernel
theorem d_Reader_readClass_140 : decode c_Reader_readClass 140 = .ok (.invokevirtual 232, 3) := by decide +kernel
theorem d_Reader_readClass_143 : decode c_Reader_readClass 143 = .ok (.istore_n 3, 1) := by decide +kernel
theorem d_Reader_readClass_144 : decode c_Reader_readClass 144 = .ok (.iinc 4 1, 3) := by decide +kernel
theorem d_Reader_readClass_147 : decode c_Reader_readClass 147 = .ok (.goto (-91), 3) := by decide +kernel
theorem d_Reader_readClass_150 : decode c_Reader_readClass 150 = .ok (.aload_n 0, 1) := by decide +kernel
theorem d_Reader_readClass_151 : decode c_Reader_readClass 151 = .ok (.getfield 38, 3) := by decide +kernel
theorem d_Reader_readClass_154 : decode c_Reader_readClass 154 = .ok (.ifCond .ge 22, 3) := by decide +kernel
theorem d_Reader_readClass_157 : decode c_Reader_readClass 157 = .ok (.aload_n 0, 1) := by decide +kernel
theorem d_Reader_readClass_158 : decode c_Reader_readClass 158 = .ok (.getfield 35, 3) := by decide +kernel
theorem d_Reader_readClass_161 : decode c_Reader_readClass 161 = .ok (.aload_n 0, 1) := by decide +kernel
theorem d_Reader_readClass_162 : decode c_Reader_readClass 162 = .ok (.getfield 31, 3) := by decide +kernel
theorem d_Reader_readClass_165 : decode c_Reader_readClass 165 = .ok (.if_icmp .lt 11, 3) := by decide +kernel
theorem d_Reader_readClass_168 : decode c_Reader_readClass 168 = .ok (.aload_n 0, 1) := by decide +kernel
theorem d_Reader_readClass_169 : decode c_Reader_readClass 169 = .ok (.aload_n 0, 1) := by decide +kernel
theorem d_Reader_readClass_170 : decode c_Reader_readClass 170 = .ok (.getfield 31, 3) := by decide +kernel
theorem d_Reader_readClass_173 : decode c_Reader_readClass 173 = .ok (.putfield 38, 3) := by decide +kernel
theorem d_Reader_readClass_176 : decode c_Reader_readClass 176 = .ok (.aload_n 0, 1) := by decide +kernel
theorem d_Reader_readClass_177 : decode c_Reader_readClass 177 = .ok (.getfield 38, 3) := by decide +kernel
theorem d_Reader_readClass_180 : decode c_Reader_readClass 180 = .ok (.ifCond .ge 34, 3) := by decide +kernel
theorem d_Reader_readClass_183 : decode c_Reader_readClass 183 = .ok (.aload_n 0, 1) := by decide +kernel
theorem d_Reader_readClass_184 : decode c_Reader_readClass 184 = .ok (.dup, 1) := by decide +kernel
theorem d_Reader_readClass_185 : decode c_Reader_readClass 185 = .ok (.getfield 35, 3) := by decide +kernel
theorem d_Reader_readClass_188 : decode c_Reader_readClass 188 = .ok (.iconst 1, 1) := by decide +kernel
theorem d_Reader_readClass_189 : decode c_Reader_readClass 189 = .ok (.iadd, 1) := by decide +kernel
theorem d_Reader_readClass_190 : decode c_Reader_readClass 190 = .ok (.putfield 35, 3) := by decide +kernel
theorem d_Reader_readClass_193 : decode c_Reader_readClass 193 = .ok (.aload_n 0, 1) := by decide +kernel
theorem d_Reader_readClass_194 : decode c_Reader_readClass 194 = .ok (.iload_n 1, 1) := by decide +kernel
theorem d_Reader_readClass_195 : decode c_Reader_readClass 195 = .ok (.ifCond .eq 7, 3) := by decide +kernel
theorem d_Reader_readClass_198 : decode c_Reader_readClass 198 = .ok (.iconst 5, 1) := by decide +kernel
theorem d_Reader_readClass_199 : decode c_Reader_readClass 199 = .ok (.goto 4, 3) := by decide +kernel
theorem d_Reader_readClass_202 : decode c_Reader_readClass 202 = .ok (.iconst 4, 1) := by decide +kernel
theorem d_Reader_readClass_203 : decode c_Reader_readClass 203 = .ok (.iload_n 2, 1) := by decide +kernel
theorem d_Reader_readClass_204 : decode c_Reader_readClass 204 = .ok (.aload_n 0, 1) := by decide +kernel
theorem d_Reader_readClass_205 : decode c_Reader_readClass 205 = .ok (.getfield 24, 3) := by decide +kernel
theorem d_Reader_readClass_208 : decode c_Reader_readClass 208 = .ok (.getfield 226, 3) := by decide +kernel
theorem d_Reader_readClass_211 : decode c_Reader_readClass 211 = .ok (.invokevirtual 98, 3) := by decide +kernel
theorem d_Reader_readClass_214 : decode c_Reader_readClass 214 = .ok (.return_, 1) := by decide +kernel
theorem d_Reader_addAssertion_0 : decode c_Reader_addAssertion 0 = .ok (.aload_n 0, 1) := by decide +kernel
theorem d_Reader_addAssertion_1 : decode c_Reader_addAssertion 1 = .ok (.getfield 24, 3) := by decide +kernel
theorem d_Reader_addAssertion_4 : decode c_Reader_addAssertion 4 = .ok (.iload_n 1, 1) := by decide +kernel
theorem d_Reader_addAssertion_5 : decode c_Reader_addAssertion 5 = .ok (.iconst 0, 1) := by decide +kernel
theorem d_Reader_addAssertion_6 : decode c_Reader_addAssertion 6 = .ok (.iconst 0, 1) := by decide +kernel
theorem d_Reader_addAssertion_7 : decode c_Reader_addAssertion 7 = .ok (.invokevirtual 52, 3) := by decide +kernel
theorem d_Reader_addAssertion_10 : decode c_Reader_addAssertion 10 = .ok (.istore_n 3, 1) := by decide +kernel
theorem d_Reader_addAssertion_11 : decode c_Reader_addAssertion 11 = .ok (.aload_n 0, 1) := by decide +kernel
theorem d_Reader_addAssertion_12 : decode c_Reader_addAssertion 12 = .ok (.iload_n 3, 1) := by decide +kernel
theorem d_Reader_addAssertion_13 : decode c_Reader_addAssertion 13 = .ok (.iload_n 3, 1) := by decide +kernel
theorem d_Reader_addAssertion_14 : decode c_Reader_addAssertion 14 = .ok (.invokevirtual 130, 3) := by decide +kernel
theorem d_Reader_addAssertion_17 : decode c_Reader_addAssertion 17 = .ok (.aload_n 0, 1) := by decide +kernel
theorem d_Reader_addAssertion_18 : decode c_Reader_addAssertion 18 = .ok (.dup, 1) := by decide +kernel
theorem d_Reader_addAssertion_19 : decode c_Reader_addAssertion 19 = .ok (.getfield 35, 3) := by decide +kernel
theorem d_Reader_addAssertion_22 : decode c_Reader_addAssertion 22 = .ok (.iload_n 2, 1) := by decide +kernel
theorem d_Reader_addAssertion_23 : decode c_Reader_addAssertion 23 = .ok (.iadd, 1) := by decide +kernel
theorem d_Reader_addAssertion_24 : decode c_Reader_addAssertion 24 = .ok (.putfield 35, 3) := by decide +kernel
theorem d_Reader_addAssertion_27 : decode c_Reader_addAssertion 27 = .ok (.return_, 1) := by decide +kernel
theorem d_Reader_readNumber_0 : decode c_Reader_readNumber 0 = .ok (.aload_n 0, 1) := by decide +kernel
theorem d_Reader_readNumber_1 : decode c_Reader_readNumber 1 = .ok (.aload_n 0, 1) := by decide +kernel
theorem d_Reader_readNumber_2 : decode c_Reader_readNumber 2 = .ok (.getfield 35, 3) := by decide +kernel
theorem d_Reader_readNumber_5 : decode c_Reader_readNumber 5 = .ok (.invokevirtual 76, 3) := by decide +kernel
theorem d_Reader_readNumber_8 : decode c_Reader_readNumber 8 = .ok (.invokestatic 189, 3) := by decide +kernel
theorem d_Reader_readNumber_11 : decode c_Reader_readNumber 11 = .ok (.ifCond .ne 13, 3) := by decide +kernel
theorem d_Reader_readNumber_14 : decode c_Reader_readNumber 14 = .ok (.aload_n 0, 1) := by decide +kernel
theorem d_Reader_readNumber_15 : decode c_Reader_readNumber 15 = .ok (.aload_n 0, 1) := by decide +kernel
theorem d_Reader_readNumber_16 : decode c_Reader_readNumber 16 = .ok (.getfield 35, 3) := by decide +kernel
theorem d_Reader_readNumber_19 : decode c_Reader_readNumber 19 = .ok (.putfield 38, 3) := by decide +kernel
theorem d_Reader_readNumber_22 : decode c_Reader_readNumber 22 = .ok (.iconst 0, 1) := by decide +kernel
theorem d_Reader_readNumber_23 : decode c_Reader_readNumber 23 = .ok (.ireturn, 1) := by decide +kernel
theorem d_Reader_readNumber_24 : decode c_Reader_readNumber 24 = .ok (.iconst 0, 1) := by decide +kernel
theorem d_Reader_readNumber_25 : decode c_Reader_readNumber 25 = .ok (.istore_n 1, 1) := by decide +kernel
theorem d_Reader_readNumber_26 : decode c_Reader_readNumber 26 = .ok (.aload_n 0, 1) := by decide +kernel
theorem d_Reader_readNumber_27 : decode c_Reader_readNumber 27 = .ok (.getfield 35, 3) := by decide +kernel
theorem d_Reader_readNumber_30 : decode c_Reader_readNumber 30 = .ok (.aload_n 0, 1) := by decide +kernel
theorem d_Reader_readNumber_31 : decode c_Reader_readNumber 31 = .ok (.getfield 31, 3) := by decide +kernel
theorem d_Reader_readNumber_34 : decode c_Reader_readNumber 34 = .ok (.if_icmp .ge 52, 3) := by decide +kernel
theorem d_Reader_readNumber_37 : decode c_Reader_readNumber 37 = .ok (.aload_n 0, 1) := by decide +kernel
theorem d_Reader_readNumber_38 : decode c_Reader_readNumber 38 = .ok (.aload_n 0, 1) := by decide +kernel
theorem d_Reader_readNumber_39 : decode c_Reader_readNumber 39 = .ok (.getfield 35, 3) := by decide +kernel
theorem d_Reader_readNumber_42 : decode c_Reader_readNumber 42 = .ok (.invokevirtual 76, 3) := by decide +kernel
theorem d_Reader_readNumber_45 : decode c_Reader_readNumber 45 = .ok (.invokestatic 189, 3) := by decide +kernel
theorem d_Reader_readNumber_48 : decode c_Reader_readNumber 48 = .ok (.ifCond .eq 38, 3) := by decide +kernel
theorem d_Reader_readNumber_51 : decode c_Reader_readNumber 51 = .ok (.iload_n 1, 1) := by decide +kernel
theorem d_Reader_readNumber_52 : decode c_Reader_readNumber 52 = .ok (.bipush 10, 2) := by decide +kernel
theorem d_Reader_readNumber_54 : decode c_Reader_readNumber 54 = .ok (.imul, 1) := by decide +kernel
theorem d_Reader_readNumber_55 : decode c_Reader_readNumber 55 = .ok (.aload_n 0, 1) := by decide +kernel
theorem d_Reader_readNumber_56 : decode c_Reader_readNumber 56 = .ok (.aload_n 0, 1) := by decide +kernel
theorem d_Reader_readNumber_57 : decode c_Reader_readNumber 57 = .ok (.getfield 35, 3) := by decide +kernel
theorem d_Reader_readNumber_60 : decode c_Reader_readNumber 60 = .ok (.invokevirtual 76, 3) := by decide +kernel
theorem d_Reader_readNumber_63 : decode c_Reader_readNumber 63 = .ok (.iadd, 1) := by decide +kernel
theorem d_Reader_readNumber_64 : decode c_Reader_readNumber 64 = .ok (.bipush 48, 2) := by decide +kernel
theorem d_Reader_readNumber_66 : decode c_Reader_readNumber 66 = .ok (.isub, 1) := by decide +kernel
theorem d_Reader_readNumber_67 : decode c_Reader_readNumber 67 = .ok (.ldc 174, 2) := by decide +kernel
theorem d_Reader_readNumber_69 : decode c_Reader_readNumber 69 = .ok (.invokestatic 195, 3) := by decide +kernel
theorem d_Reader_readNumber_72 : decode c_Reader_readNumber 72 = .ok (.istore_n 1, 1) := by decide +kernel
theorem d_Reader_readNumber_73 : decode c_Reader_readNumber 73 = .ok (.aload_n 0, 1) := by decide +kernel
theorem d_Reader_readNumber_74 : decode c_Reader_readNumber 74 = .ok (.dup, 1) := by decide +kernel
theorem d_Reader_readNumber_75 : decode c_Reader_readNumber 75 = .ok (.getfield 35, 3) := by decide +kernel
theorem d_Reader_readNumber_78 : decode c_Reader_readNumber 78 = .ok (.iconst 1, 1) := by decide +kernel
theorem d_Reader_readNumber_79 : decode c_Reader_readNumber 79 = .ok (.iadd, 1) := by decide +kernel
theorem d_Reader_readNumber_80 : decode c_Reader_readNumber 80 = .ok (.putfield 35, 3) := by decide +kernel
theorem d_Reader_readNumber_83 : decode c_Reader_readNumber 83 = .ok (.goto (-57), 3) := by decide +kernel
theorem d_Reader_readNumber_86 : decode c_Reader_readNumber 86 = .ok (.iload_n 1, 1) := by decide +kernel
theorem d_Reader_readNumber_87 : decode c_Reader_readNumber 87 = .ok (.ireturn, 1) := by decide +kernel
theorem d_Reader_readBackslash_0 : decode c_Reader_readBackslash 0 = .ok (.aload_n 0, 1) := by decide +kernel
theorem d_Reader_readBackslash_1 : decode c_Reader_readBackslash 1 = .ok (.aload_n 0, 1) := by decide +kernel
theorem d_Reader_readBackslash_2 : decode c_Reader_readBackslash 2 = .ok (.getfield 35, 3) := by decide +kernel
theorem d_Reader_readBackslash_5 : decode c_Reader_readBackslash 5 = .ok (.iconst 1, 1) := by decide +kernel
theorem d_Reader_readBackslash_6 : decode c_Reader_readBackslash 6 = .ok (.iadd, 1) := by decide +kernel
theorem d_Reader_readBackslash_7 : decode c_Reader_readBackslash 7 = .ok (.invokevirtual 76, 3) := by decide +kernel
theorem d_Reader_readBackslash_10 : decode c_Reader_readBackslash 10 = .ok (.istore_n 1, 1) := by decide +kernel
theorem d_Reader_readBackslash_11 : decode c_Reader_readBackslash 11 = .ok (.iload_n 1, 1) := by decide +kernel
theorem d_Reader_readBackslash_12 : decode c_Reader_readBackslash 12 = .ok (.bipush 98, 2) := by decide +kernel
theorem d_Reader_readBackslash_14 : decode c_Reader_readBackslash 14 = .ok (.if_icmp .ne 13, 3) := by decide +kernel
theorem d_Reader_readBackslash_17 : decode c_Reader_readBackslash 17 = .ok (.aload_n 0, 1) := by decide +kernel
theorem d_Reader_readBackslash_18 : decode c_Reader_readBackslash 18 = .ok (.bipush 9, 2) := by decide +kernel
theorem d_Reader_readBackslash_20 : decode c_Reader_readBackslash 20 = .ok (.iconst 2, 1) := by decide +kernel
theorem d_Reader_readBackslash_21 : decode c_Reader_readBackslash 21 = .ok (.invokevirtual 95, 3) := by decide +kernel
theorem d_Reader_readBackslash_24 : decode c_Reader_readBackslash 24 = .ok (.goto 90, 3) := by decide +kernel
theorem d_Reader_readBackslash_27 : decode c_Reader_readBackslash 27 = .ok (.iload_n 1, 1) := by decide +kernel
theorem d_Reader_readBackslash_28 : decode c_Reader_readBackslash 28 = .ok (.bipush 66, 2) := by decide +kernel
theorem d_Reader_readBackslash_30 : decode c_Reader_readBackslash 30 = .ok (.if_icmp .ne 13, 3) := by decide +kernel
theorem d_Reader_readBackslash_33 : decode c_Reader_readBackslash 33 = .ok (.aload_n 0, 1) := by decide +kernel
theorem d_Reader_readBackslash_34 : decode c_Reader_readBackslash 34 = .ok (.bipush 10, 2) := by decide +kernel
theorem d_Reader_readBackslash_36 : decode c_Reader_readBackslash 36 = .ok (.iconst 2, 1) := by decide +kernel
theorem d_Reader_readBackslash_37 : decode c_Reader_readBackslash 37 = .ok (.invokevirtual 95, 3) := by decide +kernel
theorem d_Reader_readBackslash_40 : decode c_Reader_readBackslash 40 = .ok (.goto 74, 3) := by decide +kernel
theorem d_Reader_readBackslash_43 : decode c_Reader_readBackslash 43 = .ok (.iload_n 1, 1) := by decide +kernel
theorem d_Reader_readBackslash_44 : decode c_Reader_readBackslash 44 = .ok (.invokestatic 189, 3) := by decide +kernel
theorem d_Reader_readBackslash_47 : decode c_Reader_readBackslash 47 = .ok (.ifCond .eq 38, 3) := by decide +kernel
theorem d_Reader_readBackslash_50 : decode c_Reader_readBackslash 50 = .ok (.iload_n 1, 1) := by decide +kernel
theorem d_Reader_readBackslash_51 : decode c_Reader_readBackslash 51 = .ok (.bipush 48, 2) := by decide +kernel
theorem d_Reader_readBackslash_53 : decode c_Reader_readBackslash 53 = .ok (.if_icmp .eq 32, 3) := by decide +kernel
theorem d_Reader_readBackslash_56 : decode c_Reader_readBackslash 56 = .ok (.aload_n 0, 1) := by decide +kernel
theorem d_Reader_readBackslash_57 : decode c_Reader_readBackslash 57 = .ok (.dup, 1) := by decide +kernel
theorem d_Reader_readBackslash_58 : decode c_Reader_readBackslash 58 = .ok (.getfield 35, 3) := by decide +kernel
theorem d_Reader_readBackslash_61 : decode c_Reader_readBackslash 61 = .ok (.iconst 1, 1) := by decide +kernel
theorem d_Reader_readBackslash_62 : decode c_Reader_readBackslash 62 = .ok (.iadd, 1) := by decide +kernel
theorem d_Reader_readBackslash_63 : decode c_Reader_readBackslash 63 = .ok (.putfield 35, 3) := by decide +kernel
theorem d_Reader_readBackslash_66 : decode c_Reader_readBackslash 66 = .ok (.aload_n 0, 1) := by decide +kernel
theorem d_Reader_readBackslash_67 : decode c_Reader_readBackslash 67 = .ok (.getfield 35, 3) := by decide +kernel
theorem d_Reader_readBackslash_70 : decode c_Reader_readBackslash 70 = .ok (.istore_n 2, 1) := by decide +kernel
theorem d_Reader_readBackslash_71 : decode c_Reader_readBackslash 71 = .ok (.aload_n 0, 1) := by decide +kernel
theorem d_Reader_readBackslash_72 : decode c_Reader_readBackslash 72 = .ok (.bipush 6, 2) := by decide +kernel
theorem d_Reader_readBackslash_74 : decode c_Reader_readBackslash 74 = .ok (.aload_n 0, 1) := by decide +kernel
theorem d_Reader_readBackslash_75 : decode c_Reader_readBackslash 75 = .ok (.invokevirtual 182, 3) := by decide +kernel
theorem d_Reader_readBackslash_78 : decode c_Reader_readBackslash 78 = .ok (.iload_n 2, 1) := by decide +kernel
theorem d_Reader_readBackslash_79 : decode c_Reader_readBackslash 79 = .ok (.invokevirtual 98, 3) := by decide +kernel
theorem d_Reader_readBackslash_82 : decode c_Reader_readBackslash 82 = .ok (.goto 32, 3) := by decide +kernel
theorem d_Reader_readBackslash_85 : decode c_Reader_readBackslash 85 = .ok (.aload_n 0, 1) := by decide +kernel
theorem d_Reader_readBackslash_86 : decode c_Reader_readBackslash 86 = .ok (.invokevirtual 204, 3) := by decide +kernel
theorem d_Reader_readBackslash_89 : decode c_Reader_readBackslash 89 = .ok (.istore_n 2, 1) := by decide +kernel
theorem d_Reader_readBackslash_90 : decode c_Reader_readBackslash 90 = .ok (.aload_n 0, 1) := by decide +kernel
theorem d_Reader_readBackslash_91 : decode c_Reader_readBackslash 91 = .ok (.getfield 38, 3) := by decide +kernel
theorem d_Reader_readBackslash_94 : decode c_Reader_readBackslash 94 = .ok (.ifCond .ge 20, 3) := by decide +kernel
theorem d_Reader_readBackslash_97 : decode c_Reader_readBackslash 97 = .ok (.aload_n 0, 1) := by decide +kernel
theorem d_Reader_readBackslash_98 : decode c_Reader_readBackslash 98 = .ok (.iload_n 2, 1) := by decide +kernel
theorem d_Reader_readBackslash_99 : decode c_Reader_readBackslash 99 = .ok (.ldc 207, 2) := by decide +kernel
theorem d_Reader_readBackslash_101 : decode c_Reader_readBackslash 101 = .ok (.if_icmp .lt 7, 3) := by decide +kernel
theorem d_Reader_readBackslash_104 : decode c_Reader_readBackslash 104 = .ok (.iconst 3, 1) := by decide +kernel
theorem d_Reader_readBackslash_105 : decode c_Reader_readBackslash 105 = .ok (.goto 4, 3) := by decide +kernel
theorem d_Reader_readBackslash_108 : decode c_Reader_readBackslash 108 = .ok (.iconst 1, 1) := by decide +kernel
theorem d_Reader_readBackslash_109 : decode c_Reader_readBackslash 109 = .ok (.iload_n 2, 1) := by decide +kernel
theorem d_Reader_readBackslash_110 : decode c_Reader_readBackslash 110 = .ok (.iconst 0, 1) := by decide +kernel
theorem d_Reader_readBackslash_111 : decode c_Reader_readBackslash 111 = .ok (.invokevirtual 98, 3) := by decide +kernel
theorem d_Reader_readBackslash_114 : decode c_Reader_readBackslash 114 = .ok (.return_, 1) := by decide +kernel
def Reader_readEscape_b160 (N : Nat) (σ : g_S) : Option (Int32 × g_S) := (Reader_readZero N σ).bind fun q161 => some (q161.1, q161.2)
theorem Reader_readEscape_p160 (ao aa : Nat → Nat) {X : g_X} (hC : gC X c_Reader_readEscape R_Reader 2 45 2 (some .int)) (N : Nat) (σ : g_S) (r : Int32) (σe : g_S) (hf : Reader_readEscape_b160 N σ = some (r, σe)) : gw X (.inl (some (.int r))) (LC ao aa X.2.2.1 σe) (LC ao aa X.2.2.1 σ) [(0, .ref (ao 2))] 160 [] := by
  unfold Reader_readEscape_b160 at hf
  refine gw_aload_n hC 0 d_Reader_readEscape_160 rfl rfl ?_
  obtain ⟨q161, hq161, hf⟩ := g_bind hf
  refine gw_callV hC [] [] (Reader_readZero_m _ _ _ ao aa N _ _ _ hq161) kc_Reader_208 2 (g_lay_obj rfl) rfl rfl ⟨by decide, by decide⟩ (Nat.le_of_ble_eq_true rfl) [.ref (ao 2)] [.int q161.1] rfl rfl d_Reader_readEscape_161 ?_
  cases hf
  exact gw_iret hC d_Reader_readEscape_164
def Reader_readEscape_b200 (N : Nat) (x1 : Int32) (σ : g_S) : Option (Int32 × g_S) := some ((65536 + x1), σ)
theorem Reader_readEscape_p200 (ao aa : Nat → Nat) {X : g_X} (hC : gC X c_Reader_readEscape R_Reader 2 45 2 (some .int)) (N : Nat) (x1 : Int32) (σ : g_S) (r : Int32) (σe : g_S) (hf : Reader_readEscape_b200 N x1 σ = some (r, σe)) : gw X (.inl (some (.int r))) (LC ao aa X.2.2.1 σe) (LC ao aa X.2.2.1 σ) [(0, .ref (ao 2)), (1, .int x1)] 200 [] := by
  unfold Reader_readEscape_b200 at hf
  refine gw_ldc hC 65536 kn_Reader_207 d_Reader_readEscape_200 ?_
  refine gw_iload_n hC 1 d_Reader_readEscape_202 rfl rfl ?_
  refine gw_iadd hC d_Reader_readEscape_203 ?_
  cases hf
  exact gw_iret hC d_Reader_readEscape_204
def Reader_readEscape_b165 (N : Nat) (σ : g_S) : Option (Int32 × g_S) := some (8, σ)
theorem Reader_readEscape_p165 (ao aa : Nat → Nat) {X : g_X} (hC : gC X c_Reader_readEscape R_Reader 2 45 2 (some .int)) (N : Nat) (σ : g_S) (r : Int32) (σe : g_S) (hf : Reader_readEscape_b165 N σ = some (r, σe)) : gw X (.inl (some (.int r))) (LC ao aa X.2.2.1 σe) (LC ao aa X.2.2.1 σ) [(0, .ref (ao 2))] 165 [] := by
  unfold Reader_readEscape_b165 at hf
  refine gw_bipush hC 8 d_Reader_readEscape_165 (by decide) ?_
  cases hf
  exact gw_iret hC d_Reader_readEscape_167
def Reader_readEscape_b183 (N : Nat) (σ : g_S) : Option (Int32 × g_S) := (Reader_readControl N σ).bind fun q184 => some (q184.1, q184.2)
theorem Reader_readEscape_p183 (ao aa : Nat → Nat) {X : g_X} (hC : gC X c_Reader_readEscape R_Reader 2 45 2 (some .int)) (N : Nat) (σ : g_S) (r : Int32) (σe : g_S) (hf : Reader_readEscape_b183 N σ = some (r, σe)) : gw X (.inl (some (.int r))) (LC ao aa X.2.2.1 σe) (LC ao aa X.2.2.1 σ) [(0, .ref (ao 2))] 183 [] := by
  unfold Reader_readEscape_b183 at hf
  refine gw_aload_n hC 0 d_Reader_readEscape_183 rfl rfl ?_
  obtain ⟨q184, hq184, hf⟩ := g_bind hf
  refine gw_callV hC [] [] (Reader_readControl_m _ _ _ ao aa N _ _ _ hq184) kc_Reader_211 2 (g_lay_obj rfl) rfl rfl ⟨by decide, by decide⟩ (Nat.le_of_ble_eq_true rfl) [.ref (ao 2)] [.int q184.1] rfl rfl d_Reader_readEscape_184 ?_
  cases hf
  exact gw_iret hC d_Reader_readEscape_187
def Reader_readEscape_b177 (N : Nat) (σ : g_S) : Option (Int32 × g_S) := some (12, σ)
theorem Reader_readEscape_p177 (ao aa : Nat → Nat) {X : g_X} (hC : gC X c_Reader_readEscape R_Reader 2 45 2 (some .int)) (N : Nat) (σ : g_S) (r : Int32) (σe : g_S) (hf : Reader_readEscape_b177 N σ = some (r, σe)) : gw X (.inl (some (.int r))) (LC ao aa X.2.2.1 σe) (LC ao aa X.2.2.1 σ) [(0, .ref (ao 2))] 177 [] := by
  unfold Reader_readEscape_b177 at hf
  refine gw_bipush hC 12 d_Reader_readEscape_177 (by decide) ?_
  cases hf
  exact gw_iret hC d_Reader_readEscape_179
def Reader_readEscape_b171 (N : Nat) (σ : g_S) : Option (Int32 × g_S) := some (10, σ)
theorem Reader_readEscape_p171 (ao aa : Nat → Nat) {X : g_X} (hC : gC X c_Reader_readEscape R_Reader 2 45 2 (some .int)) (N : Nat) (σ : g_S) (r : Int32) (σe : g_S) (hf : Reader_readEscape_b171 N σ = some (r, σe)) : gw X (.inl (some (.int r))) (LC ao aa X.2.2.1 σe) (LC ao aa X.2.2.1 σ) [(0, .ref (ao 2))] 171 [] := by
  unfold Reader_readEscape_b171 at hf
  refine gw_bipush hC 10 d_Reader_readEscape_171 (by decide) ?_
  cases hf
  exact gw_iret hC d_Reader_readEscape_173
def Reader_readEscape_b180 (N : Nat) (σ : g_S) : Option (Int32 × g_S) := some (13, σ)
theorem Reader_readEscape_p180 (ao aa : Nat → Nat) {X : g_X} (hC : gC X c_Reader_readEscape R_Reader 2 45 2 (some .int)) (N : Nat) (σ : g_S) (r : Int32) (σe : g_S) (hf : Reader_readEscape_b180 N σ = some (r, σe)) : gw X (.inl (some (.int r))) (LC ao aa X.2.2.1 σe) (LC ao aa X.2.2.1 σ) [(0, .ref (ao 2))] 180 [] := by
  unfold Reader_readEscape_b180 at hf
  refine gw_bipush hC 13 d_Reader_readEscape_180 (by decide) ?_
  cases hf
  exact gw_iret hC d_Reader_readEscape_182
def Reader_readEscape_b168 (N : Nat) (σ : g_S) : Option (Int32 × g_S) := some (9, σ)
theorem Reader_readEscape_p168 (ao aa : Nat → Nat) {X : g_X} (hC : gC X c_Reader_readEscape R_Reader 2 45 2 (some .int)) (N : Nat) (σ : g_S) (r : Int32) (σe : g_S) (hf : Reader_readEscape_b168 N σ = some (r, σe)) : gw X (.inl (some (.int r))) (LC ao aa X.2.2.1 σe) (LC ao aa X.2.2.1 σ) [(0, .ref (ao 2))] 168 [] := by
  unfold Reader_readEscape_b168 at hf
  refine gw_bipush hC 9 d_Reader_readEscape_168 (by decide) ?_
  cases hf
  exact gw_iret hC d_Reader_readEscape_170
def Reader_readEscape_b194 (N : Nat) (σ : g_S) : Option (Int32 × g_S) := (Reader_readSixteenths N 4 σ).bind fun q196 => some (q196.1, q196.2)
theorem Reader_readEscape_p194 (ao aa : Nat → Nat) {X : g_X} (hC : gC X c_Reader_readEscape R_Reader 2 45 2 (some .int)) (N : Nat) (σ : g_S) (r : Int32) (σe : g_S) (hf : Reader_readEscape_b194 N σ = some (r, σe)) : gw X (.inl (some (.int r))) (LC ao aa X.2.2.1 σe) (LC ao aa X.2.2.1 σ) [(0, .ref (ao 2))] 194 [] := by
  unfold Reader_readEscape_b194 at hf
  refine gw_aload_n hC 0 d_Reader_readEscape_194 rfl rfl ?_
  refine gw_iconst hC 4 d_Reader_readEscape_195 (by decide) ?_
  obtain ⟨q196, hq196, hf⟩ := g_bind hf
  refine gw_callV hC [.int 4] [] (Reader_readSixteenths_m _ _ _ ao aa N _ _ _ _ hq196) kc_Reader_214 2 (g_lay_obj rfl) rfl rfl ⟨by decide, by decide⟩ (Nat.le_of_ble_eq_true rfl) [.int 4, .ref (ao 2)] [.int q196.1] rfl rfl d_Reader_readEscape_196 ?_
  cases hf
  exact gw_iret hC d_Reader_readEscape_199
def Reader_readEscape_b174 (N : Nat) (σ : g_S) : Option (Int32 × g_S) := some (11, σ)
theorem Reader_readEscape_p174 (ao aa : Nat → Nat) {X : g_X} (hC : gC X c_Reader_readEscape R_Reader 2 45 2 (some .int)) (N : Nat) (σ : g_S) (r : Int32) (σe : g_S) (hf : Reader_readEscape_b174 N σ = some (r, σe)) : gw X (.inl (some (.int r))) (LC ao aa X.2.2.1 σe) (LC ao aa X.2.2.1 σ) [(0, .ref (ao 2))] 174 [] := by
  unfold Reader_readEscape_b174 at hf
  refine gw_bipush hC 11 d_Reader_readEscape_174 (by decide) ?_
  cases hf
  exact gw_iret hC d_Reader_readEscape_176
def Reader_readEscape_b188 (N : Nat) (σ : g_S) : Option (Int32 × g_S) := (Reader_readSixteenths N 2 σ).bind fun q190 => some (q190.1, q190.2)
theorem Reader_readEscape_p188 (ao aa : Nat → Nat) {X : g_X} (hC : gC X c_Reader_readEscape R_Reader 2 45 2 (some .int)) (N : Nat) (σ : g_S) (r : Int32) (σe : g_S) (hf : Reader_readEscape_b188 N σ = some (r, σe)) : gw X (.inl (some (.int r))) (LC ao aa X.2.2.1 σe) (LC ao aa X.2.2.1 σ) [(0, .ref (ao 2))] 188 [] := by
  unfold Reader_readEscape_b188 at hf
  refine gw_aload_n hC 0 d_Reader_readEscape_188 rfl rfl ?_
  refine gw_iconst hC 2 d_Reader_readEscape_189 (by decide) ?_
  obtain ⟨q190, hq190, hf⟩ := g_bind hf
  refine gw_callV hC [.int 2] [] (Reader_readSixteenths_m _ _ _ ao aa N _ _ _ _ hq190) kc_Reader_214 2 (g_lay_obj rfl) rfl rfl ⟨by decide, by decide⟩ (Nat.le_of_ble_eq_true rfl) [.int 2, .ref (ao 2)] [.int q190.1] rfl rfl d_Reader_readEscape_190 ?_
  cases hf
  exact gw_iret hC d_Reader_readEscape_193
def Reader_readEscape_b233 (N : Nat) (x1 : Int32) (σ : g_S) : Option (Int32 × g_S) := some (x1, σ)
theorem Reader_readEscape_p233 (ao aa : Nat → Nat) {X : g_X} (hC : gC X c_Reader_readEscape R_Reader 2 45 2 (some .int)) (N : Nat) (x1 : Int32) (σ : g_S) (r : Int32) (σe : g_S) (hf : Reader_readEscape_b233 N x1 σ = some (r, σe)) : gw X (.inl (some (.int r))) (LC ao aa X.2.2.1 σe) (LC ao aa X.2.2.1 σ) [(0, .ref (ao 2)), (1, .int x1)] 233 [] := by
  unfold Reader_readEscape_b233 at hf
  refine gw_iload_n hC 1 d_Reader_readEscape_233 rfl rfl ?_
  cases hf
  exact gw_iret hC d_Reader_readEscape_234
def Reader_readEscape_b223 (N : Nat) (x1 : Int32) (σ : g_S) : Option (Int32 × g_S) := Reader_readEscape_b233 N x1 (gF σ 13 ((σ.1 12) - 1))
theorem Reader_readEscape_p223 (ao aa : Nat → Nat) {X : g_X} (hC : gC X c_Reader_readEscape R_Reader 2 45 2 (some .int)) (N : Nat) (x1 : Int32) (σ : g_S) (r : Int32) (σe : g_S) (hf : Reader_readEscape_b223 N x1 σ = some (r, σe)) : gw X (.inl (some (.int r))) (LC ao aa X.2.2.1 σe) (LC ao aa X.2.2.1 σ) [(0, .ref (ao 2)), (1, .int x1)] 223 [] := by
  unfold Reader_readEscape_b223 at hf
  refine gw_aload_n hC 0 d_Reader_readEscape_223 rfl rfl ?_
  refine gw_aload_n hC 0 d_Reader_readEscape_224 rfl rfl ?_
  refine Cg12 hC kf_Reader_35 d_Reader_readEscape_225 (σ.1 12) rfl ?_
  refine gw_iconst hC 1 d_Reader_readEscape_228 (by decide) ?_
  refine gw_isub hC d_Reader_readEscape_229 ?_
  refine Cp13 hC kf_Reader_38 d_Reader_readEscape_230 ?_
  exact Reader_readEscape_p233 ao aa hC N _ _ _ _ hf
def Reader_readEscape_b216 (N : Nat) (x1 : Int32) (σ : g_S) : Option (Int32 × g_S) := (Units_isNamePart N x1 σ).bind fun q217 => if q217.1 = 0 then Reader_readEscape_b233 N x1 q217.2 else Reader_readEscape_b223 N x1 q217.2
theorem Reader_readEscape_p216 (ao aa : Nat → Nat) {X : g_X} (hC : gC X c_Reader_readEscape R_Reader 2 45 2 (some .int)) (N : Nat) (x1 : Int32) (σ : g_S) (r : Int32) (σe : g_S) (hf : Reader_readEscape_b216 N x1 σ = some (r, σe)) : gw X (.inl (some (.int r))) (LC ao aa X.2.2.1 σe) (LC ao aa X.2.2.1 σ) [(0, .ref (ao 2)), (1, .int x1)] 216 [] := by
  unfold Reader_readEscape_b216 at hf
  refine gw_iload_n hC 1 d_Reader_readEscape_216 rfl rfl ?_
  obtain ⟨q217, hq217, hf⟩ := g_bind hf
  refine gw_callS hC [.int x1] [] (Units_isNamePart_m _ _ _ ao aa N _ _ _ _ hq217) kc_Reader_217 ⟨by decide, by decide⟩ (Nat.le_of_ble_eq_true rfl) [.int x1] [.int q217.1] rfl rfl d_Reader_readEscape_217 ?_
  refine gw_if_eq hC 233 d_Reader_readEscape_220 (by decide) (fun hh => ?_) (fun hh => ?_)
  · rw [if_pos hh] at hf
    exact Reader_readEscape_p233 ao aa hC N _ _ _ _ hf
  · rw [if_neg hh] at hf
    exact Reader_readEscape_p223 ao aa hC N _ _ _ _ hf
def Reader_readEscape_b209 (N : Nat) (x1 : Int32) (σ : g_S) : Option (Int32 × g_S) := if 255 < x1 then Reader_readEscape_b223 N x1 σ else Reader_readEscape_b216 N x1 σ
theorem Reader_readEscape_p209 (ao aa : Nat → Nat) {X : g_X} (hC : gC X c_Reader_readEscape R_Reader 2 45 2 (some .int)) (N : Nat) (x1 : Int32) (σ : g_S) (r : Int32) (σe : g_S) (hf : Reader_readEscape_b209 N x1 σ = some (r, σe)) : gw X (.inl (some (.int r))) (LC ao aa X.2.2.1 σe) (LC ao aa X.2.2.1 σ) [(0, .ref (ao 2)), (1, .int x1)] 209 [] := by
  unfold Reader_readEscape_b209 at hf
  refine gw_iload_n hC 1 d_Reader_readEscape_209 rfl rfl ?_
  refine gw_sipush hC 255 d_Reader_readEscape_210 (by decide) ?_
  refine gw_icmp_gt hC 223 d_Reader_readEscape_213 (by decide) (fun hh => ?_) (fun hh => ?_)
  · rw [if_pos hh] at hf
    exact Reader_readEscape_p223 ao aa hC N _ _ _ _ hf
  · rw [if_neg hh] at hf
    exact Reader_readEscape_p216 ao aa hC N _ _ _ _ hf
def Reader_readEscape_b205 (N : Nat) (x1 : Int32) (σ : g_S) : Option (Int32 × g_S) := if x1 < 0 then Reader_readEscape_b223 N x1 σ else Reader_readEscape_b209 N x1 σ
theorem Reader_readEscape_p205 (ao aa : Nat → Nat) {X : g_X} (hC : gC X c_Reader_readEscape R_Reader 2 45 2 (some .int)) (N : Nat) (x1 : Int32) (σ : g_S) (r : Int32) (σe : g_S) (hf : Reader_readEscape_b205 N x1 σ = some (r, σe)) : gw X (.inl (some (.int r))) (LC ao aa X.2.2.1 σe) (LC ao aa X.2.2.1 σ) [(0, .ref (ao 2)), (1, .int x1)] 205 [] := by
  unfold Reader_readEscape_b205 at hf
  refine gw_iload_n hC 1 d_Reader_readEscape_205 rfl rfl ?_
  refine gw_if_lt hC 223 d_Reader_readEscape_206 (by decide) (fun hh => ?_) (fun hh => ?_)
  · rw [if_pos hh] at hf
    exact Reader_readEscape_p223 ao aa hC N _ _ _ _ hf
  · rw [if_neg hh] at hf
    exact Reader_readEscape_p209 ao aa hC N _ _ _ _ hf
def Reader_readEscape_b0 (N : Nat) (σ : g_S) : Option (Int32 × g_S) := (Reader_unitAt N ((σ.1 12) + 1) σ).bind fun q7 => if q7.1 = 48 then Reader_readEscape_b160 N (gF q7.2 12 ((q7.2.1 12) + 2)) else if q7.1 = 68 then Reader_readEscape_b200 N q7.1 (gF q7.2 12 ((q7.2.1 12) + 2)) else if q7.1 = 83 then Reader_readEscape_b200 N q7.1 (gF q7.2 12 ((q7.2.1 12) + 2)) else if q7.1 = 87 then Reader_readEscape_b200 N q7.1 (gF q7.2 12 ((q7.2.1 12) + 2)) else if q7.1 = 98 then Reader_readEscape_b165 N (gF q7.2 12 ((q7.2.1 12) + 2)) else if q7.1 = 99 then Reader_readEscape_b183 N (gF q7.2 12 ((q7.2.1 12) + 2)) else if q7.1 = 100 then Reader_readEscape_b200 N q7.1 (gF q7.2 12 ((q7.2.1 12) + 2)) else if q7.1 = 102 then Reader_readEscape_b177 N (gF q7.2 12 ((q7.2.1 12) + 2)) else if q7.1 = 110 then Reader_readEscape_b171 N (gF q7.2 12 ((q7.2.1 12) + 2)) else if q7.1 = 114 then Reader_readEscape_b180 N (gF q7.2 12 ((q7.2.1 12) + 2)) else if q7.1 = 115 then Reader_readEscape_b200 N q7.1 (gF q7.2 12 ((q7.2.1 12) + 2)) else if q7.1 = 116 then Reader_readEscape_b168 N (gF q7.2 12 ((q7.2.1 12) + 2)) else if q7.1 = 117 then Reader_readEscape_b194 N (gF q7.2 12 ((q7.2.1 12) + 2)) else if q7.1 = 118 then Reader_readEscape_b174 N (gF q7.2 12 ((q7.2.1 12) + 2)) else if q7.1 = 119 then Reader_readEscape_b200 N q7.1 (gF q7.2 12 ((q7.2.1 12) + 2)) else if q7.1 = 120 then Reader_readEscape_b188 N (gF q7.2 12 ((q7.2.1 12) + 2)) else Reader_readEscape_b205 N q7.1 (gF q7.2 12 ((q7.2.1 12) + 2))
theorem Reader_readEscape_p0 (ao aa : Nat → Nat) {X : g_X} (hC : gC X c_Reader_readEscape R_Reader 2 45 2 (some .int)) (N : Nat) (σ : g_S) (r : Int32) (σe : g_S) (hf : Reader_readEscape_b0 N σ = some (r, σe)) : gw X (.inl (some (.int r))) (LC ao aa X.2.2.1 σe) (LC ao aa X.2.2.1 σ) [(0, .ref (ao 2))] 0 [] := by
  unfold Reader_readEscape_b0 at hf
  refine gw_aload_n hC 0 d_Reader_readEscape_0 rfl rfl ?_
  refine gw_aload_n hC 0 d_Reader_readEscape_1 rfl rfl ?_
  refine Cg12 hC kf_Reader_35 d_Reader_readEscape_2 (σ.1 12) rfl ?_
  refine gw_iconst hC 1 d_Reader_readEscape_5 (by decide) ?_
  refine gw_iadd hC d_Reader_readEscape_6 ?_
  obtain ⟨q7, hq7, hf⟩ := g_bind hf
  refine gw_callV hC [.int ((σ.1 12) + 1)] [] (Reader_unitAt_m _ _ _ ao aa N _ _ _ _ hq7) kc_Reader_76 2 (g_lay_obj rfl) rfl rfl ⟨by decide, by decide⟩ (Nat.le_of_ble_eq_true rfl) [.int ((σ.1 12) + 1), .ref (ao 2)] [.int q7.1] rfl rfl d_Reader_readEscape_7 ?_
  refine gw_istore_n hC [(1, .int q7.1), (0, .ref (ao 2))] d_Reader_readEscape_10 rfl (by decide) rfl ?_
  refine gw_aload_n hC 1 d_Reader_readEscape_11 rfl rfl ?_
  refine gw_dup hC d_Reader_readEscape_12 rfl ?_
  refine Cg12 hC kf_Reader_35 d_Reader_readEscape_13 (q7.2.1 12) rfl ?_
  refine gw_iconst hC 2 d_Reader_readEscape_16 (by decide) ?_
  refine gw_iadd hC d_Reader_readEscape_17 ?_
  refine Cp12 hC kf_Reader_35 d_Reader_readEscape_18 ?_
  refine gw_iload_n hC 0 d_Reader_readEscape_21 rfl rfl ?_
  by_cases hh0 : q7.1 = 48
  · rw [if_pos hh0] at hf
    refine gw_lookup hC 138 160 d_Reader_readEscape_22 (by decide) (by rw [hh0]; decide +kernel) (by decide) ?_
    refine gw_lv [1] rfl ?_
    exact Reader_readEscape_p160 ao aa hC N _ _ _ hf
  · rw [if_neg hh0] at hf
    by_cases hh1 : q7.1 = 68
    · rw [if_pos hh1] at hf
      refine gw_lookup hC 178 200 d_Reader_readEscape_22 (by decide) (by rw [hh1]; decide +kernel) (by decide) ?_
      refine gw_lv [1, 0] rfl ?_
      exact Reader_readEscape_p200 ao aa hC N _ _ _ _ hf
    · rw [if_neg hh1] at hf
      by_cases hh2 : q7.1 = 83
      · rw [if_pos hh2] at hf
        refine gw_lookup hC 178 200 d_Reader_readEscape_22 (by decide) (by rw [hh2]; decide +kernel) (by decide) ?_
        refine gw_lv [1, 0] rfl ?_
        exact Reader_readEscape_p200 ao aa hC N _ _ _ _ hf
      · rw [if_neg hh2] at hf
        by_cases hh3 : q7.1 = 87
        · rw [if_pos hh3] at hf
          refine gw_lookup hC 178 200 d_Reader_readEscape_22 (by decide) (by rw [hh3]; decide +kernel) (by decide) ?_
          refine gw_lv [1, 0] rfl ?_
          exact Reader_readEscape_p200 ao aa hC N _ _ _ _ hf
        · rw [if_neg hh3] at hf
          by_cases hh4 : q7.1 = 98
          · rw [if_pos hh4] at hf
            refine gw_lookup hC 143 165 d_Reader_readEscape_22 (by decide) (by rw [hh4]; decide +kernel) (by decide) ?_
            refine gw_lv [1] rfl ?_
            exact Reader_readEscape_p165 ao aa hC N _ _ _ hf
          · rw [if_neg hh4] at hf
            by_cases hh5 : q7.1 = 99
            · rw [if_pos hh5] at hf
              refine gw_lookup hC 161 183 d_Reader_readEscape_22 (by decide) (by rw [hh5]; decide +kernel) (by decide) ?_
              refine gw_lv [1] rfl ?_
              exact Reader_readEscape_p183 ao aa hC N _ _ _ hf
            · rw [if_neg hh5] at hf
              by_cases hh6 : q7.1 = 100
              · rw [if_pos hh6] at hf
                refine gw_lookup hC 178 200 d_Reader_readEscape_22 (by decide) (by rw [hh6]; decide +kernel) (by decide) ?_
                refine gw_lv [1, 0] rfl ?_
                exact Reader_readEscape_p200 ao aa hC N _ _ _ _ hf
              · rw [if_neg hh6] at hf
                by_cases hh7 : q7.1 = 102
                · rw [if_pos hh7] at hf
                  refine gw_lookup hC 155 177 d_Reader_readEscape_22 (by decide) (by rw [hh7]; decide +kernel) (by decide) ?_
                  refine gw_lv [1] rfl ?_
                  exact Reader_readEscape_p177 ao aa hC N _ _ _ hf
                · rw [if_neg hh7] at hf
                  by_cases hh8 : q7.1 = 110
                  · rw [if_pos hh8] at hf
                    refine gw_lookup hC 149 171 d_Reader_readEscape_22 (by decide) (by rw [hh8]; decide +kernel) (by decide) ?_
                    refine gw_lv [1] rfl ?_
                    exact Reader_readEscape_p171 ao aa hC N _ _ _ hf
                  · rw [if_neg hh8] at hf
                    by_cases hh9 : q7.1 = 114
                    · rw [if_pos hh9] at hf
                      refine gw_lookup hC 158 180 d_Reader_readEscape_22 (by decide) (by rw [hh9]; decide +kernel) (by decide) ?_
                      refine gw_lv [1] rfl ?_
                      exact Reader_readEscape_p180 ao aa hC N _ _ _ hf
                    · rw [if_neg hh9] at hf
                      by_cases hh10 : q7.1 = 115
                      · rw [if_pos hh10] at hf
                        refine gw_lookup hC 178 200 d_Reader_readEscape_22 (by decide) (by rw [hh10]; decide +kernel) (by decide) ?_
                        refine gw_lv [1, 0] rfl ?_
                        exact Reader_readEscape_p200 ao aa hC N _ _ _ _ hf
                      · rw [if_neg hh10] at hf
                        by_cases hh11 : q7.1 = 116
                        · rw [if_pos hh11] at hf
                          refine gw_lookup hC 146 168 d_Reader_readEscape_22 (by decide) (by rw [hh11]; decide +kernel) (by decide) ?_
                          refine gw_lv [1] rfl ?_
                          exact Reader_readEscape_p168 ao aa hC N _ _ _ hf
                        · rw [if_neg hh11] at hf
                          by_cases hh12 : q7.1 = 117
                          · rw [if_pos hh12] at hf
                            refine gw_lookup hC 172 194 d_Reader_readEscape_22 (by decide) (by rw [hh12]; decide +kernel) (by decide) ?_
                            refine gw_lv [1] rfl ?_
                            exact Reader_readEscape_p194 ao aa hC N _ _ _ hf
                          · rw [if_neg hh12] at hf
                            by_cases hh13 : q7.1 = 118
                            · rw [if_pos hh13] at hf
                              refine gw_lookup hC 152 174 d_Reader_readEscape_22 (by decide) (by rw [hh13]; decide +kernel) (by decide) ?_
                              refine gw_lv [1] rfl ?_
                              exact Reader_readEscape_p174 ao aa hC N _ _ _ hf
                            · rw [if_neg hh13] at hf
                              by_cases hh14 : q7.1 = 119
                              · rw [if_pos hh14] at hf
                                refine gw_lookup hC 178 200 d_Reader_readEscape_22 (by decide) (by rw [hh14]; decide +kernel) (by decide) ?_
                                refine gw_lv [1, 0] rfl ?_
                                exact Reader_readEscape_p200 ao aa hC N _ _ _ _ hf
                              · rw [if_neg hh14] at hf
                                by_cases hh15 : q7.1 = 120
                                · rw [if_pos hh15] at hf
                                  refine gw_lookup hC 166 188 d_Reader_readEscape_22 (by decide) (by rw [hh15]; decide +kernel) (by decide) ?_
                                  refine gw_lv [1] rfl ?_
                                  exact Reader_readEscape_p188 ao aa hC N _ _ _ hf
                                · rw [if_neg hh15] at hf
                                  refine gw_lookup hC 183 205 d_Reader_readEscape_22 (by decide) (g_lk hh0 (by decide) (g_lk hh1 (by decide) (g_lk hh2 (by decide) (g_lk hh3 (by decide) (g_lk hh4 (by decide) (g_lk hh5 (by decide) (g_lk hh6 (by decide) (g_lk hh7 (by decide) (g_lk hh8 (by decide) (g_lk hh9 (by decide) (g_lk hh10 (by decide) (g_lk hh11 (by decide) (g_lk hh12 (by decide) (g_lk hh13 (by decide) (g_lk hh14 (by decide) (g_lk hh15 (by decide) rfl)))))))))))))))) (by decide) ?_
                                  refine gw_lv [1, 0] rfl ?_
                                  exact Reader_readEscape_p205 ao aa hC N _ _ _ _ hf
def Reader_readEscape (N : Nat) (σ : g_S) : Option (Int32 × g_S) := Reader_readEscape_b0 N  σ
theorem Reader_readEscape_m (l : Launch) (D : va_G) (cA : ClassId) (ao aa : Nat → Nat) (N : Nat) (σ : g_S) (r : Int32) (σe : g_S) (hf : Reader_readEscape N σ = some (r, σe)) : Mt l D cA y_Reader_readEscape c_Reader_readEscape 2 (some .int) 2 45 [.ref (ao 2)] (LC ao aa cA σ) (some (.int r)) (LC ao aa cA σe) := by
  refine g_met (by decide +kernel) (by simp [lg_sl, Value.category]) (fun X e1 e2 e3 hC => ?_)
  subst e1 e2 e3
  refine gw_lv [0] rfl ?_
  exact Reader_readEscape_p0 ao aa hC N _ (r) _ hf
def Reader_takeUnit_b0 (N : Nat) (σ : g_S) : Option (Int32 × g_S) := (Reader_unitAt N (σ.1 12) σ).bind fun q5 => some (q5.1, (gF q5.2 12 ((q5.2.1 12) + 1)))
theorem Reader_takeUnit_p0 (ao aa : Nat → Nat) {X : g_X} (hC : gC X c_Reader_takeUnit R_Reader 1 21 2 (some .int)) (N : Nat) (σ : g_S) (r : Int32) (σe : g_S) (hf : Reader_takeUnit_b0 N σ = some (r, σe)) : gw X (.inl (some (.int r))) (LC ao aa X.2.2.1 σe) (LC ao aa X.2.2.1 σ) [(0, .ref (ao 2))] 0 [] := by
  unfold Reader_takeUnit_b0 at hf
  refine gw_aload_n hC 0 d_Reader_takeUnit_0 rfl rfl ?_
  refine gw_aload_n hC 0 d_Reader_takeUnit_1 rfl rfl ?_
  refine Cg12 hC kf_Reader_35 d_Reader_takeUnit_2 (σ.1 12) rfl ?_
  obtain ⟨q5, hq5, hf⟩ := g_bind hf
  refine gw_callV hC [.int (σ.1 12)] [] (Reader_unitAt_m _ _ _ ao aa N _ _ _ _ hq5) kc_Reader_76 2 (g_lay_obj rfl) rfl rfl ⟨by decide, by decide⟩ (Nat.le_of_ble_eq_true rfl) [.int (σ.1 12), .ref (ao 2)] [.int q5.1] rfl rfl d_Reader_takeUnit_5 ?_
  refine gw_istore_n hC [(1, .int q5.1), (0, .ref (ao 2))] d_Reader_takeUnit_8 rfl (by decide) rfl ?_
  refine gw_aload_n hC 1 d_Reader_takeUnit_9 rfl rfl ?_
  refine gw_dup hC d_Reader_takeUnit_10 rfl ?_
  refine Cg12 hC kf_Reader_35 d_Reader_takeUnit_11 (q5.2.1 12) rfl ?_
  refine gw_iconst hC 1 d_Reader_takeUnit_14 (by decide) ?_
  refine gw_iadd hC d_Reader_takeUnit_15 ?_
  refine Cp12 hC kf_Reader_35 d_Reader_takeUnit_16 ?_
  refine gw_iload_n hC 0 d_Reader_takeUnit_19 rfl rfl ?_
  cases hf
  exact gw_iret hC d_Reader_takeUnit_20
def Reader_takeUnit (N : Nat) (σ : g_S) : Option (Int32 × g_S) := Reader_takeUnit_b0 N  σ
theorem Reader_takeUnit_m (l : Launch) (D : va_G) (cA : ClassId) (ao aa : Nat → Nat) (N : Nat) (σ : g_S) (r : Int32) (σe : g_S) (hf : Reader_takeUnit N σ = some (r, σe)) : Mt l D cA y_Reader_takeUnit c_Reader_takeUnit 2 (some .int) 1 21 [.ref (ao 2)] (LC ao aa cA σ) (some (.int r)) (LC ao aa cA σe) := by
  refine g_met (by decide +kernel) (by simp [lg_sl, Value.category]) (fun X e1 e2 e3 hC => ?_)
  subst e1 e2 e3
  refine gw_lv [0] rfl ?_
  exact Reader_takeUnit_p0 ao aa hC N _ (r) _ hf
def Reader_takeMember_b121 (N : Nat) (x2 : Int32) (σ : g_S) : Option (Int32 × g_S) := some (x2, (gF σ 12 ((σ.1 12) + 1)))
theorem Reader_takeMember_p121 (ao aa : Nat → Nat) {X : g_X} (hC : gC X c_Reader_takeMember R_Reader 1 22 6 (some .int)) (N : Nat) (x2 : Int32) (σ : g_S) (r : Int32) (σe : g_S) (hf : Reader_takeMember_b121 N x2 σ = some (r, σe)) : gw X (.inl (some (.int r))) (LC ao aa X.2.2.1 σe) (LC ao aa X.2.2.1 σ) [(0, .ref (ao 2)), (2, .int x2)] 121 [] := by
  unfold Reader_takeMember_b121 at hf
  refine gw_aload_n hC 0 d_Reader_takeMember_121 rfl rfl ?_
  refine gw_dup hC d_Reader_takeMember_122 rfl ?_
  refine Cg12 hC kf_Reader_35 d_Reader_takeMember_123 (σ.1 12) rfl ?_
  refine gw_iconst hC 1 d_Reader_takeMember_126 (by decide) ?_
  refine gw_iadd hC d_Reader_takeMember_127 ?_
  refine Cp12 hC kf_Reader_35 d_Reader_takeMember_128 ?_
  refine gw_iload_n hC 1 d_Reader_takeMember_131 rfl rfl ?_
  cases hf
  exact gw_iret hC d_Reader_takeMember_132
def Reader_takeMember_b113 (N : Nat) (x2 : Int32) (σ : g_S) : Option (Int32 × g_S) := Reader_takeMember_b121 N x2 (gF σ 13 (σ.1 12))
theorem Reader_takeMember_p113 (ao aa : Nat → Nat) {X : g_X} (hC : gC X c_Reader_takeMember R_Reader 1 22 6 (some .int)) (N : Nat) (x2 : Int32) (σ : g_S) (r : Int32) (σe : g_S) (hf : Reader_takeMember_b113 N x2 σ = some (r, σe)) : gw X (.inl (some (.int r))) (LC ao aa X.2.2.1 σe) (LC ao aa X.2.2.1 σ) [(0, .ref (ao 2)), (2, .int x2)] 113 [] := by
  unfold Reader_takeMember_b113 at hf
  refine gw_aload_n hC 0 d_Reader_takeMember_113 rfl rfl ?_
  refine gw_aload_n hC 0 d_Reader_takeMember_114 rfl rfl ?_
  refine Cg12 hC kf_Reader_35 d_Reader_takeMember_115 (σ.1 12) rfl ?_
  refine Cp13 hC kf_Reader_38 d_Reader_takeMember_118 ?_
  exact Reader_takeMember_p121 ao aa hC N _ _ _ _ hf
def Reader_takeMember_b108 (N : Nat) (x2 : Int32) (x4 : Int32) (σ : g_S) : Option (Int32 × g_S) := if x4 = 0 then Reader_takeMember_b121 N x2 σ else Reader_takeMember_b113 N x2 σ
theorem Reader_takeMember_p108 (ao aa : Nat → Nat) {X : g_X} (hC : gC X c_Reader_takeMember R_Reader 1 22 6 (some .int)) (N : Nat) (x2 : Int32) (x4 : Int32) (σ : g_S) (r : Int32) (σe : g_S) (hf : Reader_takeMember_b108 N x2 x4 σ = some (r, σe)) : gw X (.inl (some (.int r))) (LC ao aa X.2.2.1 σe) (LC ao aa X.2.2.1 σ) [(0, .ref (ao 2)), (2, .int x2), (4, .int x4)] 108 [] := by
  unfold Reader_takeMember_b108 at hf
  refine gw_iload hC 2 d_Reader_takeMember_108 rfl ?_
  refine gw_if_eq hC 121 d_Reader_takeMember_110 (by decide) (fun hh => ?_) (fun hh => ?_)
  · rw [if_pos hh] at hf
    refine gw_lv [0, 1] rfl ?_
    exact Reader_takeMember_p121 ao aa hC N _ _ _ _ hf
  · rw [if_neg hh] at hf
    refine gw_lv [0, 1] rfl ?_
    exact Reader_takeMember_p113 ao aa hC N _ _ _ _ hf
def Reader_takeMember_b97 (N : Nat) (x2 : Int32) (σ : g_S) : Option (Int32 × g_S) := (Program_addMember N x2 x2 σ).bind fun q103 => some ((-1), q103.2)
theorem Reader_takeMember_p97 (ao aa : Nat → Nat) {X : g_X} (hC : gC X c_Reader_takeMember R_Reader 1 22 6 (some .int)) (N : Nat) (x2 : Int32) (σ : g_S) (r : Int32) (σe : g_S) (hf : Reader_takeMember_b97 N x2 σ = some (r, σe)) : gw X (.inl (some (.int r))) (LC ao aa X.2.2.1 σe) (LC ao aa X.2.2.1 σ) [(0, .ref (ao 2)), (2, .int x2)] 97 [] := by
  unfold Reader_takeMember_b97 at hf
  refine gw_aload_n hC 0 d_Reader_takeMember_97 rfl rfl ?_
  refine Cr_Reader_program hC kf_Reader_24 d_Reader_takeMember_98 ?_
  refine gw_iload_n hC 1 d_Reader_takeMember_101 rfl rfl ?_
  refine gw_iload_n hC 1 d_Reader_takeMember_102 rfl rfl ?_
  obtain ⟨q103, hq103, hf⟩ := g_bind hf
  refine gw_callV hC [.int x2, .int x2] [] (Program_addMember_m _ _ _ ao aa N _ _ _ _ _ hq103) kc_Reader_235 1 (g_lay_obj rfl) rfl rfl ⟨by decide, by decide⟩ (Nat.le_of_ble_eq_true rfl) [.int x2, .int x2, .ref (ao 1)] [] rfl rfl d_Reader_takeMember_103 ?_
  refine gw_iconst hC (-1) d_Reader_takeMember_106 (by decide) ?_
  cases hf
  exact gw_iret hC d_Reader_takeMember_107
def Reader_takeMember_b90 (N : Nat) (x2 : Int32) (x4 : Int32) (s0 : Int32) (σ : g_S) : Option (Int32 × g_S) := if s0 = 0 then Reader_takeMember_b97 N x2 σ else Reader_takeMember_b108 N x2 x4 σ
theorem Reader_takeMember_p90 (ao aa : Nat → Nat) {X : g_X} (hC : gC X c_Reader_takeMember R_Reader 1 22 6 (some .int)) (N : Nat) (x2 : Int32) (x4 : Int32) (s0 : Int32) (σ : g_S) (r : Int32) (σe : g_S) (hf : Reader_takeMember_b90 N x2 x4 s0 σ = some (r, σe)) : gw X (.inl (some (.int r))) (LC ao aa X.2.2.1 σe) (LC ao aa X.2.2.1 σ) [(0, .ref (ao 2)), (2, .int x2), (4, .int x4)] 90 [.int s0] := by
  unfold Reader_takeMember_b90 at hf
  refine gw_istore hC [(5, .int s0), (0, .ref (ao 2)), (2, .int x2), (4, .int x4)] d_Reader_takeMember_90 (by decide) rfl ?_
  refine gw_iload hC 0 d_Reader_takeMember_92 rfl ?_
  refine gw_if_ne hC 108 d_Reader_takeMember_94 (by decide) (fun hh => ?_) (fun hh => ?_)
  · rw [if_neg hh] at hf
    refine gw_lv [1, 2, 3] rfl ?_
    exact Reader_takeMember_p108 ao aa hC N _ _ _ _ _ hf
  · rw [if_pos hh] at hf
    refine gw_lv [1, 2] rfl ?_
    exact Reader_takeMember_p97 ao aa hC N _ _ _ _ hf
def Reader_takeMember_b89 (N : Nat) (x2 : Int32) (x4 : Int32) (σ : g_S) : Option (Int32 × g_S) := Reader_takeMember_b90 N x2 x4 0 σ
theorem Reader_takeMember_p89 (ao aa : Nat → Nat) {X : g_X} (hC : gC X c_Reader_takeMember R_Reader 1 22 6 (some .int)) (N : Nat) (x2 : Int32) (x4 : Int32) (σ : g_S) (r : Int32) (σe : g_S) (hf : Reader_takeMember_b89 N x2 x4 σ = some (r, σe)) : gw X (.inl (some (.int r))) (LC ao aa X.2.2.1 σe) (LC ao aa X.2.2.1 σ) [(0, .ref (ao 2)), (2, .int x2), (4, .int x4)] 89 [] := by
  unfold Reader_takeMember_b89 at hf
  refine gw_iconst hC 0 d_Reader_takeMember_89 (by decide) ?_
  exact Reader_takeMember_p90 ao aa hC N _ _ _ _ _ _ hf
def Reader_takeMember_b85 (N : Nat) (x2 : Int32) (x4 : Int32) (σ : g_S) : Option (Int32 × g_S) := Reader_takeMember_b90 N x2 x4 1 σ
theorem Reader_takeMember_p85 (ao aa : Nat → Nat) {X : g_X} (hC : gC X c_Reader_takeMember R_Reader 1 22 6 (some .int)) (N : Nat) (x2 : Int32) (x4 : Int32) (σ : g_S) (r : Int32) (σe : g_S) (hf : Reader_takeMember_b85 N x2 x4 σ = some (r, σe)) : gw X (.inl (some (.int r))) (LC ao aa X.2.2.1 σe) (LC ao aa X.2.2.1 σ) [(0, .ref (ao 2)), (2, .int x2), (4, .int x4)] 85 [] := by
  unfold Reader_takeMember_b85 at hf
  refine gw_iconst hC 1 d_Reader_takeMember_85 (by decide) ?_
  refine gw_goto hC 90 d_Reader_takeMember_86 (by decide) ?_
  exact Reader_takeMember_p90 ao aa hC N _ _ _ _ _ _ hf
def Reader_takeMember_b70 (N : Nat) (x2 : Int32) (x4 : Int32) (σ : g_S) : Option (Int32 × g_S) := (Reader_unitAt N ((σ.1 12) + 1) σ).bind fun q77 => if q77.1 = 93 then Reader_takeMember_b89 N x2 x4 q77.2 else Reader_takeMember_b85 N x2 x4 q77.2
theorem Reader_takeMember_p70 (ao aa : Nat → Nat) {X : g_X} (hC : gC X c_Reader_takeMember R_Reader 1 22 6 (some .int)) (N : Nat) (x2 : Int32) (x4 : Int32) (σ : g_S) (r : Int32) (σe : g_S) (hf : Reader_takeMember_b70 N x2 x4 σ = some (r, σe)) : gw X (.inl (some (.int r))) (LC ao aa X.2.2.1 σe) (LC ao aa X.2.2.1 σ) [(0, .ref (ao 2)), (2, .int x2), (4, .int x4)] 70 [] := by
  unfold Reader_takeMember_b70 at hf
  refine gw_aload_n hC 0 d_Reader_takeMember_70 rfl rfl ?_
  refine gw_aload_n hC 0 d_Reader_takeMember_71 rfl rfl ?_
  refine Cg12 hC kf_Reader_35 d_Reader_takeMember_72 (σ.1 12) rfl ?_
  refine gw_iconst hC 1 d_Reader_takeMember_75 (by decide) ?_
  refine gw_iadd hC d_Reader_takeMember_76 ?_
  obtain ⟨q77, hq77, hf⟩ := g_bind hf
  refine gw_callV hC [.int ((σ.1 12) + 1)] [] (Reader_unitAt_m _ _ _ ao aa N _ _ _ _ hq77) kc_Reader_76 2 (g_lay_obj rfl) rfl rfl ⟨by decide, by decide⟩ (Nat.le_of_ble_eq_true rfl) [.int ((σ.1 12) + 1), .ref (ao 2)] [.int q77.1] rfl rfl d_Reader_takeMember_77 ?_
  refine gw_bipush hC 93 d_Reader_takeMember_80 (by decide) ?_
  refine gw_icmp_eq hC 89 d_Reader_takeMember_82 (by decide) (fun hh => ?_) (fun hh => ?_)
  · rw [if_pos hh] at hf
    exact Reader_takeMember_p89 ao aa hC N _ _ _ _ _ hf
  · rw [if_neg hh] at hf
    exact Reader_takeMember_p85 ao aa hC N _ _ _ _ _ hf
def Reader_takeMember_b57 (N : Nat) (x2 : Int32) (x4 : Int32) (σ : g_S) : Option (Int32 × g_S) := if (σ.1 11) ≤ ((σ.1 12) + 1) then Reader_takeMember_b89 N x2 x4 σ else Reader_takeMember_b70 N x2 x4 σ
theorem Reader_takeMember_p57 (ao aa : Nat → Nat) {X : g_X} (hC : gC X c_Reader_takeMember R_Reader 1 22 6 (some .int)) (N : Nat) (x2 : Int32) (x4 : Int32) (σ : g_S) (r : Int32) (σe : g_S) (hf : Reader_takeMember_b57 N x2 x4 σ = some (r, σe)) : gw X (.inl (some (.int r))) (LC ao aa X.2.2.1 σe) (LC ao aa X.2.2.1 σ) [(0, .ref (ao 2)), (2, .int x2), (4, .int x4)] 57 [] := by
  unfold Reader_takeMember_b57 at hf
  refine gw_aload_n hC 0 d_Reader_takeMember_57 rfl rfl ?_
  refine Cg12 hC kf_Reader_35 d_Reader_takeMember_58 (σ.1 12) rfl ?_
  refine gw_iconst hC 1 d_Reader_takeMember_61 (by decide) ?_
  refine gw_iadd hC d_Reader_takeMember_62 ?_
  refine gw_aload_n hC 0 d_Reader_takeMember_63 rfl rfl ?_
  refine Cg11 hC kf_Reader_31 d_Reader_takeMember_64 (σ.1 11) rfl ?_
  refine gw_icmp_ge hC 89 d_Reader_takeMember_67 (by decide) (fun hh => ?_) (fun hh => ?_)
  · rw [if_pos hh] at hf
    exact Reader_takeMember_p89 ao aa hC N _ _ _ _ _ hf
  · rw [if_neg hh] at hf
    exact Reader_takeMember_p70 ao aa hC N _ _ _ _ _ hf
def Reader_takeMember_b44 (N : Nat) (x2 : Int32) (x4 : Int32) (σ : g_S) : Option (Int32 × g_S) := (Reader_unitAt N (σ.1 12) σ).bind fun q49 => if q49.1 = 45 then Reader_takeMember_b57 N x2 x4 q49.2 else Reader_takeMember_b89 N x2 x4 q49.2
theorem Reader_takeMember_p44 (ao aa : Nat → Nat) {X : g_X} (hC : gC X c_Reader_takeMember R_Reader 1 22 6 (some .int)) (N : Nat) (x2 : Int32) (x4 : Int32) (σ : g_S) (r : Int32) (σe : g_S) (hf : Reader_takeMember_b44 N x2 x4 σ = some (r, σe)) : gw X (.inl (some (.int r))) (LC ao aa X.2.2.1 σe) (LC ao aa X.2.2.1 σ) [(0, .ref (ao 2)), (2, .int x2), (4, .int x4)] 44 [] := by
  unfold Reader_takeMember_b44 at hf
  refine gw_aload_n hC 0 d_Reader_takeMember_44 rfl rfl ?_
  refine gw_aload_n hC 0 d_Reader_takeMember_45 rfl rfl ?_
  refine Cg12 hC kf_Reader_35 d_Reader_takeMember_46 (σ.1 12) rfl ?_
  obtain ⟨q49, hq49, hf⟩ := g_bind hf
  refine gw_callV hC [.int (σ.1 12)] [] (Reader_unitAt_m _ _ _ ao aa N _ _ _ _ hq49) kc_Reader_76 2 (g_lay_obj rfl) rfl rfl ⟨by decide, by decide⟩ (Nat.le_of_ble_eq_true rfl) [.int (σ.1 12), .ref (ao 2)] [.int q49.1] rfl rfl d_Reader_takeMember_49 ?_
  refine gw_bipush hC 45 d_Reader_takeMember_52 (by decide) ?_
  refine gw_icmp_ne hC 89 d_Reader_takeMember_54 (by decide) (fun hh => ?_) (fun hh => ?_)
  · rw [if_neg hh] at hf
    exact Reader_takeMember_p89 ao aa hC N _ _ _ _ _ hf
  · rw [if_pos hh] at hf
    exact Reader_takeMember_p57 ao aa hC N _ _ _ _ _ hf
def Reader_takeMember_b33 (N : Nat) (x1 : Int32) (x2 : Int32) (σ : g_S) : Option (Int32 × g_S) := (Program_addMember N x1 x2 σ).bind fun q39 => some ((-1), q39.2)
theorem Reader_takeMember_p33 (ao aa : Nat → Nat) {X : g_X} (hC : gC X c_Reader_takeMember R_Reader 1 22 6 (some .int)) (N : Nat) (x1 : Int32) (x2 : Int32) (σ : g_S) (r : Int32) (σe : g_S) (hf : Reader_takeMember_b33 N x1 x2 σ = some (r, σe)) : gw X (.inl (some (.int r))) (LC ao aa X.2.2.1 σe) (LC ao aa X.2.2.1 σ) [(0, .ref (ao 2)), (1, .int x1), (2, .int x2)] 33 [] := by
  unfold Reader_takeMember_b33 at hf
  refine gw_aload_n hC 0 d_Reader_takeMember_33 rfl rfl ?_
  refine Cr_Reader_program hC kf_Reader_24 d_Reader_takeMember_34 ?_
  refine gw_iload_n hC 1 d_Reader_takeMember_37 rfl rfl ?_
  refine gw_iload_n hC 2 d_Reader_takeMember_38 rfl rfl ?_
  obtain ⟨q39, hq39, hf⟩ := g_bind hf
  refine gw_callV hC [.int x1, .int x2] [] (Program_addMember_m _ _ _ ao aa N _ _ _ _ _ hq39) kc_Reader_235 1 (g_lay_obj rfl) rfl rfl ⟨by decide, by decide⟩ (Nat.le_of_ble_eq_true rfl) [.int x2, .int x1, .ref (ao 1)] [] rfl rfl d_Reader_takeMember_39 ?_
  refine gw_iconst hC (-1) d_Reader_takeMember_42 (by decide) ?_
  cases hf
  exact gw_iret hC d_Reader_takeMember_43
def Reader_takeMember_b28 (N : Nat) (x1 : Int32) (x2 : Int32) (x3 : Int32) (σ : g_S) : Option (Int32 × g_S) := Reader_takeMember_b33 N x1 x2 (gF σ 13 x3)
theorem Reader_takeMember_p28 (ao aa : Nat → Nat) {X : g_X} (hC : gC X c_Reader_takeMember R_Reader 1 22 6 (some .int)) (N : Nat) (x1 : Int32) (x2 : Int32) (x3 : Int32) (σ : g_S) (r : Int32) (σe : g_S) (hf : Reader_takeMember_b28 N x1 x2 x3 σ = some (r, σe)) : gw X (.inl (some (.int r))) (LC ao aa X.2.2.1 σe) (LC ao aa X.2.2.1 σ) [(0, .ref (ao 2)), (1, .int x1), (2, .int x2), (3, .int x3)] 28 [] := by
  unfold Reader_takeMember_b28 at hf
  refine gw_aload_n hC 0 d_Reader_takeMember_28 rfl rfl ?_
  refine gw_iload_n hC 3 d_Reader_takeMember_29 rfl rfl ?_
  refine Cp13 hC kf_Reader_38 d_Reader_takeMember_30 ?_
  refine gw_lv [0, 1, 2] rfl ?_
  exact Reader_takeMember_p33 ao aa hC N _ _ _ _ _ hf
def Reader_takeMember_b23 (N : Nat) (x1 : Int32) (x2 : Int32) (x3 : Int32) (σ : g_S) : Option (Int32 × g_S) := if x1 ≤ x2 then Reader_takeMember_b33 N x1 x2 σ else Reader_takeMember_b28 N x1 x2 x3 σ
theorem Reader_takeMember_p23 (ao aa : Nat → Nat) {X : g_X} (hC : gC X c_Reader_takeMember R_Reader 1 22 6 (some .int)) (N : Nat) (x1 : Int32) (x2 : Int32) (x3 : Int32) (σ : g_S) (r : Int32) (σe : g_S) (hf : Reader_takeMember_b23 N x1 x2 x3 σ = some (r, σe)) : gw X (.inl (some (.int r))) (LC ao aa X.2.2.1 σe) (LC ao aa X.2.2.1 σ) [(0, .ref (ao 2)), (1, .int x1), (2, .int x2), (3, .int x3)] 23 [] := by
  unfold Reader_takeMember_b23 at hf
  refine gw_iload_n hC 2 d_Reader_takeMember_23 rfl rfl ?_
  refine gw_iload_n hC 1 d_Reader_takeMember_24 rfl rfl ?_
  refine gw_icmp_ge hC 33 d_Reader_takeMember_25 (by decide) (fun hh => ?_) (fun hh => ?_)
  · rw [if_pos hh] at hf
    refine gw_lv [0, 1, 2] rfl ?_
    exact Reader_takeMember_p33 ao aa hC N _ _ _ _ _ hf
  · rw [if_neg hh] at hf
    exact Reader_takeMember_p28 ao aa hC N _ _ _ _ _ _ hf
def Reader_takeMember_b18 (N : Nat) (x1 : Int32) (x2 : Int32) (x3 : Int32) (x4 : Int32) (σ : g_S) : Option (Int32 × g_S) := if x4 = 0 then Reader_takeMember_b23 N x1 x2 x3 σ else Reader_takeMember_b28 N x1 x2 x3 σ
theorem Reader_takeMember_p18 (ao aa : Nat → Nat) {X : g_X} (hC : gC X c_Reader_takeMember R_Reader 1 22 6 (some .int)) (N : Nat) (x1 : Int32) (x2 : Int32) (x3 : Int32) (x4 : Int32) (σ : g_S) (r : Int32) (σe : g_S) (hf : Reader_takeMember_b18 N x1 x2 x3 x4 σ = some (r, σe)) : gw X (.inl (some (.int r))) (LC ao aa X.2.2.1 σe) (LC ao aa X.2.2.1 σ) [(0, .ref (ao 2)), (1, .int x1), (2, .int x2), (3, .int x3), (4, .int x4)] 18 [] := by
  unfold Reader_takeMember_b18 at hf
  refine gw_iload hC 4 d_Reader_takeMember_18 rfl ?_
  refine gw_if_ne hC 28 d_Reader_takeMember_20 (by decide) (fun hh => ?_) (fun hh => ?_)
  · rw [if_neg hh] at hf
    refine gw_lv [0, 1, 2, 3] rfl ?_
    exact Reader_takeMember_p28 ao aa hC N _ _ _ _ _ _ hf
  · rw [if_pos hh] at hf
    refine gw_lv [0, 1, 2, 3] rfl ?_
    exact Reader_takeMember_p23 ao aa hC N _ _ _ _ _ _ hf
def Reader_takeMember_b11 (N : Nat) (x1 : Int32) (x2 : Int32) (x3 : Int32) (s0 : Int32) (σ : g_S) : Option (Int32 × g_S) := if x1 = (-1) then Reader_takeMember_b44 N x2 s0 σ else Reader_takeMember_b18 N x1 x2 x3 s0 σ
theorem Reader_takeMember_p11 (ao aa : Nat → Nat) {X : g_X} (hC : gC X c_Reader_takeMember R_Reader 1 22 6 (some .int)) (N : Nat) (x1 : Int32) (x2 : Int32) (x3 : Int32) (s0 : Int32) (σ : g_S) (r : Int32) (σe : g_S) (hf : Reader_takeMember_b11 N x1 x2 x3 s0 σ = some (r, σe)) : gw X (.inl (some (.int r))) (LC ao aa X.2.2.1 σe) (LC ao aa X.2.2.1 σ) [(0, .ref (ao 2)), (1, .int x1), (2, .int x2), (3, .int x3)] 11 [.int s0] := by
  unfold Reader_takeMember_b11 at hf
  refine gw_istore hC [(4, .int s0), (0, .ref (ao 2)), (1, .int x1), (2, .int x2), (3, .int x3)] d_Reader_takeMember_11 (by decide) rfl ?_
  refine gw_iload_n hC 2 d_Reader_takeMember_13 rfl rfl ?_
  refine gw_iconst hC (-1) d_Reader_takeMember_14 (by decide) ?_
  refine gw_icmp_eq hC 44 d_Reader_takeMember_15 (by decide) (fun hh => ?_) (fun hh => ?_)
  · rw [if_pos hh] at hf
    refine gw_lv [1, 3, 0] rfl ?_
    exact Reader_takeMember_p44 ao aa hC N _ _ _ _ _ hf
  · rw [if_neg hh] at hf
    refine gw_lv [1, 2, 3, 4, 0] rfl ?_
    exact Reader_takeMember_p18 ao aa hC N _ _ _ _ _ _ _ hf
def Reader_takeMember_b10 (N : Nat) (x1 : Int32) (x2 : Int32) (x3 : Int32) (σ : g_S) : Option (Int32 × g_S) := Reader_takeMember_b11 N x1 x2 x3 0 σ
theorem Reader_takeMember_p10 (ao aa : Nat → Nat) {X : g_X} (hC : gC X c_Reader_takeMember R_Reader 1 22 6 (some .int)) (N : Nat) (x1 : Int32) (x2 : Int32) (x3 : Int32) (σ : g_S) (r : Int32) (σe : g_S) (hf : Reader_takeMember_b10 N x1 x2 x3 σ = some (r, σe)) : gw X (.inl (some (.int r))) (LC ao aa X.2.2.1 σe) (LC ao aa X.2.2.1 σ) [(0, .ref (ao 2)), (1, .int x1), (2, .int x2), (3, .int x3)] 10 [] := by
  unfold Reader_takeMember_b10 at hf
  refine gw_iconst hC 0 d_Reader_takeMember_10 (by decide) ?_
  exact Reader_takeMember_p11 ao aa hC N _ _ _ _ _ _ _ hf
def Reader_takeMember_b6 (N : Nat) (x1 : Int32) (x2 : Int32) (x3 : Int32) (σ : g_S) : Option (Int32 × g_S) := Reader_takeMember_b11 N x1 x2 x3 1 σ
theorem Reader_takeMember_p6 (ao aa : Nat → Nat) {X : g_X} (hC : gC X c_Reader_takeMember R_Reader 1 22 6 (some .int)) (N : Nat) (x1 : Int32) (x2 : Int32) (x3 : Int32) (σ : g_S) (r : Int32) (σe : g_S) (hf : Reader_takeMember_b6 N x1 x2 x3 σ = some (r, σe)) : gw X (.inl (some (.int r))) (LC ao aa X.2.2.1 σe) (LC ao aa X.2.2.1 σ) [(0, .ref (ao 2)), (1, .int x1), (2, .int x2), (3, .int x3)] 6 [] := by
  unfold Reader_takeMember_b6 at hf
  refine gw_iconst hC 1 d_Reader_takeMember_6 (by decide) ?_
  refine gw_goto hC 11 d_Reader_takeMember_7 (by decide) ?_
  exact Reader_takeMember_p11 ao aa hC N _ _ _ _ _ _ _ hf
def Reader_takeMember_b0 (N : Nat) (x1 : Int32) (x2 : Int32) (x3 : Int32) (σ : g_S) : Option (Int32 × g_S) := if x2 < 65536 then Reader_takeMember_b10 N x1 x2 x3 σ else Reader_takeMember_b6 N x1 x2 x3 σ
theorem Reader_takeMember_p0 (ao aa : Nat → Nat) {X : g_X} (hC : gC X c_Reader_takeMember R_Reader 1 22 6 (some .int)) (N : Nat) (x1 : Int32) (x2 : Int32) (x3 : Int32) (σ : g_S) (r : Int32) (σe : g_S) (hf : Reader_takeMember_b0 N x1 x2 x3 σ = some (r, σe)) : gw X (.inl (some (.int r))) (LC ao aa X.2.2.1 σe) (LC ao aa X.2.2.1 σ) [(0, .ref (ao 2)), (1, .int x1), (2, .int x2), (3, .int x3)] 0 [] := by
  unfold Reader_takeMember_b0 at hf
  refine gw_iload_n hC 2 d_Reader_takeMember_0 rfl rfl ?_
  refine gw_ldc hC 65536 kn_Reader_207 d_Reader_takeMember_1 ?_
  refine gw_icmp_lt hC 10 d_Reader_takeMember_3 (by decide) (fun hh => ?_) (fun hh => ?_)
  · rw [if_pos hh] at hf
    exact Reader_takeMember_p10 ao aa hC N _ _ _ _ _ _ hf
  · rw [if_neg hh] at hf
    exact Reader_takeMember_p6 ao aa hC N _ _ _ _ _ _ hf
def Reader_takeMember (N : Nat) (x1 : Int32) (x2 : Int32) (x3 : Int32) (σ : g_S) : Option (Int32 × g_S) := Reader_takeMember_b0 N x1 x2 x3 σ
theorem Reader_takeMember_m (l : Launch) (D : va_G) (cA : ClassId) (ao aa : Nat → Nat) (N : Nat) (x1 : Int32) (x2 : Int32) (x3 : Int32) (σ : g_S) (r : Int32) (σe : g_S) (hf : Reader_takeMember N x1 x2 x3 σ = some (r, σe)) : Mt l D cA y_Reader_takeMember c_Reader_takeMember 6 (some .int) 1 22 [.ref (ao 2), .int x1, .int x2, .int x3] (LC ao aa cA σ) (some (.int r)) (LC ao aa cA σe) := by
  refine g_met (by decide +kernel) (by simp [lg_sl, Value.category]) (fun X e1 e2 e3 hC => ?_)
  subst e1 e2 e3
  refine gw_lv [0, 1, 2, 3] rfl ?_
  exact Reader_takeMember_p0 ao aa hC N _ _ _ _ (r) _ hf
def Reader_addAtom_b0 (N : Nat) (x1 : Int32) (x2 : Int32) (x3 : Int32) (σ : g_S) : Option (Int32 × g_S) := (Program_addNode N x1 x2 x3 σ).bind fun q7 => (Reader_holdAtom N q7.1 q7.1 (q7.2.1 8) q7.2).bind fun q24 => some (0, q24.2)
theorem Reader_addAtom_p0 (ao aa : Nat → Nat) {X : g_X} (hC : gC X c_Reader_addAtom R_Reader 1 24 5 none) (N : Nat) (x1 : Int32) (x2 : Int32) (x3 : Int32) (σ : g_S) (r : Int32) (σe : g_S) (hf : Reader_addAtom_b0 N x1 x2 x3 σ = some (r, σe)) : gw X (.inl none) (LC ao aa X.2.2.1 σe) (LC ao aa X.2.2.1 σ) [(0, .ref (ao 2)), (1, .int x1), (2, .int x2), (3, .int x3)] 0 [] := by
  unfold Reader_addAtom_b0 at hf
  refine gw_aload_n hC 0 d_Reader_addAtom_0 rfl rfl ?_
  refine Cr_Reader_program hC kf_Reader_24 d_Reader_addAtom_1 ?_
  refine gw_iload_n hC 1 d_Reader_addAtom_4 rfl rfl ?_
  refine gw_iload_n hC 2 d_Reader_addAtom_5 rfl rfl ?_
  refine gw_iload_n hC 3 d_Reader_addAtom_6 rfl rfl ?_
  obtain ⟨q7, hq7, hf⟩ := g_bind hf
  refine gw_callV hC [.int x1, .int x2, .int x3] [] (Program_addNode_m _ _ _ ao aa N _ _ _ _ _ _ hq7) kc_Reader_52 1 (g_lay_obj rfl) rfl rfl ⟨by decide, by decide⟩ (Nat.le_of_ble_eq_true rfl) [.int x3, .int x2, .int x1, .ref (ao 1)] [.int q7.1] rfl rfl d_Reader_addAtom_7 ?_
  refine gw_istore hC [(4, .int q7.1), (0, .ref (ao 2)), (1, .int x1), (2, .int x2), (3, .int x3)] d_Reader_addAtom_10 (by decide) rfl ?_
  refine gw_aload_n hC 1 d_Reader_addAtom_12 rfl rfl ?_
  refine gw_iload hC 0 d_Reader_addAtom_13 rfl ?_
  refine gw_iload hC 0 d_Reader_addAtom_15 rfl ?_
  refine gw_aload_n hC 1 d_Reader_addAtom_17 rfl rfl ?_
  refine Cr_Reader_program hC kf_Reader_24 d_Reader_addAtom_18 ?_
  refine Cg8 hC kf_Reader_118 d_Reader_addAtom_21 (q7.2.1 8) rfl ?_
  obtain ⟨q24, hq24, hf⟩ := g_bind hf
  refine gw_callV hC [.int q7.1, .int q7.1, .int (q7.2.1 8)] [] (Reader_holdAtom_m _ _ _ ao aa N _ _ _ _ _ _ hq24) kc_Reader_133 2 (g_lay_obj rfl) rfl rfl ⟨by decide, by decide⟩ (Nat.le_of_ble_eq_true rfl) [.int (q7.2.1 8), .int q7.1, .int q7.1, .ref (ao 2)] [] rfl rfl d_Reader_addAtom_24 ?_
  cases hf
  exact gw_vret hC d_Reader_addAtom_27
def Reader_addAtom (N : Nat) (x1 : Int32) (x2 : Int32) (x3 : Int32) (σ : g_S) : Option (Int32 × g_S) := Reader_addAtom_b0 N x1 x2 x3 σ
theorem Reader_addAtom_m (l : Launch) (D : va_G) (cA : ClassId) (ao aa : Nat → Nat) (N : Nat) (x1 : Int32) (x2 : Int32) (x3 : Int32) (σ : g_S) (r : Int32) (σe : g_S) (hf : Reader_addAtom N x1 x2 x3 σ = some (r, σe)) : Mt l D cA y_Reader_addAtom c_Reader_addAtom 5 none 1 24 [.ref (ao 2), .int x1, .int x2, .int x3] (LC ao aa cA σ) none (LC ao aa cA σe) := by
  refine g_met (by decide +kernel) (by simp [lg_sl, Value.category]) (fun X e1 e2 e3 hC => ?_)
  subst e1 e2 e3
  refine gw_lv [0, 1, 2, 3] rfl ?_
  exact Reader_addAtom_p0 ao aa hC N _ _ _ _ (r) _ hf
def Reader_readClass_b214 (N : Nat) (σ : g_S) : Option (Int32 × g_S) := some (0, σ)
theorem Reader_readClass_p214 (ao aa : Nat → Nat) {X : g_X} (hC : gC X c_Reader_readClass R_Reader 3 66 7 none) (N : Nat) (σ : g_S) (r : Int32) (σe : g_S) (hf : Reader_readClass_b214 N σ = some (r, σe)) : gw X (.inl none) (LC ao aa X.2.2.1 σe) (LC ao aa X.2.2.1 σ) [(0, .ref (ao 2))] 214 [] := by
  unfold Reader_readClass_b214 at hf
  cases hf
  exact gw_vret hC d_Reader_readClass_214
def Reader_readClass_b203 (N : Nat) (x2 : Int32) (s1 : Int32) (σ : g_S) : Option (Int32 × g_S) := (Reader_addAtom N s1 x2 (σ.1 5) σ).bind fun q211 => Reader_readClass_b214 N q211.2
theorem Reader_readClass_p203 (ao aa : Nat → Nat) {X : g_X} (hC : gC X c_Reader_readClass R_Reader 3 66 7 none) (N : Nat) (x2 : Int32) (s1 : Int32) (σ : g_S) (r : Int32) (σe : g_S) (hf : Reader_readClass_b203 N x2 s1 σ = some (r, σe)) : gw X (.inl none) (LC ao aa X.2.2.1 σe) (LC ao aa X.2.2.1 σ) [(0, .ref (ao 2)), (2, .int x2)] 203 [.int s1, .ref (ao 2)] := by
  unfold Reader_readClass_b203 at hf
  refine gw_iload_n hC 1 d_Reader_readClass_203 rfl rfl ?_
  refine gw_aload_n hC 0 d_Reader_readClass_204 rfl rfl ?_
  refine Cr_Reader_program hC kf_Reader_24 d_Reader_readClass_205 ?_
  refine Cg5 hC kf_Reader_226 d_Reader_readClass_208 (σ.1 5) rfl ?_
  obtain ⟨q211, hq211, hf⟩ := g_bind hf
  refine gw_callV hC [.int s1, .int x2, .int (σ.1 5)] [] (Reader_addAtom_m _ _ _ ao aa N _ _ _ _ _ _ hq211) kc_Reader_98 2 (g_lay_obj rfl) rfl rfl ⟨by decide, by decide⟩ (Nat.le_of_ble_eq_true rfl) [.int (σ.1 5), .int x2, .int s1, .ref (ao 2)] [] rfl rfl d_Reader_readClass_211 ?_
  refine gw_lv [0] rfl ?_
  exact Reader_readClass_p214 ao aa hC N _ _ _ hf
def Reader_readClass_b202 (N : Nat) (x2 : Int32) (σ : g_S) : Option (Int32 × g_S) := Reader_readClass_b203 N x2 4 σ
theorem Reader_readClass_p202 (ao aa : Nat → Nat) {X : g_X} (hC : gC X c_Reader_readClass R_Reader 3 66 7 none) (N : Nat) (x2 : Int32) (σ : g_S) (r : Int32) (σe : g_S) (hf : Reader_readClass_b202 N x2 σ = some (r, σe)) : gw X (.inl none) (LC ao aa X.2.2.1 σe) (LC ao aa X.2.2.1 σ) [(0, .ref (ao 2)), (2, .int x2)] 202 [.ref (ao 2)] := by
  unfold Reader_readClass_b202 at hf
  refine gw_iconst hC 4 d_Reader_readClass_202 (by decide) ?_
  exact Reader_readClass_p203 ao aa hC N _ _ _ _ _ hf
def Reader_readClass_b198 (N : Nat) (x2 : Int32) (σ : g_S) : Option (Int32 × g_S) := Reader_readClass_b203 N x2 5 σ
theorem Reader_readClass_p198 (ao aa : Nat → Nat) {X : g_X} (hC : gC X c_Reader_readClass R_Reader 3 66 7 none) (N : Nat) (x2 : Int32) (σ : g_S) (r : Int32) (σe : g_S) (hf : Reader_readClass_b198 N x2 σ = some (r, σe)) : gw X (.inl none) (LC ao aa X.2.2.1 σe) (LC ao aa X.2.2.1 σ) [(0, .ref (ao 2)), (2, .int x2)] 198 [.ref (ao 2)] := by
  unfold Reader_readClass_b198 at hf
  refine gw_iconst hC 5 d_Reader_readClass_198 (by decide) ?_
  refine gw_goto hC 203 d_Reader_readClass_199 (by decide) ?_
  exact Reader_readClass_p203 ao aa hC N _ _ _ _ _ hf
def Reader_readClass_b183 (N : Nat) (x1 : Int32) (x2 : Int32) (σ : g_S) : Option (Int32 × g_S) := if x1 = 0 then Reader_readClass_b202 N x2 (gF σ 12 ((σ.1 12) + 1)) else Reader_readClass_b198 N x2 (gF σ 12 ((σ.1 12) + 1))
theorem Reader_readClass_p183 (ao aa : Nat → Nat) {X : g_X} (hC : gC X c_Reader_readClass R_Reader 3 66 7 none) (N : Nat) (x1 : Int32) (x2 : Int32) (σ : g_S) (r : Int32) (σe : g_S) (hf : Reader_readClass_b183 N x1 x2 σ = some (r, σe)) : gw X (.inl none) (LC ao aa X.2.2.1 σe) (LC ao aa X.2.2.1 σ) [(0, .ref (ao 2)), (1, .int x1), (2, .int x2)] 183 [] := by
  unfold Reader_readClass_b183 at hf
  refine gw_aload_n hC 0 d_Reader_readClass_183 rfl rfl ?_
  refine gw_dup hC d_Reader_readClass_184 rfl ?_
  refine Cg12 hC kf_Reader_35 d_Reader_readClass_185 (σ.1 12) rfl ?_
  refine gw_iconst hC 1 d_Reader_readClass_188 (by decide) ?_
  refine gw_iadd hC d_Reader_readClass_189 ?_
  refine Cp12 hC kf_Reader_35 d_Reader_readClass_190 ?_
  refine gw_aload_n hC 0 d_Reader_readClass_193 rfl rfl ?_
  refine gw_iload_n hC 1 d_Reader_readClass_194 rfl rfl ?_
  refine gw_if_eq hC 202 d_Reader_readClass_195 (by decide) (fun hh => ?_) (fun hh => ?_)
  · rw [if_pos hh] at hf
    refine gw_lv [0, 2] rfl ?_
    exact Reader_readClass_p202 ao aa hC N _ _ _ _ hf
  · rw [if_neg hh] at hf
    refine gw_lv [0, 2] rfl ?_
    exact Reader_readClass_p198 ao aa hC N _ _ _ _ hf
def Reader_readClass_b176 (N : Nat) (x1 : Int32) (x2 : Int32) (σ : g_S) : Option (Int32 × g_S) := if 0 ≤ (σ.1 13) then Reader_readClass_b214 N σ else Reader_readClass_b183 N x1 x2 σ
theorem Reader_readClass_p176 (ao aa : Nat → Nat) {X : g_X} (hC : gC X c_Reader_readClass R_Reader 3 66 7 none) (N : Nat) (x1 : Int32) (x2 : Int32) (σ : g_S) (r : Int32) (σe : g_S) (hf : Reader_readClass_b176 N x1 x2 σ = some (r, σe)) : gw X (.inl none) (LC ao aa X.2.2.1 σe) (LC ao aa X.2.2.1 σ) [(0, .ref (ao 2)), (1, .int x1), (2, .int x2)] 176 [] := by
  unfold Reader_readClass_b176 at hf
  refine gw_aload_n hC 0 d_Reader_readClass_176 rfl rfl ?_
  refine Cg13 hC kf_Reader_38 d_Reader_readClass_177 (σ.1 13) rfl ?_
  refine gw_if_ge hC 214 d_Reader_readClass_180 (by decide) (fun hh => ?_) (fun hh => ?_)
  · rw [if_pos hh] at hf
    refine gw_lv [0] rfl ?_
    exact Reader_readClass_p214 ao aa hC N _ _ _ hf
  · rw [if_neg hh] at hf
    exact Reader_readClass_p183 ao aa hC N _ _ _ _ _ hf
def Reader_readClass_b168 (N : Nat) (x1 : Int32) (x2 : Int32) (σ : g_S) : Option (Int32 × g_S) := Reader_readClass_b176 N x1 x2 (gF σ 13 (σ.1 11))
theorem Reader_readClass_p168 (ao aa : Nat → Nat) {X : g_X} (hC : gC X c_Reader_readClass R_Reader 3 66 7 none) (N : Nat) (x1 : Int32) (x2 : Int32) (σ : g_S) (r : Int32) (σe : g_S) (hf : Reader_readClass_b168 N x1 x2 σ = some (r, σe)) : gw X (.inl none) (LC ao aa X.2.2.1 σe) (LC ao aa X.2.2.1 σ) [(0, .ref (ao 2)), (1, .int x1), (2, .int x2)] 168 [] := by
  unfold Reader_readClass_b168 at hf
  refine gw_aload_n hC 0 d_Reader_readClass_168 rfl rfl ?_
  refine gw_aload_n hC 0 d_Reader_readClass_169 rfl rfl ?_
  refine Cg11 hC kf_Reader_31 d_Reader_readClass_170 (σ.1 11) rfl ?_
  refine Cp13 hC kf_Reader_38 d_Reader_readClass_173 ?_
  exact Reader_readClass_p176 ao aa hC N _ _ _ _ _ hf
def Reader_readClass_b157 (N : Nat) (x1 : Int32) (x2 : Int32) (σ : g_S) : Option (Int32 × g_S) := if (σ.1 12) < (σ.1 11) then Reader_readClass_b176 N x1 x2 σ else Reader_readClass_b168 N x1 x2 σ
theorem Reader_readClass_p157 (ao aa : Nat → Nat) {X : g_X} (hC : gC X c_Reader_readClass R_Reader 3 66 7 none) (N : Nat) (x1 : Int32) (x2 : Int32) (σ : g_S) (r : Int32) (σe : g_S) (hf : Reader_readClass_b157 N x1 x2 σ = some (r, σe)) : gw X (.inl none) (LC ao aa X.2.2.1 σe) (LC ao aa X.2.2.1 σ) [(0, .ref (ao 2)), (1, .int x1), (2, .int x2)] 157 [] := by
  unfold Reader_readClass_b157 at hf
  refine gw_aload_n hC 0 d_Reader_readClass_157 rfl rfl ?_
  refine Cg12 hC kf_Reader_35 d_Reader_readClass_158 (σ.1 12) rfl ?_
  refine gw_aload_n hC 0 d_Reader_readClass_161 rfl rfl ?_
  refine Cg11 hC kf_Reader_31 d_Reader_readClass_162 (σ.1 11) rfl ?_
  refine gw_icmp_lt hC 176 d_Reader_readClass_165 (by decide) (fun hh => ?_) (fun hh => ?_)
  · rw [if_pos hh] at hf
    exact Reader_readClass_p176 ao aa hC N _ _ _ _ _ hf
  · rw [if_neg hh] at hf
    exact Reader_readClass_p168 ao aa hC N _ _ _ _ _ hf
def Reader_readClass_b150 (N : Nat) (x1 : Int32) (x2 : Int32) (σ : g_S) : Option (Int32 × g_S) := if 0 ≤ (σ.1 13) then Reader_readClass_b176 N x1 x2 σ else Reader_readClass_b157 N x1 x2 σ
theorem Reader_readClass_p150 (ao aa : Nat → Nat) {X : g_X} (hC : gC X c_Reader_readClass R_Reader 3 66 7 none) (N : Nat) (x1 : Int32) (x2 : Int32) (σ : g_S) (r : Int32) (σe : g_S) (hf : Reader_readClass_b150 N x1 x2 σ = some (r, σe)) : gw X (.inl none) (LC ao aa X.2.2.1 σe) (LC ao aa X.2.2.1 σ) [(0, .ref (ao 2)), (1, .int x1), (2, .int x2)] 150 [] := by
  unfold Reader_readClass_b150 at hf
  refine gw_aload_n hC 0 d_Reader_readClass_150 rfl rfl ?_
  refine Cg13 hC kf_Reader_38 d_Reader_readClass_151 (σ.1 13) rfl ?_
  refine gw_if_ge hC 176 d_Reader_readClass_154 (by decide) (fun hh => ?_) (fun hh => ?_)
  · rw [if_pos hh] at hf
    exact Reader_readClass_p176 ao aa hC N _ _ _ _ _ hf
  · rw [if_neg hh] at hf
    exact Reader_readClass_p157 ao aa hC N _ _ _ _ _ hf
def Reader_readClass_b144 (N : Nat) (k56 : Int32 → Int32 → Int32 → Int32 → g_S → Option (Int32 × g_S)) (x1 : Int32) (x2 : Int32) (x3 : Int32) (x4 : Int32) (σ : g_S) : Option (Int32 × g_S) := k56 x1 x2 x3 (x4 + 1) σ
theorem Reader_readClass_p144 (ao aa : Nat → Nat) {X : g_X} (hC : gC X c_Reader_readClass R_Reader 3 66 7 none) (N : Nat) (k56 : Int32 → Int32 → Int32 → Int32 → g_S → Option (Int32 × g_S)) (hk56 : ∀ (x1 : Int32) (x2 : Int32) (x3 : Int32) (x4 : Int32) (σ : g_S) (r : Int32) (σe : g_S), k56 x1 x2 x3 x4 σ = some (r, σe) → gw X (.inl none) (LC ao aa X.2.2.1 σe) (LC ao aa X.2.2.1 σ) [(0, .ref (ao 2)), (1, .int x1), (2, .int x2), (3, .int x3), (4, .int x4)] 56 []) (x1 : Int32) (x2 : Int32) (x3 : Int32) (x4 : Int32) (σ : g_S) (r : Int32) (σe : g_S) (hf : Reader_readClass_b144 N k56 x1 x2 x3 x4 σ = some (r, σe)) : gw X (.inl none) (LC ao aa X.2.2.1 σe) (LC ao aa X.2.2.1 σ) [(0, .ref (ao 2)), (1, .int x1), (2, .int x2), (3, .int x3), (4, .int x4)] 144 [] := by
  unfold Reader_readClass_b144 at hf
  refine gw_iinc hC (x4 + 1) 4 [(4, .int (x4 + 1)), (0, .ref (ao 2)), (1, .int x1), (2, .int x2), (3, .int x3)] d_Reader_readClass_144 rfl rfl (by decide) rfl ?_
  refine gw_goto hC 56 d_Reader_readClass_147 (by decide) ?_
  refine gw_lv [1, 2, 3, 4, 0] rfl ?_
  exact hk56 _ _ _ _ _ _ _ hf
def Reader_readClass_b134 (N : Nat) (k56 : Int32 → Int32 → Int32 → Int32 → g_S → Option (Int32 × g_S)) (x1 : Int32) (x2 : Int32) (x3 : Int32) (x4 : Int32) (x5 : Int32) (x6 : Int32) (σ : g_S) : Option (Int32 × g_S) := (Reader_takeMember N x3 x6 x5 σ).bind fun q140 => Reader_readClass_b144 N k56 x1 x2 q140.1 x4 q140.2
theorem Reader_readClass_p134 (ao aa : Nat → Nat) {X : g_X} (hC : gC X c_Reader_readClass R_Reader 3 66 7 none) (N : Nat) (k56 : Int32 → Int32 → Int32 → Int32 → g_S → Option (Int32 × g_S)) (hk56 : ∀ (x1 : Int32) (x2 : Int32) (x3 : Int32) (x4 : Int32) (σ : g_S) (r : Int32) (σe : g_S), k56 x1 x2 x3 x4 σ = some (r, σe) → gw X (.inl none) (LC ao aa X.2.2.1 σe) (LC ao aa X.2.2.1 σ) [(0, .ref (ao 2)), (1, .int x1), (2, .int x2), (3, .int x3), (4, .int x4)] 56 []) (x1 : Int32) (x2 : Int32) (x3 : Int32) (x4 : Int32) (x5 : Int32) (x6 : Int32) (σ : g_S) (r : Int32) (σe : g_S) (hf : Reader_readClass_b134 N k56 x1 x2 x3 x4 x5 x6 σ = some (r, σe)) : gw X (.inl none) (LC ao aa X.2.2.1 σe) (LC ao aa X.2.2.1 σ) [(0, .ref (ao 2)), (1, .int x1), (2, .int x2), (3, .int x3), (4, .int x4), (5, .int x5), (6, .int x6)] 134 [] := by
  unfold Reader_readClass_b134 at hf
  refine gw_aload_n hC 0 d_Reader_readClass_134 rfl rfl ?_
  refine gw_iload_n hC 3 d_Reader_readClass_135 rfl rfl ?_
  refine gw_iload hC 6 d_Reader_readClass_136 rfl ?_
  refine gw_iload hC 5 d_Reader_readClass_138 rfl ?_
  obtain ⟨q140, hq140, hf⟩ := g_bind hf
  refine gw_callV hC [.int x3, .int x6, .int x5] [] (Reader_takeMember_m _ _ _ ao aa N _ _ _ _ _ _ hq140) kc_Reader_232 2 (g_lay_obj rfl) rfl rfl ⟨by decide, by decide⟩ (Nat.le_of_ble_eq_true rfl) [.int x5, .int x6, .int x3, .ref (ao 2)] [.int q140.1] rfl rfl d_Reader_readClass_140 ?_
  refine gw_istore_n hC [(3, .int q140.1), (0, .ref (ao 2)), (1, .int x1), (2, .int x2), (4, .int x4), (5, .int x5), (6, .int x6)] d_Reader_readClass_143 rfl (by decide) rfl ?_
  refine gw_lv [1, 2, 3, 0, 4] rfl ?_
  exact Reader_readClass_p144 ao aa hC N _ hk56 _ _ _ _ _ _ _ hf
def Reader_readClass_b125 (N : Nat) (k56 : Int32 → Int32 → Int32 → Int32 → g_S → Option (Int32 × g_S)) (x1 : Int32) (x2 : Int32) (x3 : Int32) (x4 : Int32) (x5 : Int32) (s0 : Int32) (σ : g_S) : Option (Int32 × g_S) := if 0 ≤ (σ.1 13) then Reader_readClass_b144 N k56 x1 x2 x3 x4 σ else Reader_readClass_b134 N k56 x1 x2 x3 x4 x5 s0 σ
theorem Reader_readClass_p125 (ao aa : Nat → Nat) {X : g_X} (hC : gC X c_Reader_readClass R_Reader 3 66 7 none) (N : Nat) (k56 : Int32 → Int32 → Int32 → Int32 → g_S → Option (Int32 × g_S)) (hk56 : ∀ (x1 : Int32) (x2 : Int32) (x3 : Int32) (x4 : Int32) (σ : g_S) (r : Int32) (σe : g_S), k56 x1 x2 x3 x4 σ = some (r, σe) → gw X (.inl none) (LC ao aa X.2.2.1 σe) (LC ao aa X.2.2.1 σ) [(0, .ref (ao 2)), (1, .int x1), (2, .int x2), (3, .int x3), (4, .int x4)] 56 []) (x1 : Int32) (x2 : Int32) (x3 : Int32) (x4 : Int32) (x5 : Int32) (s0 : Int32) (σ : g_S) (r : Int32) (σe : g_S) (hf : Reader_readClass_b125 N k56 x1 x2 x3 x4 x5 s0 σ = some (r, σe)) : gw X (.inl none) (LC ao aa X.2.2.1 σe) (LC ao aa X.2.2.1 σ) [(0, .ref (ao 2)), (1, .int x1), (2, .int x2), (3, .int x3), (4, .int x4), (5, .int x5)] 125 [.int s0] := by
  unfold Reader_readClass_b125 at hf
  refine gw_istore hC [(6, .int s0), (0, .ref (ao 2)), (1, .int x1), (2, .int x2), (3, .int x3), (4, .int x4), (5, .int x5)] d_Reader_readClass_125 (by decide) rfl ?_
  refine gw_aload_n hC 1 d_Reader_readClass_127 rfl rfl ?_
  refine Cg13 hC kf_Reader_38 d_Reader_readClass_128 (σ.1 13) rfl ?_
  refine gw_if_ge hC 144 d_Reader_readClass_131 (by decide) (fun hh => ?_) (fun hh => ?_)
  · rw [if_pos hh] at hf
    refine gw_lv [1, 2, 3, 4, 5] rfl ?_
    exact Reader_readClass_p144 ao aa hC N _ hk56 _ _ _ _ _ _ _ hf
  · rw [if_neg hh] at hf
    refine gw_lv [1, 2, 3, 4, 5, 6, 0] rfl ?_
    exact Reader_readClass_p134 ao aa hC N _ hk56 _ _ _ _ _ _ _ _ _ hf
def Reader_readClass_b121 (N : Nat) (k56 : Int32 → Int32 → Int32 → Int32 → g_S → Option (Int32 × g_S)) (x1 : Int32) (x2 : Int32) (x3 : Int32) (x4 : Int32) (x5 : Int32) (σ : g_S) : Option (Int32 × g_S) := (Reader_takeUnit N σ).bind fun q122 => Reader_readClass_b125 N k56 x1 x2 x3 x4 x5 q122.1 q122.2
theorem Reader_readClass_p121 (ao aa : Nat → Nat) {X : g_X} (hC : gC X c_Reader_readClass R_Reader 3 66 7 none) (N : Nat) (k56 : Int32 → Int32 → Int32 → Int32 → g_S → Option (Int32 × g_S)) (hk56 : ∀ (x1 : Int32) (x2 : Int32) (x3 : Int32) (x4 : Int32) (σ : g_S) (r : Int32) (σe : g_S), k56 x1 x2 x3 x4 σ = some (r, σe) → gw X (.inl none) (LC ao aa X.2.2.1 σe) (LC ao aa X.2.2.1 σ) [(0, .ref (ao 2)), (1, .int x1), (2, .int x2), (3, .int x3), (4, .int x4)] 56 []) (x1 : Int32) (x2 : Int32) (x3 : Int32) (x4 : Int32) (x5 : Int32) (σ : g_S) (r : Int32) (σe : g_S) (hf : Reader_readClass_b121 N k56 x1 x2 x3 x4 x5 σ = some (r, σe)) : gw X (.inl none) (LC ao aa X.2.2.1 σe) (LC ao aa X.2.2.1 σ) [(0, .ref (ao 2)), (1, .int x1), (2, .int x2), (3, .int x3), (4, .int x4), (5, .int x5)] 121 [] := by
  unfold Reader_readClass_b121 at hf
  refine gw_aload_n hC 0 d_Reader_readClass_121 rfl rfl ?_
  obtain ⟨q122, hq122, hf⟩ := g_bind hf
  refine gw_callV hC [] [] (Reader_takeUnit_m _ _ _ ao aa N _ _ _ hq122) kc_Reader_229 2 (g_lay_obj rfl) rfl rfl ⟨by decide, by decide⟩ (Nat.le_of_ble_eq_true rfl) [.ref (ao 2)] [.int q122.1] rfl rfl d_Reader_readClass_122 ?_
  exact Reader_readClass_p125 ao aa hC N _ hk56 _ _ _ _ _ _ _ _ _ hf
def Reader_readClass_b114 (N : Nat) (k56 : Int32 → Int32 → Int32 → Int32 → g_S → Option (Int32 × g_S)) (x1 : Int32) (x2 : Int32) (x3 : Int32) (x4 : Int32) (x5 : Int32) (σ : g_S) : Option (Int32 × g_S) := (Reader_readEscape N σ).bind fun q115 => Reader_readClass_b125 N k56 x1 x2 x3 x4 x5 q115.1 q115.2
theorem Reader_readClass_p114 (ao aa : Nat → Nat) {X : g_X} (hC : gC X c_Reader_readClass R_Reader 3 66 7 none) (N : Nat) (k56 : Int32 → Int32 → Int32 → Int32 → g_S → Option (Int32 × g_S)) (hk56 : ∀ (x1 : Int32) (x2 : Int32) (x3 : Int32) (x4 : Int32) (σ : g_S) (r : Int32) (σe : g_S), k56 x1 x2 x3 x4 σ = some (r, σe) → gw X (.inl none) (LC ao aa X.2.2.1 σe) (LC ao aa X.2.2.1 σ) [(0, .ref (ao 2)), (1, .int x1), (2, .int x2), (3, .int x3), (4, .int x4)] 56 []) (x1 : Int32) (x2 : Int32) (x3 : Int32) (x4 : Int32) (x5 : Int32) (σ : g_S) (r : Int32) (σe : g_S) (hf : Reader_readClass_b114 N k56 x1 x2 x3 x4 x5 σ = some (r, σe)) : gw X (.inl none) (LC ao aa X.2.2.1 σe) (LC ao aa X.2.2.1 σ) [(0, .ref (ao 2)), (1, .int x1), (2, .int x2), (3, .int x3), (4, .int x4), (5, .int x5)] 114 [] := by
  unfold Reader_readClass_b114 at hf
  refine gw_aload_n hC 0 d_Reader_readClass_114 rfl rfl ?_
  obtain ⟨q115, hq115, hf⟩ := g_bind hf
  refine gw_callV hC [] [] (Reader_readEscape_m _ _ _ ao aa N _ _ _ hq115) kc_Reader_204 2 (g_lay_obj rfl) rfl rfl ⟨by decide, by decide⟩ (Nat.le_of_ble_eq_true rfl) [.ref (ao 2)] [.int q115.1] rfl rfl d_Reader_readClass_115 ?_
  refine gw_goto hC 125 d_Reader_readClass_118 (by decide) ?_
  exact Reader_readClass_p125 ao aa hC N _ hk56 _ _ _ _ _ _ _ _ _ hf
def Reader_readClass_b95 (N : Nat) (k56 : Int32 → Int32 → Int32 → Int32 → g_S → Option (Int32 × g_S)) (x1 : Int32) (x2 : Int32) (x3 : Int32) (x4 : Int32) (σ : g_S) : Option (Int32 × g_S) := (Reader_unitAt N (σ.1 12) σ).bind fun q106 => if q106.1 = 92 then Reader_readClass_b114 N k56 x1 x2 x3 x4 (σ.1 12) q106.2 else Reader_readClass_b121 N k56 x1 x2 x3 x4 (σ.1 12) q106.2
theorem Reader_readClass_p95 (ao aa : Nat → Nat) {X : g_X} (hC : gC X c_Reader_readClass R_Reader 3 66 7 none) (N : Nat) (k56 : Int32 → Int32 → Int32 → Int32 → g_S → Option (Int32 × g_S)) (hk56 : ∀ (x1 : Int32) (x2 : Int32) (x3 : Int32) (x4 : Int32) (σ : g_S) (r : Int32) (σe : g_S), k56 x1 x2 x3 x4 σ = some (r, σe) → gw X (.inl none) (LC ao aa X.2.2.1 σe) (LC ao aa X.2.2.1 σ) [(0, .ref (ao 2)), (1, .int x1), (2, .int x2), (3, .int x3), (4, .int x4)] 56 []) (x1 : Int32) (x2 : Int32) (x3 : Int32) (x4 : Int32) (σ : g_S) (r : Int32) (σe : g_S) (hf : Reader_readClass_b95 N k56 x1 x2 x3 x4 σ = some (r, σe)) : gw X (.inl none) (LC ao aa X.2.2.1 σe) (LC ao aa X.2.2.1 σ) [(0, .ref (ao 2)), (1, .int x1), (2, .int x2), (3, .int x3), (4, .int x4)] 95 [] := by
  unfold Reader_readClass_b95 at hf
  refine gw_aload_n hC 0 d_Reader_readClass_95 rfl rfl ?_
  refine Cg12 hC kf_Reader_35 d_Reader_readClass_96 (σ.1 12) rfl ?_
  refine gw_istore hC [(5, .int (σ.1 12)), (0, .ref (ao 2)), (1, .int x1), (2, .int x2), (3, .int x3), (4, .int x4)] d_Reader_readClass_99 (by decide) rfl ?_
  refine gw_aload_n hC 1 d_Reader_readClass_101 rfl rfl ?_
  refine gw_aload_n hC 1 d_Reader_readClass_102 rfl rfl ?_
  refine Cg12 hC kf_Reader_35 d_Reader_readClass_103 (σ.1 12) rfl ?_
  obtain ⟨q106, hq106, hf⟩ := g_bind hf
  refine gw_callV hC [.int (σ.1 12)] [] (Reader_unitAt_m _ _ _ ao aa N _ _ _ _ hq106) kc_Reader_76 2 (g_lay_obj rfl) rfl rfl ⟨by decide, by decide⟩ (Nat.le_of_ble_eq_true rfl) [.int (σ.1 12), .ref (ao 2)] [.int q106.1] rfl rfl d_Reader_readClass_106 ?_
  refine gw_bipush hC 92 d_Reader_readClass_109 (by decide) ?_
  refine gw_icmp_ne hC 121 d_Reader_readClass_111 (by decide) (fun hh => ?_) (fun hh => ?_)
  · rw [if_neg hh] at hf
    refine gw_lv [1, 2, 3, 4, 5, 0] rfl ?_
    exact Reader_readClass_p121 ao aa hC N _ hk56 _ _ _ _ _ _ _ _ hf
  · rw [if_pos hh] at hf
    refine gw_lv [1, 2, 3, 4, 5, 0] rfl ?_
    exact Reader_readClass_p114 ao aa hC N _ hk56 _ _ _ _ _ _ _ _ hf
def Reader_readClass_b88 (N : Nat) (k56 : Int32 → Int32 → Int32 → Int32 → g_S → Option (Int32 × g_S)) (x1 : Int32) (x2 : Int32) (x3 : Int32) (x4 : Int32) (σ : g_S) : Option (Int32 × g_S) := if 0 ≤ (σ.1 13) then Reader_readClass_b150 N x1 x2 σ else Reader_readClass_b95 N k56 x1 x2 x3 x4 σ
theorem Reader_readClass_p88 (ao aa : Nat → Nat) {X : g_X} (hC : gC X c_Reader_readClass R_Reader 3 66 7 none) (N : Nat) (k56 : Int32 → Int32 → Int32 → Int32 → g_S → Option (Int32 × g_S)) (hk56 : ∀ (x1 : Int32) (x2 : Int32) (x3 : Int32) (x4 : Int32) (σ : g_S) (r : Int32) (σe : g_S), k56 x1 x2 x3 x4 σ = some (r, σe) → gw X (.inl none) (LC ao aa X.2.2.1 σe) (LC ao aa X.2.2.1 σ) [(0, .ref (ao 2)), (1, .int x1), (2, .int x2), (3, .int x3), (4, .int x4)] 56 []) (x1 : Int32) (x2 : Int32) (x3 : Int32) (x4 : Int32) (σ : g_S) (r : Int32) (σe : g_S) (hf : Reader_readClass_b88 N k56 x1 x2 x3 x4 σ = some (r, σe)) : gw X (.inl none) (LC ao aa X.2.2.1 σe) (LC ao aa X.2.2.1 σ) [(0, .ref (ao 2)), (1, .int x1), (2, .int x2), (3, .int x3), (4, .int x4)] 88 [] := by
  unfold Reader_readClass_b88 at hf
  refine gw_aload_n hC 0 d_Reader_readClass_88 rfl rfl ?_
  refine Cg13 hC kf_Reader_38 d_Reader_readClass_89 (σ.1 13) rfl ?_
  refine gw_if_ge hC 150 d_Reader_readClass_92 (by decide) (fun hh => ?_) (fun hh => ?_)
  · rw [if_pos hh] at hf
    refine gw_lv [0, 1, 2] rfl ?_
    exact Reader_readClass_p150 ao aa hC N _ _ _ _ _ hf
  · rw [if_neg hh] at hf
    exact Reader_readClass_p95 ao aa hC N _ hk56 _ _ _ _ _ _ _ hf
def Reader_readClass_b75 (N : Nat) (k56 : Int32 → Int32 → Int32 → Int32 → g_S → Option (Int32 × g_S)) (x1 : Int32) (x2 : Int32) (x3 : Int32) (x4 : Int32) (σ : g_S) : Option (Int32 × g_S) := (Reader_unitAt N (σ.1 12) σ).bind fun q80 => if q80.1 = 93 then Reader_readClass_b150 N x1 x2 q80.2 else Reader_readClass_b88 N k56 x1 x2 x3 x4 q80.2
theorem Reader_readClass_p75 (ao aa : Nat → Nat) {X : g_X} (hC : gC X c_Reader_readClass R_Reader 3 66 7 none) (N : Nat) (k56 : Int32 → Int32 → Int32 → Int32 → g_S → Option (Int32 × g_S)) (hk56 : ∀ (x1 : Int32) (x2 : Int32) (x3 : Int32) (x4 : Int32) (σ : g_S) (r : Int32) (σe : g_S), k56 x1 x2 x3 x4 σ = some (r, σe) → gw X (.inl none) (LC ao aa X.2.2.1 σe) (LC ao aa X.2.2.1 σ) [(0, .ref (ao 2)), (1, .int x1), (2, .int x2), (3, .int x3), (4, .int x4)] 56 []) (x1 : Int32) (x2 : Int32) (x3 : Int32) (x4 : Int32) (σ : g_S) (r : Int32) (σe : g_S) (hf : Reader_readClass_b75 N k56 x1 x2 x3 x4 σ = some (r, σe)) : gw X (.inl none) (LC ao aa X.2.2.1 σe) (LC ao aa X.2.2.1 σ) [(0, .ref (ao 2)), (1, .int x1), (2, .int x2), (3, .int x3), (4, .int x4)] 75 [] := by
  unfold Reader_readClass_b75 at hf
  refine gw_aload_n hC 0 d_Reader_readClass_75 rfl rfl ?_
  refine gw_aload_n hC 0 d_Reader_readClass_76 rfl rfl ?_
  refine Cg12 hC kf_Reader_35 d_Reader_readClass_77 (σ.1 12) rfl ?_
  obtain ⟨q80, hq80, hf⟩ := g_bind hf
  refine gw_callV hC [.int (σ.1 12)] [] (Reader_unitAt_m _ _ _ ao aa N _ _ _ _ hq80) kc_Reader_76 2 (g_lay_obj rfl) rfl rfl ⟨by decide, by decide⟩ (Nat.le_of_ble_eq_true rfl) [.int (σ.1 12), .ref (ao 2)] [.int q80.1] rfl rfl d_Reader_readClass_80 ?_
  refine gw_bipush hC 93 d_Reader_readClass_83 (by decide) ?_
  refine gw_icmp_eq hC 150 d_Reader_readClass_85 (by decide) (fun hh => ?_) (fun hh => ?_)
  · rw [if_pos hh] at hf
    refine gw_lv [0, 1, 2] rfl ?_
    exact Reader_readClass_p150 ao aa hC N _ _ _ _ _ hf
  · rw [if_neg hh] at hf
    exact Reader_readClass_p88 ao aa hC N _ hk56 _ _ _ _ _ _ _ hf
def Reader_readClass_b64 (N : Nat) (k56 : Int32 → Int32 → Int32 → Int32 → g_S → Option (Int32 × g_S)) (x1 : Int32) (x2 : Int32) (x3 : Int32) (x4 : Int32) (σ : g_S) : Option (Int32 × g_S) := if (σ.1 11) ≤ (σ.1 12) then Reader_readClass_b150 N x1 x2 σ else Reader_readClass_b75 N k56 x1 x2 x3 x4 σ
theorem Reader_readClass_p64 (ao aa : Nat → Nat) {X : g_X} (hC : gC X c_Reader_readClass R_Reader 3 66 7 none) (N : Nat) (k56 : Int32 → Int32 → Int32 → Int32 → g_S → Option (Int32 × g_S)) (hk56 : ∀ (x1 : Int32) (x2 : Int32) (x3 : Int32) (x4 : Int32) (σ : g_S) (r : Int32) (σe : g_S), k56 x1 x2 x3 x4 σ = some (r, σe) → gw X (.inl none) (LC ao aa X.2.2.1 σe) (LC ao aa X.2.2.1 σ) [(0, .ref (ao 2)), (1, .int x1), (2, .int x2), (3, .int x3), (4, .int x4)] 56 []) (x1 : Int32) (x2 : Int32) (x3 : Int32) (x4 : Int32) (σ : g_S) (r : Int32) (σe : g_S) (hf : Reader_readClass_b64 N k56 x1 x2 x3 x4 σ = some (r, σe)) : gw X (.inl none) (LC ao aa X.2.2.1 σe) (LC ao aa X.2.2.1 σ) [(0, .ref (ao 2)), (1, .int x1), (2, .int x2), (3, .int x3), (4, .int x4)] 64 [] := by
  unfold Reader_readClass_b64 at hf
  refine gw_aload_n hC 0 d_Reader_readClass_64 rfl rfl ?_
  refine Cg12 hC kf_Reader_35 d_Reader_readClass_65 (σ.1 12) rfl ?_
  refine gw_aload_n hC 0 d_Reader_readClass_68 rfl rfl ?_
  refine Cg11 hC kf_Reader_31 d_Reader_readClass_69 (σ.1 11) rfl ?_
  refine gw_icmp_ge hC 150 d_Reader_readClass_72 (by decide) (fun hh => ?_) (fun hh => ?_)
  · rw [if_pos hh] at hf
    refine gw_lv [0, 1, 2] rfl ?_
    exact Reader_readClass_p150 ao aa hC N _ _ _ _ _ hf
  · rw [if_neg hh] at hf
    exact Reader_readClass_p75 ao aa hC N _ hk56 _ _ _ _ _ _ _ hf
def Reader_readClass_b56 (N : Nat) (k56 : Int32 → Int32 → Int32 → Int32 → g_S → Option (Int32 × g_S)) (x1 : Int32) (x2 : Int32) (x3 : Int32) (x4 : Int32) (σ : g_S) : Option (Int32 × g_S) := if 200 ≤ x4 then Reader_readClass_b150 N x1 x2 σ else Reader_readClass_b64 N k56 x1 x2 x3 x4 σ
theorem Reader_readClass_p56 (ao aa : Nat → Nat) {X : g_X} (hC : gC X c_Reader_readClass R_Reader 3 66 7 none) (N : Nat) (k56 : Int32 → Int32 → Int32 → Int32 → g_S → Option (Int32 × g_S)) (hk56 : ∀ (x1 : Int32) (x2 : Int32) (x3 : Int32) (x4 : Int32) (σ : g_S) (r : Int32) (σe : g_S), k56 x1 x2 x3 x4 σ = some (r, σe) → gw X (.inl none) (LC ao aa X.2.2.1 σe) (LC ao aa X.2.2.1 σ) [(0, .ref (ao 2)), (1, .int x1), (2, .int x2), (3, .int x3), (4, .int x4)] 56 []) (x1 : Int32) (x2 : Int32) (x3 : Int32) (x4 : Int32) (σ : g_S) (r : Int32) (σe : g_S) (hf : Reader_readClass_b56 N k56 x1 x2 x3 x4 σ = some (r, σe)) : gw X (.inl none) (LC ao aa X.2.2.1 σe) (LC ao aa X.2.2.1 σ) [(0, .ref (ao 2)), (1, .int x1), (2, .int x2), (3, .int x3), (4, .int x4)] 56 [] := by
  unfold Reader_readClass_b56 at hf
  refine gw_iload hC 4 d_Reader_readClass_56 rfl ?_
  refine gw_sipush hC 200 d_Reader_readClass_58 (by decide) ?_
  refine gw_icmp_ge hC 150 d_Reader_readClass_61 (by decide) (fun hh => ?_) (fun hh => ?_)
  · rw [if_pos hh] at hf
    refine gw_lv [0, 1, 2] rfl ?_
    exact Reader_readClass_p150 ao aa hC N _ _ _ _ _ hf
  · rw [if_neg hh] at hf
    exact Reader_readClass_p64 ao aa hC N _ hk56 _ _ _ _ _ _ _ hf
def Reader_readClass_l56 (N : Nat) : Nat → Int32 → Int32 → Int32 → Int32 → g_S → Option (Int32 × g_S)
  | 0 => fun _ _ _ _ _ => none
  | n + 1 => fun x1 x2 x3 x4 σ => Reader_readClass_b56 N (Reader_readClass_l56 N n) x1 x2 x3 x4 σ
theorem Reader_readClass_q56 (ao aa : Nat → Nat) {X : g_X} (hC : gC X c_Reader_readClass R_Reader 3 66 7 none) (N : Nat) (n : Nat) : ∀ (x1 : Int32) (x2 : Int32) (x3 : Int32) (x4 : Int32) (σ : g_S) (r : Int32) (σe : g_S), Reader_readClass_l56 N n x1 x2 x3 x4 σ = some (r, σe) → gw X (.inl none) (LC ao aa X.2.2.1 σe) (LC ao aa X.2.2.1 σ) [(0, .ref (ao 2)), (1, .int x1), (2, .int x2), (3, .int x3), (4, .int x4)] 56 [] := by
  induction n with
  | zero => intro x1 x2 x3 x4 σ r σe hf; cases hf
  | succ n ih => intro x1 x2 x3 x4 σ r σe hf; exact Reader_readClass_p56 ao aa hC N _ (fun x1 x2 x3 x4 σ r2 σ2 h2 => ih x1 x2 x3 x4 σ r2 σ2 h2) x1 x2 x3 x4 σ r σe hf
def Reader_readClass_b43 (N : Nat) (x1 : Int32) (σ : g_S) : Option (Int32 × g_S) := Reader_readClass_l56 N N x1 (σ.1 5) (-1) 0 σ
theorem Reader_readClass_p43 (ao aa : Nat → Nat) {X : g_X} (hC : gC X c_Reader_readClass R_Reader 3 66 7 none) (N : Nat) (x1 : Int32) (σ : g_S) (r : Int32) (σe : g_S) (hf : Reader_readClass_b43 N x1 σ = some (r, σe)) : gw X (.inl none) (LC ao aa X.2.2.1 σe) (LC ao aa X.2.2.1 σ) [(0, .ref (ao 2)), (1, .int x1)] 43 [] := by
  unfold Reader_readClass_b43 at hf
  refine gw_aload_n hC 0 d_Reader_readClass_43 rfl rfl ?_
  refine Cr_Reader_program hC kf_Reader_24 d_Reader_readClass_44 ?_
  refine Cg5 hC kf_Reader_226 d_Reader_readClass_47 (σ.1 5) rfl ?_
  refine gw_istore_n hC [(2, .int (σ.1 5)), (0, .ref (ao 2)), (1, .int x1)] d_Reader_readClass_50 rfl (by decide) rfl ?_
  refine gw_iconst hC (-1) d_Reader_readClass_51 (by decide) ?_
  refine gw_istore_n hC [(3, .int (-1)), (2, .int (σ.1 5)), (0, .ref (ao 2)), (1, .int x1)] d_Reader_readClass_52 rfl (by decide) rfl ?_
  refine gw_iconst hC 0 d_Reader_readClass_53 (by decide) ?_
  refine gw_istore hC [(4, .int 0), (3, .int (-1)), (2, .int (σ.1 5)), (0, .ref (ao 2)), (1, .int x1)] d_Reader_readClass_54 (by decide) rfl ?_
  refine gw_lv [3, 4, 2, 1, 0] rfl ?_
  exact Reader_readClass_q56 ao aa hC N N _ _ _ _ _ _ _ hf
def Reader_readClass_b33 (N : Nat) (x1 : Int32) (σ : g_S) : Option (Int32 × g_S) := Reader_readClass_b43 N x1 (gF σ 12 ((σ.1 12) + 1))
theorem Reader_readClass_p33 (ao aa : Nat → Nat) {X : g_X} (hC : gC X c_Reader_readClass R_Reader 3 66 7 none) (N : Nat) (x1 : Int32) (σ : g_S) (r : Int32) (σe : g_S) (hf : Reader_readClass_b33 N x1 σ = some (r, σe)) : gw X (.inl none) (LC ao aa X.2.2.1 σe) (LC ao aa X.2.2.1 σ) [(0, .ref (ao 2)), (1, .int x1)] 33 [] := by
  unfold Reader_readClass_b33 at hf
  refine gw_aload_n hC 0 d_Reader_readClass_33 rfl rfl ?_
  refine gw_dup hC d_Reader_readClass_34 rfl ?_
  refine Cg12 hC kf_Reader_35 d_Reader_readClass_35 (σ.1 12) rfl ?_
  refine gw_iconst hC 1 d_Reader_readClass_38 (by decide) ?_
  refine gw_iadd hC d_Reader_readClass_39 ?_
  refine Cp12 hC kf_Reader_35 d_Reader_readClass_40 ?_
  exact Reader_readClass_p43 ao aa hC N _ _ _ _ hf
def Reader_readClass_b28 (N : Nat) (s0 : Int32) (σ : g_S) : Option (Int32 × g_S) := if s0 = 0 then Reader_readClass_b43 N s0 σ else Reader_readClass_b33 N s0 σ
theorem Reader_readClass_p28 (ao aa : Nat → Nat) {X : g_X} (hC : gC X c_Reader_readClass R_Reader 3 66 7 none) (N : Nat) (s0 : Int32) (σ : g_S) (r : Int32) (σe : g_S) (hf : Reader_readClass_b28 N s0 σ = some (r, σe)) : gw X (.inl none) (LC ao aa X.2.2.1 σe) (LC ao aa X.2.2.1 σ) [(0, .ref (ao 2))] 28 [.int s0] := by
  unfold Reader_readClass_b28 at hf
  refine gw_istore_n hC [(1, .int s0), (0, .ref (ao 2))] d_Reader_readClass_28 rfl (by decide) rfl ?_
  refine gw_iload_n hC 0 d_Reader_readClass_29 rfl rfl ?_
  refine gw_if_eq hC 43 d_Reader_readClass_30 (by decide) (fun hh => ?_) (fun hh => ?_)
  · rw [if_pos hh] at hf
    refine gw_lv [1, 0] rfl ?_
    exact Reader_readClass_p43 ao aa hC N _ _ _ _ hf
  · rw [if_neg hh] at hf
    refine gw_lv [1, 0] rfl ?_
    exact Reader_readClass_p33 ao aa hC N _ _ _ _ hf
def Reader_readClass_b27 (N : Nat) (σ : g_S) : Option (Int32 × g_S) := Reader_readClass_b28 N 0 σ
theorem Reader_readClass_p27 (ao aa : Nat → Nat) {X : g_X} (hC : gC X c_Reader_readClass R_Reader 3 66 7 none) (N : Nat) (σ : g_S) (r : Int32) (σe : g_S) (hf : Reader_readClass_b27 N σ = some (r, σe)) : gw X (.inl none) (LC ao aa X.2.2.1 σe) (LC ao aa X.2.2.1 σ) [(0, .ref (ao 2))] 27 [] := by
  unfold Reader_readClass_b27 at hf
  refine gw_iconst hC 0 d_Reader_readClass_27 (by decide) ?_
  exact Reader_readClass_p28 ao aa hC N _ _ _ _ hf
def Reader_readClass_b23 (N : Nat) (σ : g_S) : Option (Int32 × g_S) := Reader_readClass_b28 N 1 σ
theorem Reader_readClass_p23 (ao aa : Nat → Nat) {X : g_X} (hC : gC X c_Reader_readClass R_Reader 3 66 7 none) (N : Nat) (σ : g_S) (r : Int32) (σe : g_S) (hf : Reader_readClass_b23 N σ = some (r, σe)) : gw X (.inl none) (LC ao aa X.2.2.1 σe) (LC ao aa X.2.2.1 σ) [(0, .ref (ao 2))] 23 [] := by
  unfold Reader_readClass_b23 at hf
  refine gw_iconst hC 1 d_Reader_readClass_23 (by decide) ?_
  refine gw_goto hC 28 d_Reader_readClass_24 (by decide) ?_
  exact Reader_readClass_p28 ao aa hC N _ _ _ _ hf
def Reader_readClass_b0 (N : Nat) (σ : g_S) : Option (Int32 × g_S) := (Reader_unitAt N ((σ.1 12) + 1) (gF σ 12 ((σ.1 12) + 1))).bind fun q15 => if q15.1 = 94 then Reader_readClass_b23 N q15.2 else Reader_readClass_b27 N q15.2
theorem Reader_readClass_p0 (ao aa : Nat → Nat) {X : g_X} (hC : gC X c_Reader_readClass R_Reader 3 66 7 none) (N : Nat) (σ : g_S) (r : Int32) (σe : g_S) (hf : Reader_readClass_b0 N σ = some (r, σe)) : gw X (.inl none) (LC ao aa X.2.2.1 σe) (LC ao aa X.2.2.1 σ) [(0, .ref (ao 2))] 0 [] := by
  unfold Reader_readClass_b0 at hf
  refine gw_aload_n hC 0 d_Reader_readClass_0 rfl rfl ?_
  refine gw_dup hC d_Reader_readClass_1 rfl ?_
  refine Cg12 hC kf_Reader_35 d_Reader_readClass_2 (σ.1 12) rfl ?_
  refine gw_iconst hC 1 d_Reader_readClass_5 (by decide) ?_
  refine gw_iadd hC d_Reader_readClass_6 ?_
  refine Cp12 hC kf_Reader_35 d_Reader_readClass_7 ?_
  refine gw_aload_n hC 0 d_Reader_readClass_10 rfl rfl ?_
  refine gw_aload_n hC 0 d_Reader_readClass_11 rfl rfl ?_
  refine Cg12 hC kf_Reader_35 d_Reader_readClass_12 ((σ.1 12) + 1) rfl ?_
  obtain ⟨q15, hq15, hf⟩ := g_bind hf
  refine gw_callV hC [.int ((σ.1 12) + 1)] [] (Reader_unitAt_m _ _ _ ao aa N _ _ _ _ hq15) kc_Reader_76 2 (g_lay_obj rfl) rfl rfl ⟨by decide, by decide⟩ (Nat.le_of_ble_eq_true rfl) [.int ((σ.1 12) + 1), .ref (ao 2)] [.int q15.1] rfl rfl d_Reader_readClass_15 ?_
  refine gw_bipush hC 94 d_Reader_readClass_18 (by decide) ?_
  refine gw_icmp_ne hC 27 d_Reader_readClass_20 (by decide) (fun hh => ?_) (fun hh => ?_)
  · rw [if_neg hh] at hf
    exact Reader_readClass_p27 ao aa hC N _ _ _ hf
  · rw [if_pos hh] at hf
    exact Reader_readClass_p23 ao aa hC N _ _ _ hf
def Reader_readClass (N : Nat) (σ : g_S) : Option (Int32 × g_S) := Reader_readClass_b0 N  σ
theorem Reader_readClass_m (l : Launch) (D : va_G) (cA : ClassId) (ao aa : Nat → Nat) (N : Nat) (σ : g_S) (r : Int32) (σe : g_S) (hf : Reader_readClass N σ = some (r, σe)) : Mt l D cA y_Reader_readClass c_Reader_readClass 7 none 3 66 [.ref (ao 2)] (LC ao aa cA σ) none (LC ao aa cA σe) := by
  refine g_met (by decide +kernel) (by simp [lg_sl, Value.category]) (fun X e1 e2 e3 hC => ?_)
  subst e1 e2 e3
  refine gw_lv [0] rfl ?_
  exact Reader_readClass_p0 ao aa hC N _ (r) _ hf
def Reader_addAssertion_b0 (N : Nat) (x1 : Int32) (x2 : Int32) (σ : g_S) : Option (Int32 × g_S) := (Program_addNode N x1 0 0 σ).bind fun q7 => (Reader_append N q7.1 q7.1 q7.2).bind fun q14 => some (0, (gF q14.2 12 ((q14.2.1 12) + x2)))
theorem Reader_addAssertion_p0 (ao aa : Nat → Nat) {X : g_X} (hC : gC X c_Reader_addAssertion R_Reader 3 66 4 none) (N : Nat) (x1 : Int32) (x2 : Int32) (σ : g_S) (r : Int32) (σe : g_S) (hf : Reader_addAssertion_b0 N x1 x2 σ = some (r, σe)) : gw X (.inl none) (LC ao aa X.2.2.1 σe) (LC ao aa X.2.2.1 σ) [(0, .ref (ao 2)), (1, .int x1), (2, .int x2)] 0 [] := by
  unfold Reader_addAssertion_b0 at hf
  refine gw_aload_n hC 0 d_Reader_addAssertion_0 rfl rfl ?_
  refine Cr_Reader_program hC kf_Reader_24 d_Reader_addAssertion_1 ?_
  refine gw_iload_n hC 1 d_Reader_addAssertion_4 rfl rfl ?_
  refine gw_iconst hC 0 d_Reader_addAssertion_5 (by decide) ?_
  refine gw_iconst hC 0 d_Reader_addAssertion_6 (by decide) ?_
  obtain ⟨q7, hq7, hf⟩ := g_bind hf
  refine gw_callV hC [.int x1, .int 0, .int 0] [] (Program_addNode_m _ _ _ ao aa N _ _ _ _ _ _ hq7) kc_Reader_52 1 (g_lay_obj rfl) rfl rfl ⟨by decide, by decide⟩ (Nat.le_of_ble_eq_true rfl) [.int 0, .int 0, .int x1, .ref (ao 1)] [.int q7.1] rfl rfl d_Reader_addAssertion_7 ?_
  refine gw_istore_n hC [(3, .int q7.1), (0, .ref (ao 2)), (1, .int x1), (2, .int x2)] d_Reader_addAssertion_10 rfl (by decide) rfl ?_
  refine gw_aload_n hC 1 d_Reader_addAssertion_11 rfl rfl ?_
  refine gw_iload_n hC 0 d_Reader_addAssertion_12 rfl rfl ?_
  refine gw_iload_n hC 0 d_Reader_addAssertion_13 rfl rfl ?_
  obtain ⟨q14, hq14, hf⟩ := g_bind hf
  refine gw_callV hC [.int q7.1, .int q7.1] [] (Reader_append_m _ _ _ ao aa N _ _ _ _ _ hq14) kc_Reader_130 2 (g_lay_obj rfl) rfl rfl ⟨by decide, by decide⟩ (Nat.le_of_ble_eq_true rfl) [.int q7.1, .int q7.1, .ref (ao 2)] [] rfl rfl d_Reader_addAssertion_14 ?_
  refine gw_aload_n hC 1 d_Reader_addAssertion_17 rfl rfl ?_
  refine gw_dup hC d_Reader_addAssertion_18 rfl ?_
  refine Cg12 hC kf_Reader_35 d_Reader_addAssertion_19 (q14.2.1 12) rfl ?_
  refine gw_iload_n hC 3 d_Reader_addAssertion_22 rfl rfl ?_
  refine gw_iadd hC d_Reader_addAssertion_23 ?_
  refine Cp12 hC kf_Reader_35 d_Reader_addAssertion_24 ?_
  cases hf
  exact gw_vret hC d_Reader_addAssertion_27
def Reader_addAssertion (N : Nat) (x1 : Int32) (x2 : Int32) (σ : g_S) : Option (Int32 × g_S) := Reader_addAssertion_b0 N x1 x2 σ
theorem Reader_addAssertion_m (l : Launch) (D : va_G) (cA : ClassId) (ao aa : Nat → Nat) (N : Nat) (x1 : Int32) (x2 : Int32) (σ : g_S) (r : Int32) (σe : g_S) (hf : Reader_addAssertion N x1 x2 σ = some (r, σe)) : Mt l D cA y_Reader_addAssertion c_Reader_addAssertion 4 none 3 66 [.ref (ao 2), .int x1, .int x2] (LC ao aa cA σ) none (LC ao aa cA σe) := by
  refine g_met (by decide +kernel) (by simp [lg_sl, Value.category]) (fun X e1 e2 e3 hC => ?_)
  subst e1 e2 e3
  refine gw_lv [0, 1, 2] rfl ?_
  exact Reader_addAssertion_p0 ao aa hC N _ _ _ (r) _ hf
def Reader_readNumber_b86 (N : Nat) (x1 : Int32) (σ : g_S) : Option (Int32 × g_S) := some (x1, σ)
theorem Reader_readNumber_p86 (ao aa : Nat → Nat) {X : g_X} (hC : gC X c_Reader_readNumber R_Reader 1 21 2 (some .int)) (N : Nat) (x1 : Int32) (σ : g_S) (r : Int32) (σe : g_S) (hf : Reader_readNumber_b86 N x1 σ = some (r, σe)) : gw X (.inl (some (.int r))) (LC ao aa X.2.2.1 σe) (LC ao aa X.2.2.1 σ) [(0, .ref (ao 2)), (1, .int x1)] 86 [] := by
  unfold Reader_readNumber_b86 at hf
  refine gw_iload_n hC 1 d_Reader_readNumber_86 rfl rfl ?_
  cases hf
  exact gw_iret hC d_Reader_readNumber_87
def Reader_readNumber_b51 (N : Nat) (k26 : Int32 → g_S → Option (Int32 × g_S)) (x1 : Int32) (σ : g_S) : Option (Int32 × g_S) := (Reader_unitAt N (σ.1 12) σ).bind fun q60 => k26 (if 100000 < (((x1 * 10) + q60.1) - 48) then 100000 else (((x1 * 10) + q60.1) - 48)) (gF q60.2 12 ((q60.2.1 12) + 1))
theorem Reader_readNumber_p51 (ao aa : Nat → Nat) {X : g_X} (hC : gC X c_Reader_readNumber R_Reader 1 21 2 (some .int)) (N : Nat) (k26 : Int32 → g_S → Option (Int32 × g_S)) (hk26 : ∀ (x1 : Int32) (σ : g_S) (r : Int32) (σe : g_S), k26 x1 σ = some (r, σe) → gw X (.inl (some (.int r))) (LC ao aa X.2.2.1 σe) (LC ao aa X.2.2.1 σ) [(0, .ref (ao 2)), (1, .int x1)] 26 []) (x1 : Int32) (σ : g_S) (r : Int32) (σe : g_S) (hf : Reader_readNumber_b51 N k26 x1 σ = some (r, σe)) : gw X (.inl (some (.int r))) (LC ao aa X.2.2.1 σe) (LC ao aa X.2.2.1 σ) [(0, .ref (ao 2)), (1, .int x1)] 51 [] := by
  unfold Reader_readNumber_b51 at hf
  refine gw_iload_n hC 1 d_Reader_readNumber_51 rfl rfl ?_
  refine gw_bipush hC 10 d_Reader_readNumber_52 (by decide) ?_
  refine gw_imul hC d_Reader_readNumber_54 ?_
  refine gw_aload_n hC 0 d_Reader_readNumber_55 rfl rfl ?_
  refine gw_aload_n hC 0 d_Reader_readNumber_56 rfl rfl ?_
  refine Cg12 hC kf_Reader_35 d_Reader_readNumber_57 (σ.1 12) rfl ?_
  obtain ⟨q60, hq60, hf⟩ := g_bind hf
  refine gw_callV hC [.int (σ.1 12)] [.int (x1 * 10)] (Reader_unitAt_m _ _ _ ao aa N _ _ _ _ hq60) kc_Reader_76 2 (g_lay_obj rfl) rfl rfl ⟨by decide, by decide⟩ (Nat.le_of_ble_eq_true rfl) [.int (σ.1 12), .ref (ao 2), .int (x1 * 10)] [.int q60.1, .int (x1 * 10)] rfl rfl d_Reader_readNumber_60 ?_
  refine gw_iadd hC d_Reader_readNumber_63 ?_
  refine gw_bipush hC 48 d_Reader_readNumber_64 (by decide) ?_
  refine gw_isub hC d_Reader_readNumber_66 ?_
  refine gw_ldc hC 100000 kn_Reader_174 d_Reader_readNumber_67 ?_
  refine gw_mmin hC km_Reader_195 ⟨by decide, by decide⟩ (Nat.le_of_ble_eq_true rfl) d_Reader_readNumber_69 ?_
  refine gw_istore_n hC [(1, .int (if 100000 < (((x1 * 10) + q60.1) - 48) then 100000 else (((x1 * 10) + q60.1) - 48))), (0, .ref (ao 2))] d_Reader_readNumber_72 rfl (by decide) rfl ?_
  refine gw_aload_n hC 1 d_Reader_readNumber_73 rfl rfl ?_
  refine gw_dup hC d_Reader_readNumber_74 rfl ?_
  refine Cg12 hC kf_Reader_35 d_Reader_readNumber_75 (q60.2.1 12) rfl ?_
  refine gw_iconst hC 1 d_Reader_readNumber_78 (by decide) ?_
  refine gw_iadd hC d_Reader_readNumber_79 ?_
  refine Cp12 hC kf_Reader_35 d_Reader_readNumber_80 ?_
  refine gw_goto hC 26 d_Reader_readNumber_83 (by decide) ?_
  refine gw_lv [1, 0] rfl ?_
  exact hk26 _ _ _ _ hf
def Reader_readNumber_b37 (N : Nat) (k26 : Int32 → g_S → Option (Int32 × g_S)) (x1 : Int32) (σ : g_S) : Option (Int32 × g_S) := (Reader_unitAt N (σ.1 12) σ).bind fun q42 => (Units_isDigit N q42.1 q42.2).bind fun q45 => if q45.1 = 0 then Reader_readNumber_b86 N x1 q45.2 else Reader_readNumber_b51 N k26 x1 q45.2
theorem Reader_readNumber_p37 (ao aa : Nat → Nat) {X : g_X} (hC : gC X c_Reader_readNumber R_Reader 1 21 2 (some .int)) (N : Nat) (k26 : Int32 → g_S → Option (Int32 × g_S)) (hk26 : ∀ (x1 : Int32) (σ : g_S) (r : Int32) (σe : g_S), k26 x1 σ = some (r, σe) → gw X (.inl (some (.int r))) (LC ao aa X.2.2.1 σe) (LC ao aa X.2.2.1 σ) [(0, .ref (ao 2)), (1, .int x1)] 26 []) (x1 : Int32) (σ : g_S) (r : Int32) (σe : g_S) (hf : Reader_readNumber_b37 N k26 x1 σ = some (r, σe)) : gw X (.inl (some (.int r))) (LC ao aa X.2.2.1 σe) (LC ao aa X.2.2.1 σ) [(0, .ref (ao 2)), (1, .int x1)] 37 [] := by
  unfold Reader_readNumber_b37 at hf
  refine gw_aload_n hC 0 d_Reader_readNumber_37 rfl rfl ?_
  refine gw_aload_n hC 0 d_Reader_readNumber_38 rfl rfl ?_
  refine Cg12 hC kf_Reader_35 d_Reader_readNumber_39 (σ.1 12) rfl ?_
  obtain ⟨q42, hq42, hf⟩ := g_bind hf
  refine gw_callV hC [.int (σ.1 12)] [] (Reader_unitAt_m _ _ _ ao aa N _ _ _ _ hq42) kc_Reader_76 2 (g_lay_obj rfl) rfl rfl ⟨by decide, by decide⟩ (Nat.le_of_ble_eq_true rfl) [.int (σ.1 12), .ref (ao 2)] [.int q42.1] rfl rfl d_Reader_readNumber_42 ?_
  obtain ⟨q45, hq45, hf⟩ := g_bind hf
  refine gw_callS hC [.int q42.1] [] (Units_isDigit_m _ _ _ ao aa N _ _ _ _ hq45) kc_Reader_189 ⟨by decide, by decide⟩ (Nat.le_of_ble_eq_true rfl) [.int q42.1] [.int q45.1] rfl rfl d_Reader_readNumber_45 ?_
  refine gw_if_eq hC 86 d_Reader_readNumber_48 (by decide) (fun hh => ?_) (fun hh => ?_)
  · rw [if_pos hh] at hf
    exact Reader_readNumber_p86 ao aa hC N _ _ _ _ hf
  · rw [if_neg hh] at hf
    exact Reader_readNumber_p51 ao aa hC N _ hk26 _ _ _ _ hf
def Reader_readNumber_b26 (N : Nat) (k26 : Int32 → g_S → Option (Int32 × g_S)) (x1 : Int32) (σ : g_S) : Option (Int32 × g_S) := if (σ.1 11) ≤ (σ.1 12) then Reader_readNumber_b86 N x1 σ else Reader_readNumber_b37 N k26 x1 σ
theorem Reader_readNumber_p26 (ao aa : Nat → Nat) {X : g_X} (hC : gC X c_Reader_readNumber R_Reader 1 21 2 (some .int)) (N : Nat) (k26 : Int32 → g_S → Option (Int32 × g_S)) (hk26 : ∀ (x1 : Int32) (σ : g_S) (r : Int32) (σe : g_S), k26 x1 σ = some (r, σe) → gw X (.inl (some (.int r))) (LC ao aa X.2.2.1 σe) (LC ao aa X.2.2.1 σ) [(0, .ref (ao 2)), (1, .int x1)] 26 []) (x1 : Int32) (σ : g_S) (r : Int32) (σe : g_S) (hf : Reader_readNumber_b26 N k26 x1 σ = some (r, σe)) : gw X (.inl (some (.int r))) (LC ao aa X.2.2.1 σe) (LC ao aa X.2.2.1 σ) [(0, .ref (ao 2)), (1, .int x1)] 26 [] := by
  unfold Reader_readNumber_b26 at hf
  refine gw_aload_n hC 0 d_Reader_readNumber_26 rfl rfl ?_
  refine Cg12 hC kf_Reader_35 d_Reader_readNumber_27 (σ.1 12) rfl ?_
  refine gw_aload_n hC 0 d_Reader_readNumber_30 rfl rfl ?_
  refine Cg11 hC kf_Reader_31 d_Reader_readNumber_31 (σ.1 11) rfl ?_
  refine gw_icmp_ge hC 86 d_Reader_readNumber_34 (by decide) (fun hh => ?_) (fun hh => ?_)
  · rw [if_pos hh] at hf
    exact Reader_readNumber_p86 ao aa hC N _ _ _ _ hf
  · rw [if_neg hh] at hf
    exact Reader_readNumber_p37 ao aa hC N _ hk26 _ _ _ _ hf
def Reader_readNumber_l26 (N : Nat) : Nat → Int32 → g_S → Option (Int32 × g_S)
  | 0 => fun _ _ => none
  | n + 1 => fun x1 σ => Reader_readNumber_b26 N (Reader_readNumber_l26 N n) x1 σ
theorem Reader_readNumber_q26 (ao aa : Nat → Nat) {X : g_X} (hC : gC X c_Reader_readNumber R_Reader 1 21 2 (some .int)) (N : Nat) (n : Nat) : ∀ (x1 : Int32) (σ : g_S) (r : Int32) (σe : g_S), Reader_readNumber_l26 N n x1 σ = some (r, σe) → gw X (.inl (some (.int r))) (LC ao aa X.2.2.1 σe) (LC ao aa X.2.2.1 σ) [(0, .ref (ao 2)), (1, .int x1)] 26 [] := by
  induction n with
  | zero => intro x1 σ r σe hf; cases hf
  | succ n ih => intro x1 σ r σe hf; exact Reader_readNumber_p26 ao aa hC N _ (fun x1 σ r2 σ2 h2 => ih x1 σ r2 σ2 h2) x1 σ r σe hf
def Reader_readNumber_b24 (N : Nat) (σ : g_S) : Option (Int32 × g_S) := Reader_readNumber_l26 N N 0 σ
theorem Reader_readNumber_p24 (ao aa : Nat → Nat) {X : g_X} (hC : gC X c_Reader_readNumber R_Reader 1 21 2 (some .int)) (N : Nat) (σ : g_S) (r : Int32) (σe : g_S) (hf : Reader_readNumber_b24 N σ = some (r, σe)) : gw X (.inl (some (.int r))) (LC ao aa X.2.2.1 σe) (LC ao aa X.2.2.1 σ) [(0, .ref (ao 2))] 24 [] := by
  unfold Reader_readNumber_b24 at hf
  refine gw_iconst hC 0 d_Reader_readNumber_24 (by decide) ?_
  refine gw_istore_n hC [(1, .int 0), (0, .ref (ao 2))] d_Reader_readNumber_25 rfl (by decide) rfl ?_
  refine gw_lv [1, 0] rfl ?_
  exact Reader_readNumber_q26 ao aa hC N N _ _ _ _ hf
def Reader_readNumber_b14 (N : Nat) (σ : g_S) : Option (Int32 × g_S) := some (0, (gF σ 13 (σ.1 12)))
theorem Reader_readNumber_p14 (ao aa : Nat → Nat) {X : g_X} (hC : gC X c_Reader_readNumber R_Reader 1 21 2 (some .int)) (N : Nat) (σ : g_S) (r : Int32) (σe : g_S) (hf : Reader_readNumber_b14 N σ = some (r, σe)) : gw X (.inl (some (.int r))) (LC ao aa X.2.2.1 σe) (LC ao aa X.2.2.1 σ) [(0, .ref (ao 2))] 14 [] := by
  unfold Reader_readNumber_b14 at hf
  refine gw_aload_n hC 0 d_Reader_readNumber_14 rfl rfl ?_
  refine gw_aload_n hC 0 d_Reader_readNumber_15 rfl rfl ?_
  refine Cg12 hC kf_Reader_35 d_Reader_readNumber_16 (σ.1 12) rfl ?_
  refine Cp13 hC kf_Reader_38 d_Reader_readNumber_19 ?_
  refine gw_iconst hC 0 d_Reader_readNumber_22 (by decide) ?_
  cases hf
  exact gw_iret hC d_Reader_readNumber_23
def Reader_readNumber_b0 (N : Nat) (σ : g_S) : Option (Int32 × g_S) := (Reader_unitAt N (σ.1 12) σ).bind fun q5 => (Units_isDigit N q5.1 q5.2).bind fun q8 => if q8.1 = 0 then Reader_readNumber_b14 N q8.2 else Reader_readNumber_b24 N q8.2
theorem Reader_readNumber_p0 (ao aa : Nat → Nat) {X : g_X} (hC : gC X c_Reader_readNumber R_Reader 1 21 2 (some .int)) (N : Nat) (σ : g_S) (r : Int32) (σe : g_S) (hf : Reader_readNumber_b0 N σ = some (r, σe)) : gw X (.inl (some (.int r))) (LC ao aa X.2.2.1 σe) (LC ao aa X.2.2.1 σ) [(0, .ref (ao 2))] 0 [] := by
  unfold Reader_readNumber_b0 at hf
  refine gw_aload_n hC 0 d_Reader_readNumber_0 rfl rfl ?_
  refine gw_aload_n hC 0 d_Reader_readNumber_1 rfl rfl ?_
  refine Cg12 hC kf_Reader_35 d_Reader_readNumber_2 (σ.1 12) rfl ?_
  obtain ⟨q5, hq5, hf⟩ := g_bind hf
  refine gw_callV hC [.int (σ.1 12)] [] (Reader_unitAt_m _ _ _ ao aa N _ _ _ _ hq5) kc_Reader_76 2 (g_lay_obj rfl) rfl rfl ⟨by decide, by decide⟩ (Nat.le_of_ble_eq_true rfl) [.int (σ.1 12), .ref (ao 2)] [.int q5.1] rfl rfl d_Reader_readNumber_5 ?_
  obtain ⟨q8, hq8, hf⟩ := g_bind hf
  refine gw_callS hC [.int q5.1] [] (Units_isDigit_m _ _ _ ao aa N _ _ _ _ hq8) kc_Reader_189 ⟨by decide, by decide⟩ (Nat.le_of_ble_eq_true rfl) [.int q5.1] [.int q8.1] rfl rfl d_Reader_readNumber_8 ?_
  refine gw_if_ne hC 24 d_Reader_readNumber_11 (by decide) (fun hh => ?_) (fun hh => ?_)
  · rw [if_neg hh] at hf
    exact Reader_readNumber_p24 ao aa hC N _ _ _ hf
  · rw [if_pos hh] at hf
    exact Reader_readNumber_p14 ao aa hC N _ _ _ hf
def Reader_readNumber (N : Nat) (σ : g_S) : Option (Int32 × g_S) := Reader_readNumber_b0 N  σ
theorem Reader_readNumber_m (l : Launch) (D : va_G) (cA : ClassId) (ao aa : Nat → Nat) (N : Nat) (σ : g_S) (r : Int32) (σe : g_S) (hf : Reader_readNumber N σ = some (r, σe)) : Mt l D cA y_Reader_readNumber c_Reader_readNumber 2 (some .int) 1 21 [.ref (ao 2)] (LC ao aa cA σ) (some (.int r)) (LC ao aa cA σe) := by
  refine g_met (by decide +kernel) (by simp [lg_sl, Value.category]) (fun X e1 e2 e3 hC => ?_)
  subst e1 e2 e3
  refine gw_lv [0] rfl ?_
  exact Reader_readNumber_p0 ao aa hC N _ (r) _ hf
def Reader_readBackslash_b114 (N : Nat) (σ : g_S) : Option (Int32 × g_S) := some (0, σ)
theorem Reader_readBackslash_p114 (ao aa : Nat → Nat) {X : g_X} (hC : gC X c_Reader_readBackslash R_Reader 4 89 3 none) (N : Nat) (σ : g_S) (r : Int32) (σe : g_S) (hf : Reader_readBackslash_b114 N σ = some (r, σe)) : gw X (.inl none) (LC ao aa X.2.2.1 σe) (LC ao aa X.2.2.1 σ) [(0, .ref (ao 2))] 114 [] := by
  unfold Reader_readBackslash_b114 at hf
  cases hf
  exact gw_vret hC d_Reader_readBackslash_114
def Reader_readBackslash_b109 (N : Nat) (x2 : Int32) (s1 : Int32) (σ : g_S) : Option (Int32 × g_S) := (Reader_addAtom N s1 x2 0 σ).bind fun q111 => Reader_readBackslash_b114 N q111.2
theorem Reader_readBackslash_p109 (ao aa : Nat → Nat) {X : g_X} (hC : gC X c_Reader_readBackslash R_Reader 4 89 3 none) (N : Nat) (x2 : Int32) (s1 : Int32) (σ : g_S) (r : Int32) (σe : g_S) (hf : Reader_readBackslash_b109 N x2 s1 σ = some (r, σe)) : gw X (.inl none) (LC ao aa X.2.2.1 σe) (LC ao aa X.2.2.1 σ) [(0, .ref (ao 2)), (2, .int x2)] 109 [.int s1, .ref (ao 2)] := by
  unfold Reader_readBackslash_b109 at hf
  refine gw_iload_n hC 1 d_Reader_readBackslash_109 rfl rfl ?_
  refine gw_iconst hC 0 d_Reader_readBackslash_110 (by decide) ?_
  obtain ⟨q111, hq111, hf⟩ := g_bind hf
  refine gw_callV hC [.int s1, .int x2, .int 0] [] (Reader_addAtom_m _ _ _ ao aa N _ _ _ _ _ _ hq111) kc_Reader_98 2 (g_lay_obj rfl) rfl rfl ⟨by decide, by decide⟩ (Nat.le_of_ble_eq_true rfl) [.int 0, .int x2, .int s1, .ref (ao 2)] [] rfl rfl d_Reader_readBackslash_111 ?_
  refine gw_lv [0] rfl ?_
  exact Reader_readBackslash_p114 ao aa hC N _ _ _ hf
def Reader_readBackslash_b108 (N : Nat) (x2 : Int32) (σ : g_S) : Option (Int32 × g_S) := Reader_readBackslash_b109 N x2 1 σ
theorem Reader_readBackslash_p108 (ao aa : Nat → Nat) {X : g_X} (hC : gC X c_Reader_readBackslash R_Reader 4 89 3 none) (N : Nat) (x2 : Int32) (σ : g_S) (r : Int32) (σe : g_S) (hf : Reader_readBackslash_b108 N x2 σ = some (r, σe)) : gw X (.inl none) (LC ao aa X.2.2.1 σe) (LC ao aa X.2.2.1 σ) [(0, .ref (ao 2)), (2, .int x2)] 108 [.ref (ao 2)] := by
  unfold Reader_readBackslash_b108 at hf
  refine gw_iconst hC 1 d_Reader_readBackslash_108 (by decide) ?_
  exact Reader_readBackslash_p109 ao aa hC N _ _ _ _ _ hf
def Reader_readBackslash_b104 (N : Nat) (x2 : Int32) (σ : g_S) : Option (Int32 × g_S) := Reader_readBackslash_b109 N x2 3 σ
theorem Reader_readBackslash_p104 (ao aa : Nat → Nat) {X : g_X} (hC : gC X c_Reader_readBackslash R_Reader 4 89 3 none) (N : Nat) (x2 : Int32) (σ : g_S) (r : Int32) (σe : g_S) (hf : Reader_readBackslash_b104 N x2 σ = some (r, σe)) : gw X (.inl none) (LC ao aa X.2.2.1 σe) (LC ao aa X.2.2.1 σ) [(0, .ref (ao 2)), (2, .int x2)] 104 [.ref (ao 2)] := by
  unfold Reader_readBackslash_b104 at hf
  refine gw_iconst hC 3 d_Reader_readBackslash_104 (by decide) ?_
  refine gw_goto hC 109 d_Reader_readBackslash_105 (by decide) ?_
  exact Reader_readBackslash_p109 ao aa hC N _ _ _ _ _ hf
def Reader_readBackslash_b97 (N : Nat) (x2 : Int32) (σ : g_S) : Option (Int32 × g_S) := if x2 < 65536 then Reader_readBackslash_b108 N x2 σ else Reader_readBackslash_b104 N x2 σ
theorem Reader_readBackslash_p97 (ao aa : Nat → Nat) {X : g_X} (hC : gC X c_Reader_readBackslash R_Reader 4 89 3 none) (N : Nat) (x2 : Int32) (σ : g_S) (r : Int32) (σe : g_S) (hf : Reader_readBackslash_b97 N x2 σ = some (r, σe)) : gw X (.inl none) (LC ao aa X.2.2.1 σe) (LC ao aa X.2.2.1 σ) [(0, .ref (ao 2)), (2, .int x2)] 97 [] := by
  unfold Reader_readBackslash_b97 at hf
  refine gw_aload_n hC 0 d_Reader_readBackslash_97 rfl rfl ?_
  refine gw_iload_n hC 1 d_Reader_readBackslash_98 rfl rfl ?_
  refine gw_ldc hC 65536 kn_Reader_207 d_Reader_readBackslash_99 ?_
  refine gw_icmp_lt hC 108 d_Reader_readBackslash_101 (by decide) (fun hh => ?_) (fun hh => ?_)
  · rw [if_pos hh] at hf
    exact Reader_readBackslash_p108 ao aa hC N _ _ _ _ hf
  · rw [if_neg hh] at hf
    exact Reader_readBackslash_p104 ao aa hC N _ _ _ _ hf
def Reader_readBackslash_b85 (N : Nat) (σ : g_S) : Option (Int32 × g_S) := (Reader_readEscape N σ).bind fun q86 => if 0 ≤ (q86.2.1 13) then Reader_readBackslash_b114 N q86.2 else Reader_readBackslash_b97 N q86.1 q86.2
theorem Reader_readBackslash_p85 (ao aa : Nat → Nat) {X : g_X} (hC : gC X c_Reader_readBackslash R_Reader 4 89 3 none) (N : Nat) (σ : g_S) (r : Int32) (σe : g_S) (hf : Reader_readBackslash_b85 N σ = some (r, σe)) : gw X (.inl none) (LC ao aa X.2.2.1 σe) (LC ao aa X.2.2.1 σ) [(0, .ref (ao 2))] 85 [] := by
  unfold Reader_readBackslash_b85 at hf
  refine gw_aload_n hC 0 d_Reader_readBackslash_85 rfl rfl ?_
  obtain ⟨q86, hq86, hf⟩ := g_bind hf
  refine gw_callV hC [] [] (Reader_readEscape_m _ _ _ ao aa N _ _ _ hq86) kc_Reader_204 2 (g_lay_obj rfl) rfl rfl ⟨by decide, by decide⟩ (Nat.le_of_ble_eq_true rfl) [.ref (ao 2)] [.int q86.1] rfl rfl d_Reader_readBackslash_86 ?_
  refine gw_istore_n hC [(2, .int q86.1), (0, .ref (ao 2))] d_Reader_readBackslash_89 rfl (by decide) rfl ?_
  refine gw_aload_n hC 1 d_Reader_readBackslash_90 rfl rfl ?_
  refine Cg13 hC kf_Reader_38 d_Reader_readBackslash_91 (q86.2.1 13) rfl ?_
  refine gw_if_ge hC 114 d_Reader_readBackslash_94 (by decide) (fun hh => ?_) (fun hh => ?_)
  · rw [if_pos hh] at hf
    refine gw_lv [1] rfl ?_
    exact Reader_readBackslash_p114 ao aa hC N _ _ _ hf
  · rw [if_neg hh] at hf
    refine gw_lv [1, 0] rfl ?_
    exact Reader_readBackslash_p97 ao aa hC N _ _ _ _ hf
def Reader_readBackslash_b56 (N : Nat) (σ : g_S) : Option (Int32 × g_S) := (Reader_readNumber N (gF σ 12 ((σ.1 12) + 1))).bind fun q75 => (Reader_addAtom N 6 q75.1 ((σ.1 12) + 1) q75.2).bind fun q79 => Reader_readBackslash_b114 N q79.2
theorem Reader_readBackslash_p56 (ao aa : Nat → Nat) {X : g_X} (hC : gC X c_Reader_readBackslash R_Reader 4 89 3 none) (N : Nat) (σ : g_S) (r : Int32) (σe : g_S) (hf : Reader_readBackslash_b56 N σ = some (r, σe)) : gw X (.inl none) (LC ao aa X.2.2.1 σe) (LC ao aa X.2.2.1 σ) [(0, .ref (ao 2))] 56 [] := by
  unfold Reader_readBackslash_b56 at hf
  refine gw_aload_n hC 0 d_Reader_readBackslash_56 rfl rfl ?_
  refine gw_dup hC d_Reader_readBackslash_57 rfl ?_
  refine Cg12 hC kf_Reader_35 d_Reader_readBackslash_58 (σ.1 12) rfl ?_
  refine gw_iconst hC 1 d_Reader_readBackslash_61 (by decide) ?_
  refine gw_iadd hC d_Reader_readBackslash_62 ?_
  refine Cp12 hC kf_Reader_35 d_Reader_readBackslash_63 ?_
  refine gw_aload_n hC 0 d_Reader_readBackslash_66 rfl rfl ?_
  refine Cg12 hC kf_Reader_35 d_Reader_readBackslash_67 ((σ.1 12) + 1) rfl ?_
  refine gw_istore_n hC [(2, .int ((σ.1 12) + 1)), (0, .ref (ao 2))] d_Reader_readBackslash_70 rfl (by decide) rfl ?_
  refine gw_aload_n hC 1 d_Reader_readBackslash_71 rfl rfl ?_
  refine gw_bipush hC 6 d_Reader_readBackslash_72 (by decide) ?_
  refine gw_aload_n hC 1 d_Reader_readBackslash_74 rfl rfl ?_
  obtain ⟨q75, hq75, hf⟩ := g_bind hf
  refine gw_callV hC [] [.int 6, .ref (ao 2)] (Reader_readNumber_m _ _ _ ao aa N _ _ _ hq75) kc_Reader_182 2 (g_lay_obj rfl) rfl rfl ⟨by decide, by decide⟩ (Nat.le_of_ble_eq_true rfl) [.ref (ao 2), .int 6, .ref (ao 2)] [.int q75.1, .int 6, .ref (ao 2)] rfl rfl d_Reader_readBackslash_75 ?_
  refine gw_iload_n hC 0 d_Reader_readBackslash_78 rfl rfl ?_
  obtain ⟨q79, hq79, hf⟩ := g_bind hf
  refine gw_callV hC [.int 6, .int q75.1, .int ((σ.1 12) + 1)] [] (Reader_addAtom_m _ _ _ ao aa N _ _ _ _ _ _ hq79) kc_Reader_98 2 (g_lay_obj rfl) rfl rfl ⟨by decide, by decide⟩ (Nat.le_of_ble_eq_true rfl) [.int ((σ.1 12) + 1), .int q75.1, .int 6, .ref (ao 2)] [] rfl rfl d_Reader_readBackslash_79 ?_
  refine gw_goto hC 114 d_Reader_readBackslash_82 (by decide) ?_
  refine gw_lv [1] rfl ?_
  exact Reader_readBackslash_p114 ao aa hC N _ _ _ hf
def Reader_readBackslash_b50 (N : Nat) (x1 : Int32) (σ : g_S) : Option (Int32 × g_S) := if x1 = 48 then Reader_readBackslash_b85 N σ else Reader_readBackslash_b56 N σ
theorem Reader_readBackslash_p50 (ao aa : Nat → Nat) {X : g_X} (hC : gC X c_Reader_readBackslash R_Reader 4 89 3 none) (N : Nat) (x1 : Int32) (σ : g_S) (r : Int32) (σe : g_S) (hf : Reader_readBackslash_b50 N x1 σ = some (r, σe)) : gw X (.inl none) (LC ao aa X.2.2.1 σe) (LC ao aa X.2.2.1 σ) [(0, .ref (ao 2)), (1, .int x1)] 50 [] := by
  unfold Reader_readBackslash_b50 at hf
  refine gw_iload_n hC 1 d_Reader_readBackslash_50 rfl rfl ?_
  refine gw_bipush hC 48 d_Reader_readBackslash_51 (by decide) ?_
  refine gw_icmp_eq hC 85 d_Reader_readBackslash_53 (by decide) (fun hh => ?_) (fun hh => ?_)
  · rw [if_pos hh] at hf
    refine gw_lv [0] rfl ?_
    exact Reader_readBackslash_p85 ao aa hC N _ _ _ hf
  · rw [if_neg hh] at hf
    refine gw_lv [0] rfl ?_
    exact Reader_readBackslash_p56 ao aa hC N _ _ _ hf
def Reader_readBackslash_b43 (N : Nat) (x1 : Int32) (σ : g_S) : Option (Int32 × g_S) := (Units_isDigit N x1 σ).bind fun q44 => if q44.1 = 0 then Reader_readBackslash_b85 N q44.2 else Reader_readBackslash_b50 N x1 q44.2
theorem Reader_readBackslash_p43 (ao aa : Nat → Nat) {X : g_X} (hC : gC X c_Reader_readBackslash R_Reader 4 89 3 none) (N : Nat) (x1 : Int32) (σ : g_S) (r : Int32) (σe : g_S) (hf : Reader_readBackslash_b43 N x1 σ = some (r, σe)) : gw X (.inl none) (LC ao aa X.2.2.1 σe) (LC ao aa X.2.2.1 σ) [(0, .ref (ao 2)), (1, .int x1)] 43 [] := by
  unfold Reader_readBackslash_b43 at hf
  refine gw_iload_n hC 1 d_Reader_readBackslash_43 rfl rfl ?_
  obtain ⟨q44, hq44, hf⟩ := g_bind hf
  refine gw_callS hC [.int x1] [] (Units_isDigit_m _ _ _ ao aa N _ _ _ _ hq44) kc_Reader_189 ⟨by decide, by decide⟩ (Nat.le_of_ble_eq_true rfl) [.int x1] [.int q44.1] rfl rfl d_Reader_readBackslash_44 ?_
  refine gw_if_eq hC 85 d_Reader_readBackslash_47 (by decide) (fun hh => ?_) (fun hh => ?_)
  · rw [if_pos hh] at hf
    refine gw_lv [0] rfl ?_
    exact Reader_readBackslash_p85 ao aa hC N _ _ _ hf
  · rw [if_neg hh] at hf
    exact Reader_readBackslash_p50 ao aa hC N _ _ _ _ hf
def Reader_readBackslash_b33 (N : Nat) (σ : g_S) : Option (Int32 × g_S) := (Reader_addAssertion N 10 2 σ).bind fun q37 => Reader_readBackslash_b114 N q37.2
theorem Reader_readBackslash_p33 (ao aa : Nat → Nat) {X : g_X} (hC : gC X c_Reader_readBackslash R_Reader 4 89 3 none) (N : Nat) (σ : g_S) (r : Int32) (σe : g_S) (hf : Reader_readBackslash_b33 N σ = some (r, σe)) : gw X (.inl none) (LC ao aa X.2.2.1 σe) (LC ao aa X.2.2.1 σ) [(0, .ref (ao 2))] 33 [] := by
  unfold Reader_readBackslash_b33 at hf
  refine gw_aload_n hC 0 d_Reader_readBackslash_33 rfl rfl ?_
  refine gw_bipush hC 10 d_Reader_readBackslash_34 (by decide) ?_
  refine gw_iconst hC 2 d_Reader_readBackslash_36 (by decide) ?_
  obtain ⟨q37, hq37, hf⟩ := g_bind hf
  refine gw_callV hC [.int 10, .int 2] [] (Reader_addAssertion_m _ _ _ ao aa N _ _ _ _ _ hq37) kc_Reader_95 2 (g_lay_obj rfl) rfl rfl ⟨by decide, by decide⟩ (Nat.le_of_ble_eq_true rfl) [.int 2, .int 10, .ref (ao 2)] [] rfl rfl d_Reader_readBackslash_37 ?_
  refine gw_goto hC 114 d_Reader_readBackslash_40 (by decide) ?_
  exact Reader_readBackslash_p114 ao aa hC N _ _ _ hf
def Reader_readBackslash_b27 (N : Nat) (x1 : Int32) (σ : g_S) : Option (Int32 × g_S) := if x1 = 66 then Reader_readBackslash_b33 N σ else Reader_readBackslash_b43 N x1 σ
theorem Reader_readBackslash_p27 (ao aa : Nat → Nat) {X : g_X} (hC : gC X c_Reader_readBackslash R_Reader 4 89 3 none) (N : Nat) (x1 : Int32) (σ : g_S) (r : Int32) (σe : g_S) (hf : Reader_readBackslash_b27 N x1 σ = some (r, σe)) : gw X (.inl none) (LC ao aa X.2.2.1 σe) (LC ao aa X.2.2.1 σ) [(0, .ref (ao 2)), (1, .int x1)] 27 [] := by
  unfold Reader_readBackslash_b27 at hf
  refine gw_iload_n hC 1 d_Reader_readBackslash_27 rfl rfl ?_
  refine gw_bipush hC 66 d_Reader_readBackslash_28 (by decide) ?_
  refine gw_icmp_ne hC 43 d_Reader_readBackslash_30 (by decide) (fun hh => ?_) (fun hh => ?_)
  · rw [if_neg hh] at hf
    exact Reader_readBackslash_p43 ao aa hC N _ _ _ _ hf
  · rw [if_pos hh] at hf
    refine gw_lv [0] rfl ?_
    exact Reader_readBackslash_p33 ao aa hC N _ _ _ hf
def Reader_readBackslash_b17 (N : Nat) (σ : g_S) : Option (Int32 × g_S) := (Reader_addAssertion N 9 2 σ).bind fun q21 => Reader_readBackslash_b114 N q21.2
theorem Reader_readBackslash_p17 (ao aa : Nat → Nat) {X : g_X} (hC : gC X c_Reader_readBackslash R_Reader 4 89 3 none) (N : Nat) (σ : g_S) (r : Int32) (σe : g_S) (hf : Reader_readBackslash_b17 N σ = some (r, σe)) : gw X (.inl none) (LC ao aa X.2.2.1 σe) (LC ao aa X.2.2.1 σ) [(0, .ref (ao 2))] 17 [] := by
  unfold Reader_readBackslash_b17 at hf
  refine gw_aload_n hC 0 d_Reader_readBackslash_17 rfl rfl ?_
  refine gw_bipush hC 9 d_Reader_readBackslash_18 (by decide) ?_
  refine gw_iconst hC 2 d_Reader_readBackslash_20 (by decide) ?_
  obtain ⟨q21, hq21, hf⟩ := g_bind hf
  refine gw_callV hC [.int 9, .int 2] [] (Reader_addAssertion_m _ _ _ ao aa N _ _ _ _ _ hq21) kc_Reader_95 2 (g_lay_obj rfl) rfl rfl ⟨by decide, by decide⟩ (Nat.le_of_ble_eq_true rfl) [.int 2, .int 9, .ref (ao 2)] [] rfl rfl d_Reader_readBackslash_21 ?_
  refine gw_goto hC 114 d_Reader_readBackslash_24 (by decide) ?_
  exact Reader_readBackslash_p114 ao aa hC N _ _ _ hf
def Reader_readBackslash_b0 (N : Nat) (σ : g_S) : Option (Int32 × g_S) := (Reader_unitAt N ((σ.1 12) + 1) σ).bind fun q7 => if q7.1 = 98 then Reader_readBackslash_b17 N q7.2 else Reader_readBackslash_b27 N q7.1 q7.2
theorem Reader_readBackslash_p0 (ao aa : Nat → Nat) {X : g_X} (hC : gC X c_Reader_readBackslash R_Reader 4 89 3 none) (N : Nat) (σ : g_S) (r : Int32) (σe : g_S) (hf : Reader_readBackslash_b0 N σ = some (r, σe)) : gw X (.inl none) (LC ao aa X.2.2.1 σe) (LC ao aa X.2.2.1 σ) [(0, .ref (ao 2))] 0 [] := by
  unfold Reader_readBackslash_b0 at hf
  refine gw_aload_n hC 0 d_Reader_readBackslash_0 rfl rfl ?_
  refine gw_aload_n hC 0 d_Reader_readBackslash_1 rfl rfl ?_
  refine Cg12 hC kf_Reader_35 d_Reader_readBackslash_2 (σ.1 12) rfl ?_
  refine gw_iconst hC 1 d_Reader_readBackslash_5 (by decide) ?_
  refine gw_iadd hC d_Reader_readBackslash_6 ?_
  obtain ⟨q7, hq7, hf⟩ := g_bind hf
  refine gw_callV hC [.int ((σ.1 12) + 1)] [] (Reader_unitAt_m _ _ _ ao aa N _ _ _ _ hq7) kc_Reader_76 2 (g_lay_obj rfl) rfl rfl ⟨by decide, by decide⟩ (Nat.le_of_ble_eq_true rfl) [.int ((σ.1 12) + 1), .ref (ao 2)] [.int q7.1] rfl rfl d_Reader_readBackslash_7 ?_
  refine gw_istore_n hC [(1, .int q7.1), (0, .ref (ao 2))] d_Reader_readBackslash_10 rfl (by decide) rfl ?_
  refine gw_iload_n hC 0 d_Reader_readBackslash_11 rfl rfl ?_
  refine gw_bipush hC 98 d_Reader_readBackslash_12 (by decide) ?_
  refine gw_icmp_ne hC 27 d_Reader_readBackslash_14 (by decide) (fun hh => ?_) (fun hh => ?_)
  · rw [if_neg hh] at hf
    refine gw_lv [1, 0] rfl ?_
    exact Reader_readBackslash_p27 ao aa hC N _ _ _ _ hf
  · rw [if_pos hh] at hf
    refine gw_lv [1] rfl ?_
    exact Reader_readBackslash_p17 ao aa hC N _ _ _ hf
def Reader_readBackslash (N : Nat) (σ : g_S) : Option (Int32 × g_S) := Reader_readBackslash_b0 N  σ
theorem Reader_readBackslash_m (l : Launch) (D : va_G) (cA : ClassId) (ao aa : Nat → Nat) (N : Nat) (σ : g_S) (r : Int32) (σe : g_S) (hf : Reader_readBackslash N σ = some (r, σe)) : Mt l D cA y_Reader_readBackslash c_Reader_readBackslash 3 none 4 89 [.ref (ao 2)] (LC ao aa cA σ) none (LC ao aa cA σe) := by
  refine g_met (by decide +kernel) (by simp [lg_sl, Value.category]) (fun X e1 e2 e3 hC => ?_)
  subst e1 e2 e3
  refine gw_lv [0] rfl ?_
  exact Reader_readBackslash_p0 ao aa hC N _ (r) _ hf
