theorem kc_Mod_204 : g_okV R_Mod 204 y_Mod_assertion c_Mod_assertion 3 none 2 := ⟨g_mem (List.mem_append_right _ (List.mem_append_right _ (List.mem_append_right _ (List.mem_append_right _ (List.mem_append_left _ (List.mem_of_getElem? (i := 175) rfl)))))) rfl, g_mem (List.mem_append_right _ (List.mem_append_left _ (List.mem_of_getElem? (i := 5) (by decide +kernel)))) rfl, g_mem (List.mem_append_right _ (List.mem_append_right _ (List.mem_append_right _ (List.mem_append_right _ (List.mem_append_left _ (List.mem_of_getElem? (i := 172) (by decide +kernel))))))) rfl, g_mem (List.mem_append_right _ (List.mem_append_right _ (List.mem_append_right _ (List.mem_append_right _ (List.mem_append_left _ (List.mem_of_getElem? (i := 174) (by decide +kernel))))))) rfl, g_mem (List.mem_append_left _ (List.mem_of_getElem? (i := 58) (by decide +kernel))) rfl, by decide +kernel, by decide +kernel, by decide +kernel⟩
theorem kc_Mod_216 : g_okV R_Mod 216 y_Mod_aClass c_Mod_aClass 7 (some .int) 0 := ⟨g_mem (List.mem_append_right _ (List.mem_append_right _ (List.mem_append_right _ (List.mem_append_right _ (List.mem_append_left _ (List.mem_of_getElem? (i := 203) rfl)))))) rfl, g_mem (List.mem_append_right _ (List.mem_append_left _ (List.mem_of_getElem? (i := 5) (by decide +kernel)))) rfl, g_mem (List.mem_append_right _ (List.mem_append_right _ (List.mem_append_right _ (List.mem_append_right _ (List.mem_append_left _ (List.mem_of_getElem? (i := 200) (by decide +kernel))))))) rfl, g_mem (List.mem_append_right _ (List.mem_append_right _ (List.mem_append_right _ (List.mem_append_right _ (List.mem_append_left _ (List.mem_of_getElem? (i := 202) (by decide +kernel))))))) rfl, g_mem (List.mem_append_left _ (List.mem_of_getElem? (i := 62) (by decide +kernel))) rfl, by decide +kernel, by decide +kernel, by decide +kernel⟩
theorem kc_Mod_213 : g_okV R_Mod 213 y_Mod_escapedAtom c_Mod_escapedAtom 4 none 0 := ⟨g_mem (List.mem_append_right _ (List.mem_append_right _ (List.mem_append_right _ (List.mem_append_right _ (List.mem_append_left _ (List.mem_of_getElem? (i := 179) rfl)))))) rfl, g_mem (List.mem_append_right _ (List.mem_append_left _ (List.mem_of_getElem? (i := 5) (by decide +kernel)))) rfl, g_mem (List.mem_append_right _ (List.mem_append_right _ (List.mem_append_right _ (List.mem_append_right _ (List.mem_append_left _ (List.mem_of_getElem? (i := 176) (by decide +kernel))))))) rfl, g_mem (List.mem_append_right _ (List.mem_append_right _ (List.mem_append_right _ (List.mem_append_right _ (List.mem_append_left _ (List.mem_of_getElem? (i := 178) (by decide +kernel))))))) rfl, g_mem (List.mem_append_left _ (List.mem_of_getElem? (i := 59) (by decide +kernel))) rfl, by decide +kernel, by decide +kernel, by decide +kernel⟩
theorem kc_Mod_210 : g_okV R_Mod 210 y_Mod_closeGroup c_Mod_closeGroup 2 none 0 := ⟨g_mem (List.mem_append_right _ (List.mem_append_right _ (List.mem_append_right _ (List.mem_append_right _ (List.mem_append_left _ (List.mem_of_getElem? (i := 155) rfl)))))) rfl, g_mem (List.mem_append_right _ (List.mem_append_left _ (List.mem_of_getElem? (i := 5) (by decide +kernel)))) rfl, g_mem (List.mem_append_right _ (List.mem_append_right _ (List.mem_append_right _ (List.mem_append_right _ (List.mem_append_left _ (List.mem_of_getElem? (i := 152) (by decide +kernel))))))) rfl, g_mem (List.mem_append_right _ (List.mem_append_right _ (List.mem_append_right _ (List.mem_append_right _ (List.mem_append_left _ (List.mem_of_getElem? (i := 154) (by decide +kernel))))))) rfl, g_mem (List.mem_append_left _ (List.mem_of_getElem? (i := 54) (by decide +kernel))) rfl, by decide +kernel, by decide +kernel, by decide +kernel⟩
theorem kc_Mod_207 : g_okV R_Mod 207 y_Mod_openGroup c_Mod_openGroup 3 none 0 := ⟨g_mem (List.mem_append_right _ (List.mem_append_right _ (List.mem_append_right _ (List.mem_append_right _ (List.mem_append_left _ (List.mem_of_getElem? (i := 147) rfl)))))) rfl, g_mem (List.mem_append_right _ (List.mem_append_left _ (List.mem_of_getElem? (i := 5) (by decide +kernel)))) rfl, g_mem (List.mem_append_right _ (List.mem_append_right _ (List.mem_append_right _ (List.mem_append_right _ (List.mem_append_left _ (List.mem_of_getElem? (i := 144) (by decide +kernel))))))) rfl, g_mem (List.mem_append_right _ (List.mem_append_right _ (List.mem_append_right _ (List.mem_append_right _ (List.mem_append_left _ (List.mem_of_getElem? (i := 146) (by decide +kernel))))))) rfl, g_mem (List.mem_append_left _ (List.mem_of_getElem? (i := 52) (by decide +kernel))) rfl, by decide +kernel, by decide +kernel, by decide +kernel⟩
theorem kc_Mod_219 : g_okV R_Mod 219 y_Mod_term c_Mod_term 3 none 0 := ⟨g_mem (List.mem_append_right _ (List.mem_append_right _ (List.mem_append_right _ (List.mem_append_right _ (List.mem_append_left _ (List.mem_of_getElem? (i := 139) rfl)))))) rfl, g_mem (List.mem_append_right _ (List.mem_append_left _ (List.mem_of_getElem? (i := 5) (by decide +kernel)))) rfl, g_mem (List.mem_append_right _ (List.mem_append_right _ (List.mem_append_right _ (List.mem_append_right _ (List.mem_append_left _ (List.mem_of_getElem? (i := 136) (by decide +kernel))))))) rfl, g_mem (List.mem_append_right _ (List.mem_append_right _ (List.mem_append_right _ (List.mem_append_right _ (List.mem_append_left _ (List.mem_of_getElem? (i := 138) (by decide +kernel))))))) rfl, g_mem (List.mem_append_left _ (List.mem_of_getElem? (i := 50) (by decide +kernel))) rfl, by decide +kernel, by decide +kernel, by decide +kernel⟩
theorem kf_Mod_226 : Cond.fieldLink R_Mod 226 "PatternDeskModel" "there" "Z" ∈ g_TB := g_mem (List.mem_append_right _ (List.mem_append_right _ (List.mem_append_right _ (List.mem_append_left _ (List.mem_of_getElem? (i := 202) (by decide +kernel)))))) rfl
theorem kf_Mod_16 : Cond.fieldLink R_Mod 16 "PatternDeskModel" "place" "I" ∈ g_TB := g_mem (List.mem_append_right _ (List.mem_append_right _ (List.mem_append_right _ (List.mem_append_left _ (List.mem_of_getElem? (i := 203) (by decide +kernel)))))) rfl
theorem kf_Mod_229 : Cond.fieldLink R_Mod 229 "PatternDeskModel" "ignoring" "Z" ∈ g_TB := g_mem (List.mem_append_right _ (List.mem_append_right _ (List.mem_append_right _ (List.mem_append_left _ (List.mem_of_getElem? (i := 200) (by decide +kernel)))))) rfl
theorem kf_Mod_232 : Cond.fieldLink R_Mod 232 "PatternDeskModel" "lines" "Z" ∈ g_TB := g_mem (List.mem_append_right _ (List.mem_append_right _ (List.mem_append_right _ (List.mem_append_left _ (List.mem_of_getElem? (i := 201) (by decide +kernel)))))) rfl
theorem kc_Mod_235 : g_okV R_Mod 235 y_Mod_read c_Mod_read 2 none 0 := ⟨g_mem (List.mem_append_right _ (List.mem_append_right _ (List.mem_append_right _ (List.mem_append_right _ (List.mem_append_left _ (List.mem_of_getElem? (i := 119) rfl)))))) rfl, g_mem (List.mem_append_right _ (List.mem_append_left _ (List.mem_of_getElem? (i := 5) (by decide +kernel)))) rfl, g_mem (List.mem_append_right _ (List.mem_append_right _ (List.mem_append_right _ (List.mem_append_right _ (List.mem_append_left _ (List.mem_of_getElem? (i := 116) (by decide +kernel))))))) rfl, g_mem (List.mem_append_right _ (List.mem_append_right _ (List.mem_append_right _ (List.mem_append_right _ (List.mem_append_left _ (List.mem_of_getElem? (i := 118) (by decide +kernel))))))) rfl, g_mem (List.mem_append_left _ (List.mem_of_getElem? (i := 45) (by decide +kernel))) rfl, by decide +kernel, by decide +kernel, by decide +kernel⟩
theorem kf_Mod_222 : Cond.fieldLink R_Mod 222 "PatternDeskModel" "result" "Z" ∈ g_TB := g_mem (List.mem_append_right _ (List.mem_append_right _ (List.mem_append_right _ (List.mem_append_left _ (List.mem_of_getElem? (i := 228) (by decide +kernel)))))) rfl
theorem kf_Mod_238 : Cond.fieldLink R_Mod 238 "PatternDeskModel" "length" "I" ∈ g_TB := g_mem (List.mem_append_right _ (List.mem_append_right _ (List.mem_append_right _ (List.mem_append_left _ (List.mem_of_getElem? (i := 205) (by decide +kernel)))))) rfl
theorem kf_Mod_20 : Cond.fieldLink R_Mod 20 "PatternDeskModel" "text" "[I" ∈ g_TB := g_mem (List.mem_append_right _ (List.mem_append_right _ (List.mem_append_right _ (List.mem_append_left _ (List.mem_of_getElem? (i := 204) (by decide +kernel)))))) rfl
theorem kf_Mod_69 : Cond.fieldLink R_Mod 69 "PatternDeskModel" "todo" "[I" ∈ g_TB := g_mem (List.mem_append_right _ (List.mem_append_right _ (List.mem_append_right _ (List.mem_append_left _ (List.mem_of_getElem? (i := 232) (by decide +kernel)))))) rfl
theorem kf_Mod_241 : Cond.fieldLink R_Mod 241 "PatternDeskModel" "rows" "I" ∈ g_TB := g_mem (List.mem_append_right _ (List.mem_append_right _ (List.mem_append_right _ (List.mem_append_left _ (List.mem_of_getElem? (i := 231) (by decide +kernel)))))) rfl
theorem kf_Mod_72 : Cond.fieldLink R_Mod 72 "PatternDeskModel" "which" "[I" ∈ g_TB := g_mem (List.mem_append_right _ (List.mem_append_right _ (List.mem_append_right _ (List.mem_append_left _ (List.mem_of_getElem? (i := 233) (by decide +kernel)))))) rfl
theorem kf_Mod_75 : Cond.fieldLink R_Mod 75 "PatternDeskModel" "next" "[I" ∈ g_TB := g_mem (List.mem_append_right _ (List.mem_append_right _ (List.mem_append_right _ (List.mem_append_left _ (List.mem_of_getElem? (i := 234) (by decide +kernel)))))) rfl
theorem kf_Mod_78 : Cond.fieldLink R_Mod 78 "PatternDeskModel" "x" "[I" ∈ g_TB := g_mem (List.mem_append_right _ (List.mem_append_right _ (List.mem_append_right _ (List.mem_append_left _ (List.mem_of_getElem? (i := 235) (by decide +kernel)))))) rfl
theorem kf_Mod_81 : Cond.fieldLink R_Mod 81 "PatternDeskModel" "y" "[I" ∈ g_TB := g_mem (List.mem_append_right _ (List.mem_append_right _ (List.mem_append_right _ (List.mem_append_left _ (List.mem_of_getElem? (i := 236) (by decide +kernel)))))) rfl
theorem kf_Mod_84 : Cond.fieldLink R_Mod 84 "PatternDeskModel" "z" "[I" ∈ g_TB := g_mem (List.mem_append_right _ (List.mem_append_right _ (List.mem_append_right _ (List.mem_append_left _ (List.mem_of_getElem? (i := 237) (by decide +kernel)))))) rfl
theorem d_Mod_escapedAtom_0 : decode c_Mod_escapedAtom 0 = .ok (.aload_n 0, 1) := by decide +kernel
theorem d_Mod_escapedAtom_1 : decode c_Mod_escapedAtom 1 = .ok (.iconst 1, 1) := by decide +kernel
theorem d_Mod_escapedAtom_2 : decode c_Mod_escapedAtom 2 = .ok (.invokevirtual 158, 3) := by decide +kernel
theorem d_Mod_escapedAtom_5 : decode c_Mod_escapedAtom 5 = .ok (.istore_n 1, 1) := by decide +kernel
theorem d_Mod_escapedAtom_6 : decode c_Mod_escapedAtom 6 = .ok (.iload_n 1, 1) := by decide +kernel
theorem d_Mod_escapedAtom_7 : decode c_Mod_escapedAtom 7 = .ok (.bipush 98, 2) := by decide +kernel
theorem d_Mod_escapedAtom_9 : decode c_Mod_escapedAtom 9 = .ok (.if_icmp .eq 9, 3) := by decide +kernel
theorem d_Mod_escapedAtom_12 : decode c_Mod_escapedAtom 12 = .ok (.iload_n 1, 1) := by decide +kernel
theorem d_Mod_escapedAtom_13 : decode c_Mod_escapedAtom 13 = .ok (.bipush 66, 2) := by decide +kernel
theorem d_Mod_escapedAtom_15 : decode c_Mod_escapedAtom 15 = .ok (.if_icmp .ne 22, 3) := by decide +kernel
theorem d_Mod_escapedAtom_18 : decode c_Mod_escapedAtom 18 = .ok (.aload_n 0, 1) := by decide +kernel
theorem d_Mod_escapedAtom_19 : decode c_Mod_escapedAtom 19 = .ok (.iload_n 1, 1) := by decide +kernel
theorem d_Mod_escapedAtom_20 : decode c_Mod_escapedAtom 20 = .ok (.bipush 98, 2) := by decide +kernel
theorem d_Mod_escapedAtom_22 : decode c_Mod_escapedAtom 22 = .ok (.if_icmp .ne 8, 3) := by decide +kernel
theorem d_Mod_escapedAtom_25 : decode c_Mod_escapedAtom 25 = .ok (.bipush 10, 2) := by decide +kernel
theorem d_Mod_escapedAtom_27 : decode c_Mod_escapedAtom 27 = .ok (.goto 5, 3) := by decide +kernel
theorem d_Mod_escapedAtom_30 : decode c_Mod_escapedAtom 30 = .ok (.bipush 11, 2) := by decide +kernel
theorem d_Mod_escapedAtom_32 : decode c_Mod_escapedAtom 32 = .ok (.iconst 2, 1) := by decide +kernel
theorem d_Mod_escapedAtom_33 : decode c_Mod_escapedAtom 33 = .ok (.invokevirtual 204, 3) := by decide +kernel
theorem d_Mod_escapedAtom_36 : decode c_Mod_escapedAtom 36 = .ok (.return_, 1) := by decide +kernel
theorem d_Mod_escapedAtom_37 : decode c_Mod_escapedAtom 37 = .ok (.aload_n 0, 1) := by decide +kernel
theorem d_Mod_escapedAtom_38 : decode c_Mod_escapedAtom 38 = .ok (.dup, 1) := by decide +kernel
theorem d_Mod_escapedAtom_39 : decode c_Mod_escapedAtom 39 = .ok (.getfield 129, 3) := by decide +kernel
theorem d_Mod_escapedAtom_42 : decode c_Mod_escapedAtom 42 = .ok (.iconst 1, 1) := by decide +kernel
theorem d_Mod_escapedAtom_43 : decode c_Mod_escapedAtom 43 = .ok (.iadd, 1) := by decide +kernel
theorem d_Mod_escapedAtom_44 : decode c_Mod_escapedAtom 44 = .ok (.putfield 129, 3) := by decide +kernel
theorem d_Mod_escapedAtom_47 : decode c_Mod_escapedAtom 47 = .ok (.aload_n 0, 1) := by decide +kernel
theorem d_Mod_escapedAtom_48 : decode c_Mod_escapedAtom 48 = .ok (.getfield 129, 3) := by decide +kernel
theorem d_Mod_escapedAtom_51 : decode c_Mod_escapedAtom 51 = .ok (.istore_n 2, 1) := by decide +kernel
theorem d_Mod_escapedAtom_52 : decode c_Mod_escapedAtom 52 = .ok (.aload_n 0, 1) := by decide +kernel
theorem d_Mod_escapedAtom_53 : decode c_Mod_escapedAtom 53 = .ok (.iconst 0, 1) := by decide +kernel
theorem d_Mod_escapedAtom_54 : decode c_Mod_escapedAtom 54 = .ok (.invokevirtual 179, 3) := by decide +kernel
theorem d_Mod_escapedAtom_57 : decode c_Mod_escapedAtom 57 = .ok (.istore_n 3, 1) := by decide +kernel
theorem d_Mod_escapedAtom_58 : decode c_Mod_escapedAtom 58 = .ok (.aload_n 0, 1) := by decide +kernel
theorem d_Mod_escapedAtom_59 : decode c_Mod_escapedAtom 59 = .ok (.getfield 135, 3) := by decide +kernel
theorem d_Mod_escapedAtom_62 : decode c_Mod_escapedAtom 62 = .ok (.ifCond .ge 36, 3) := by decide +kernel
theorem d_Mod_escapedAtom_65 : decode c_Mod_escapedAtom 65 = .ok (.aload_n 0, 1) := by decide +kernel
theorem d_Mod_escapedAtom_66 : decode c_Mod_escapedAtom 66 = .ok (.aload_n 0, 1) := by decide +kernel
theorem d_Mod_escapedAtom_67 : decode c_Mod_escapedAtom 67 = .ok (.iload_n 3, 1) := by decide +kernel
theorem d_Mod_escapedAtom_68 : decode c_Mod_escapedAtom 68 = .ok (.ifCond .ne 7, 3) := by decide +kernel
theorem d_Mod_escapedAtom_71 : decode c_Mod_escapedAtom 71 = .ok (.iconst 3, 1) := by decide +kernel
theorem d_Mod_escapedAtom_72 : decode c_Mod_escapedAtom 72 = .ok (.goto 14, 3) := by decide +kernel
theorem d_Mod_escapedAtom_75 : decode c_Mod_escapedAtom 75 = .ok (.iload_n 3, 1) := by decide +kernel
theorem d_Mod_escapedAtom_76 : decode c_Mod_escapedAtom 76 = .ok (.iconst 1, 1) := by decide +kernel
theorem d_Mod_escapedAtom_77 : decode c_Mod_escapedAtom 77 = .ok (.if_icmp .ne 7, 3) := by decide +kernel
theorem d_Mod_escapedAtom_80 : decode c_Mod_escapedAtom 80 = .ok (.iconst 5, 1) := by decide +kernel
theorem d_Mod_escapedAtom_81 : decode c_Mod_escapedAtom 81 = .ok (.goto 5, 3) := by decide +kernel
theorem d_Mod_escapedAtom_84 : decode c_Mod_escapedAtom 84 = .ok (.bipush 7, 2) := by decide +kernel
theorem d_Mod_escapedAtom_86 : decode c_Mod_escapedAtom 86 = .ok (.aload_n 0, 1) := by decide +kernel
theorem d_Mod_escapedAtom_87 : decode c_Mod_escapedAtom 87 = .ok (.getfield 169, 3) := by decide +kernel
theorem d_Mod_escapedAtom_90 : decode c_Mod_escapedAtom 90 = .ok (.iload_n 2, 1) := by decide +kernel
theorem d_Mod_escapedAtom_91 : decode c_Mod_escapedAtom 91 = .ok (.iconst 0, 1) := by decide +kernel
theorem d_Mod_escapedAtom_92 : decode c_Mod_escapedAtom 92 = .ok (.invokevirtual 147, 3) := by decide +kernel
theorem d_Mod_escapedAtom_95 : decode c_Mod_escapedAtom 95 = .ok (.invokevirtual 201, 3) := by decide +kernel
theorem d_Mod_escapedAtom_98 : decode c_Mod_escapedAtom 98 = .ok (.return_, 1) := by decide +kernel
theorem d_Mod_term_0 : decode c_Mod_term 0 = .ok (.aload_n 0, 1) := by decide +kernel
theorem d_Mod_term_1 : decode c_Mod_term 1 = .ok (.iconst 0, 1) := by decide +kernel
theorem d_Mod_term_2 : decode c_Mod_term 2 = .ok (.invokevirtual 158, 3) := by decide +kernel
theorem d_Mod_term_5 : decode c_Mod_term 5 = .ok (.istore_n 1, 1) := by decide +kernel
theorem d_Mod_term_6 : decode c_Mod_term 6 = .ok (.iload_n 1, 1) := by decide +kernel
theorem d_Mod_term_7 : decode c_Mod_term 7 = .ok (.bipush 124, 2) := by decide +kernel
theorem d_Mod_term_9 : decode c_Mod_term 9 = .ok (.if_icmp .ne 20, 3) := by decide +kernel
theorem d_Mod_term_12 : decode c_Mod_term 12 = .ok (.aload_n 0, 1) := by decide +kernel
theorem d_Mod_term_13 : decode c_Mod_term 13 = .ok (.dup, 1) := by decide +kernel
theorem d_Mod_term_14 : decode c_Mod_term 14 = .ok (.getfield 129, 3) := by decide +kernel
theorem d_Mod_term_17 : decode c_Mod_term 17 = .ok (.iconst 1, 1) := by decide +kernel
theorem d_Mod_term_18 : decode c_Mod_term 18 = .ok (.iadd, 1) := by decide +kernel
theorem d_Mod_term_19 : decode c_Mod_term 19 = .ok (.putfield 129, 3) := by decide +kernel
theorem d_Mod_term_22 : decode c_Mod_term 22 = .ok (.aload_n 0, 1) := by decide +kernel
theorem d_Mod_term_23 : decode c_Mod_term 23 = .ok (.invokevirtual 155, 3) := by decide +kernel
theorem d_Mod_term_26 : decode c_Mod_term 26 = .ok (.goto 194, 3) := by decide +kernel
theorem d_Mod_term_29 : decode c_Mod_term 29 = .ok (.iload_n 1, 1) := by decide +kernel
theorem d_Mod_term_30 : decode c_Mod_term 30 = .ok (.bipush 40, 2) := by decide +kernel
theorem d_Mod_term_32 : decode c_Mod_term 32 = .ok (.if_icmp .ne 10, 3) := by decide +kernel
theorem d_Mod_term_35 : decode c_Mod_term 35 = .ok (.aload_n 0, 1) := by decide +kernel
theorem d_Mod_term_36 : decode c_Mod_term 36 = .ok (.invokevirtual 207, 3) := by decide +kernel
theorem d_Mod_term_39 : decode c_Mod_term 39 = .ok (.goto 181, 3) := by decide +kernel
theorem d_Mod_term_42 : decode c_Mod_term 42 = .ok (.iload_n 1, 1) := by decide +kernel
theorem d_Mod_term_43 : decode c_Mod_term 43 = .ok (.bipush 41, 2) := by decide +kernel
theorem d_Mod_term_45 : decode c_Mod_term 45 = .ok (.if_icmp .ne 28, 3) := by decide +kernel
theorem d_Mod_term_48 : decode c_Mod_term 48 = .ok (.aload_n 0, 1) := by decide +kernel
theorem d_Mod_term_49 : decode c_Mod_term 49 = .ok (.getfield 144, 3) := by decide +kernel
theorem d_Mod_term_52 : decode c_Mod_term 52 = .ok (.ifCond .ne 14, 3) := by decide +kernel
theorem d_Mod_term_55 : decode c_Mod_term 55 = .ok (.aload_n 0, 1) := by decide +kernel
theorem d_Mod_term_56 : decode c_Mod_term 56 = .ok (.aload_n 0, 1) := by decide +kernel
theorem d_Mod_term_57 : decode c_Mod_term 57 = .ok (.getfield 129, 3) := by decide +kernel
theorem d_Mod_term_60 : decode c_Mod_term 60 = .ok (.invokevirtual 165, 3) := by decide +kernel
theorem d_Mod_term_63 : decode c_Mod_term 63 = .ok (.goto 157, 3) := by decide +kernel
theorem d_Mod_term_66 : decode c_Mod_term 66 = .ok (.aload_n 0, 1) := by decide +kernel
theorem d_Mod_term_67 : decode c_Mod_term 67 = .ok (.invokevirtual 210, 3) := by decide +kernel
theorem d_Mod_term_70 : decode c_Mod_term 70 = .ok (.goto 150, 3) := by decide +kernel
theorem d_Mod_term_73 : decode c_Mod_term 73 = .ok (.iload_n 1, 1) := by decide +kernel
theorem d_Mod_term_74 : decode c_Mod_term 74 = .ok (.bipush 94, 2) := by decide +kernel
theorem d_Mod_term_76 : decode c_Mod_term 76 = .ok (.if_icmp .eq 9, 3) := by decide +kernel
theorem d_Mod_term_79 : decode c_Mod_term 79 = .ok (.iload_n 1, 1) := by decide +kernel
theorem d_Mod_term_80 : decode c_Mod_term 80 = .ok (.bipush 36, 2) := by decide +kernel
theorem d_Mod_term_82 : decode c_Mod_term 82 = .ok (.if_icmp .ne 24, 3) := by decide +kernel
theorem d_Mod_term_85 : decode c_Mod_term 85 = .ok (.aload_n 0, 1) := by decide +kernel
theorem d_Mod_term_86 : decode c_Mod_term 86 = .ok (.iload_n 1, 1) := by decide +kernel
theorem d_Mod_term_87 : decode c_Mod_term 87 = .ok (.bipush 94, 2) := by decide +kernel
theorem d_Mod_term_89 : decode c_Mod_term 89 = .ok (.if_icmp .ne 8, 3) := by decide +kernel
theorem d_Mod_term_92 : decode c_Mod_term 92 = .ok (.bipush 8, 2) := by decide +kernel
theorem d_Mod_term_94 : decode c_Mod_term 94 = .ok (.goto 5, 3) := by decide +kernel
theorem d_Mod_term_97 : decode c_Mod_term 97 = .ok (.bipush 9, 2) := by decide +kernel
theorem d_Mod_term_99 : decode c_Mod_term 99 = .ok (.iconst 1, 1) := by decide +kernel
theorem d_Mod_term_100 : decode c_Mod_term 100 = .ok (.invokevirtual 204, 3) := by decide +kernel
theorem d_Mod_term_103 : decode c_Mod_term 103 = .ok (.goto 117, 3) := by decide +kernel
theorem d_Mod_term_106 : decode c_Mod_term 106 = .ok (.iload_n 1, 1) := by decide +kernel
theorem d_Mod_term_107 : decode c_Mod_term 107 = .ok (.bipush 92, 2) := by decide +kernel
theorem d_Mod_term_109 : decode c_Mod_term 109 = .ok (.if_icmp .ne 10, 3) := by decide +kernel
theorem d_Mod_term_112 : decode c_Mod_term 112 = .ok (.aload_n 0, 1) := by decide +kernel
theorem d_Mod_term_113 : decode c_Mod_term 113 = .ok (.invokevirtual 213, 3) := by decide +kernel
theorem d_Mod_term_116 : decode c_Mod_term 116 = .ok (.goto 104, 3) := by decide +kernel
theorem d_Mod_term_119 : decode c_Mod_term 119 = .ok (.iload_n 1, 1) := by decide +kernel
theorem d_Mod_term_120 : decode c_Mod_term 120 = .ok (.bipush 42, 2) := by decide +kernel
theorem d_Mod_term_122 : decode c_Mod_term 122 = .ok (.if_icmp .eq 33, 3) := by decide +kernel
theorem d_Mod_term_125 : decode c_Mod_term 125 = .ok (.iload_n 1, 1) := by decide +kernel
theorem d_Mod_term_126 : decode c_Mod_term 126 = .ok (.bipush 43, 2) := by decide +kernel
theorem d_Mod_term_128 : decode c_Mod_term 128 = .ok (.if_icmp .eq 27, 3) := by decide +kernel
theorem d_Mod_term_131 : decode c_Mod_term 131 = .ok (.iload_n 1, 1) := by decide +kernel
theorem d_Mod_term_132 : decode c_Mod_term 132 = .ok (.bipush 63, 2) := by decide +kernel
theorem d_Mod_term_134 : decode c_Mod_term 134 = .ok (.if_icmp .eq 21, 3) := by decide +kernel
theorem d_Mod_term_137 : decode c_Mod_term 137 = .ok (.iload_n 1, 1) := by decide +kernel
theorem d_Mod_term_138 : decode c_Mod_term 138 = .ok (.bipush 123, 2) := by decide +kernel
theorem d_Mod_term_140 : decode c_Mod_term 140 = .ok (.if_icmp .eq 15, 3) := by decide +kernel
theorem d_Mod_term_143 : decode c_Mod_term 143 = .ok (.iload_n 1, 1) := by decide +kernel
theorem d_Mod_term_144 : decode c_Mod_term 144 = .ok (.bipush 125, 2) := by decide +kernel
theorem d_Mod_term_146 : decode c_Mod_term 146 = .ok (.if_icmp .eq 9, 3) := by decide +kernel
theorem d_Mod_term_149 : decode c_Mod_term 149 = .ok (.iload_n 1, 1) := by decide +kernel
theorem d_Mod_term_150 : decode c_Mod_term 150 = .ok (.bipush 93, 2) := by decide +kernel
theorem d_Mod_term_152 : decode c_Mod_term 152 = .ok (.if_icmp .ne 14, 3) := by decide +kernel
theorem d_Mod_term_155 : decode c_Mod_term 155 = .ok (.aload_n 0, 1) := by decide +kernel
theorem d_Mod_term_156 : decode c_Mod_term 156 = .ok (.aload_n 0, 1) := by decide +kernel
theorem d_Mod_term_157 : decode c_Mod_term 157 = .ok (.getfield 129, 3) := by decide +kernel
theorem d_Mod_term_160 : decode c_Mod_term 160 = .ok (.invokevirtual 165, 3) := by decide +kernel
theorem d_Mod_term_163 : decode c_Mod_term 163 = .ok (.goto 57, 3) := by decide +kernel
theorem d_Mod_term_166 : decode c_Mod_term 166 = .ok (.aload_n 0, 1) := by decide +kernel
theorem d_Mod_term_167 : decode c_Mod_term 167 = .ok (.dup, 1) := by decide +kernel
theorem d_Mod_term_168 : decode c_Mod_term 168 = .ok (.getfield 129, 3) := by decide +kernel
theorem d_Mod_term_171 : decode c_Mod_term 171 = .ok (.iconst 1, 1) := by decide +kernel
theorem d_Mod_term_172 : decode c_Mod_term 172 = .ok (.iadd, 1) := by decide +kernel
theorem d_Mod_term_173 : decode c_Mod_term 173 = .ok (.putfield 129, 3) := by decide +kernel
theorem d_Mod_term_176 : decode c_Mod_term 176 = .ok (.iload_n 1, 1) := by decide +kernel
theorem d_Mod_term_177 : decode c_Mod_term 177 = .ok (.bipush 91, 2) := by decide +kernel
theorem d_Mod_term_179 : decode c_Mod_term 179 = .ok (.if_icmp .ne 10, 3) := by decide +kernel
theorem d_Mod_term_182 : decode c_Mod_term 182 = .ok (.aload_n 0, 1) := by decide +kernel
theorem d_Mod_term_183 : decode c_Mod_term 183 = .ok (.invokevirtual 216, 3) := by decide +kernel
theorem d_Mod_term_186 : decode c_Mod_term 186 = .ok (.goto 21, 3) := by decide +kernel
theorem d_Mod_term_189 : decode c_Mod_term 189 = .ok (.aload_n 0, 1) := by decide +kernel
theorem d_Mod_term_190 : decode c_Mod_term 190 = .ok (.iload_n 1, 1) := by decide +kernel
theorem d_Mod_term_191 : decode c_Mod_term 191 = .ok (.bipush 46, 2) := by decide +kernel
theorem d_Mod_term_193 : decode c_Mod_term 193 = .ok (.if_icmp .ne 7, 3) := by decide +kernel
theorem d_Mod_term_196 : decode c_Mod_term 196 = .ok (.iconst 4, 1) := by decide +kernel
theorem d_Mod_term_197 : decode c_Mod_term 197 = .ok (.goto 4, 3) := by decide +kernel
theorem d_Mod_term_200 : decode c_Mod_term 200 = .ok (.iconst 3, 1) := by decide +kernel
theorem d_Mod_term_201 : decode c_Mod_term 201 = .ok (.iload_n 1, 1) := by decide +kernel
theorem d_Mod_term_202 : decode c_Mod_term 202 = .ok (.iconst 0, 1) := by decide +kernel
theorem d_Mod_term_203 : decode c_Mod_term 203 = .ok (.iconst 0, 1) := by decide +kernel
theorem d_Mod_term_204 : decode c_Mod_term 204 = .ok (.invokevirtual 147, 3) := by decide +kernel
theorem d_Mod_term_207 : decode c_Mod_term 207 = .ok (.istore_n 2, 1) := by decide +kernel
theorem d_Mod_term_208 : decode c_Mod_term 208 = .ok (.aload_n 0, 1) := by decide +kernel
theorem d_Mod_term_209 : decode c_Mod_term 209 = .ok (.getfield 135, 3) := by decide +kernel
theorem d_Mod_term_212 : decode c_Mod_term 212 = .ok (.ifCond .ge 8, 3) := by decide +kernel
theorem d_Mod_term_215 : decode c_Mod_term 215 = .ok (.aload_n 0, 1) := by decide +kernel
theorem d_Mod_term_216 : decode c_Mod_term 216 = .ok (.iload_n 2, 1) := by decide +kernel
theorem d_Mod_term_217 : decode c_Mod_term 217 = .ok (.invokevirtual 201, 3) := by decide +kernel
theorem d_Mod_term_220 : decode c_Mod_term 220 = .ok (.return_, 1) := by decide +kernel
theorem d_Mod_read_0 : decode c_Mod_read 0 = .ok (.aload_n 0, 1) := by decide +kernel
theorem d_Mod_read_1 : decode c_Mod_read 1 = .ok (.iconst 0, 1) := by decide +kernel
theorem d_Mod_read_2 : decode c_Mod_read 2 = .ok (.putfield 138, 3) := by decide +kernel
theorem d_Mod_read_5 : decode c_Mod_read 5 = .ok (.aload_n 0, 1) := by decide +kernel
theorem d_Mod_read_6 : decode c_Mod_read 6 = .ok (.iconst 0, 1) := by decide +kernel
theorem d_Mod_read_7 : decode c_Mod_read 7 = .ok (.putfield 141, 3) := by decide +kernel
theorem d_Mod_read_10 : decode c_Mod_read 10 = .ok (.aload_n 0, 1) := by decide +kernel
theorem d_Mod_read_11 : decode c_Mod_read 11 = .ok (.iconst 0, 1) := by decide +kernel
theorem d_Mod_read_12 : decode c_Mod_read 12 = .ok (.putfield 183, 3) := by decide +kernel
theorem d_Mod_read_15 : decode c_Mod_read 15 = .ok (.aload_n 0, 1) := by decide +kernel
theorem d_Mod_read_16 : decode c_Mod_read 16 = .ok (.iconst 0, 1) := by decide +kernel
theorem d_Mod_read_17 : decode c_Mod_read 17 = .ok (.putfield 129, 3) := by decide +kernel
theorem d_Mod_read_20 : decode c_Mod_read 20 = .ok (.aload_n 0, 1) := by decide +kernel
theorem d_Mod_read_21 : decode c_Mod_read 21 = .ok (.iconst (-1), 1) := by decide +kernel
theorem d_Mod_read_22 : decode c_Mod_read 22 = .ok (.putfield 135, 3) := by decide +kernel
theorem d_Mod_read_25 : decode c_Mod_read 25 = .ok (.aload_n 0, 1) := by decide +kernel
theorem d_Mod_read_26 : decode c_Mod_read 26 = .ok (.iconst 0, 1) := by decide +kernel
theorem d_Mod_read_27 : decode c_Mod_read 27 = .ok (.putfield 144, 3) := by decide +kernel
theorem d_Mod_read_30 : decode c_Mod_read 30 = .ok (.aload_n 0, 1) := by decide +kernel
theorem d_Mod_read_31 : decode c_Mod_read 31 = .ok (.iconst (-1), 1) := by decide +kernel
theorem d_Mod_read_32 : decode c_Mod_read 32 = .ok (.invokevirtual 198, 3) := by decide +kernel
theorem d_Mod_read_35 : decode c_Mod_read 35 = .ok (.aload_n 0, 1) := by decide +kernel
theorem d_Mod_read_36 : decode c_Mod_read 36 = .ok (.getfield 129, 3) := by decide +kernel
theorem d_Mod_read_39 : decode c_Mod_read 39 = .ok (.aload_n 0, 1) := by decide +kernel
theorem d_Mod_read_40 : decode c_Mod_read 40 = .ok (.getfield 132, 3) := by decide +kernel
theorem d_Mod_read_43 : decode c_Mod_read 43 = .ok (.if_icmp .ge 17, 3) := by decide +kernel
theorem d_Mod_read_46 : decode c_Mod_read 46 = .ok (.aload_n 0, 1) := by decide +kernel
theorem d_Mod_read_47 : decode c_Mod_read 47 = .ok (.getfield 135, 3) := by decide +kernel
theorem d_Mod_read_50 : decode c_Mod_read 50 = .ok (.ifCond .ge 10, 3) := by decide +kernel
theorem d_Mod_read_53 : decode c_Mod_read 53 = .ok (.aload_n 0, 1) := by decide +kernel
theorem d_Mod_read_54 : decode c_Mod_read 54 = .ok (.invokevirtual 219, 3) := by decide +kernel
theorem d_Mod_read_57 : decode c_Mod_read 57 = .ok (.goto (-22), 3) := by decide +kernel
theorem d_Mod_read_60 : decode c_Mod_read 60 = .ok (.aload_n 0, 1) := by decide +kernel
theorem d_Mod_read_61 : decode c_Mod_read 61 = .ok (.getfield 144, 3) := by decide +kernel
theorem d_Mod_read_64 : decode c_Mod_read 64 = .ok (.ifCond .le 11, 3) := by decide +kernel
theorem d_Mod_read_67 : decode c_Mod_read 67 = .ok (.aload_n 0, 1) := by decide +kernel
theorem d_Mod_read_68 : decode c_Mod_read 68 = .ok (.aload_n 0, 1) := by decide +kernel
theorem d_Mod_read_69 : decode c_Mod_read 69 = .ok (.getfield 132, 3) := by decide +kernel
theorem d_Mod_read_72 : decode c_Mod_read 72 = .ok (.invokevirtual 165, 3) := by decide +kernel
theorem d_Mod_read_75 : decode c_Mod_read 75 = .ok (.iconst 0, 1) := by decide +kernel
theorem d_Mod_read_76 : decode c_Mod_read 76 = .ok (.istore_n 1, 1) := by decide +kernel
theorem d_Mod_read_77 : decode c_Mod_read 77 = .ok (.iload_n 1, 1) := by decide +kernel
theorem d_Mod_read_78 : decode c_Mod_read 78 = .ok (.aload_n 0, 1) := by decide +kernel
theorem d_Mod_read_79 : decode c_Mod_read 79 = .ok (.getfield 138, 3) := by decide +kernel
theorem d_Mod_read_82 : decode c_Mod_read 82 = .ok (.if_icmp .ge 43, 3) := by decide +kernel
theorem d_Mod_read_85 : decode c_Mod_read 85 = .ok (.aload_n 0, 1) := by decide +kernel
theorem d_Mod_read_86 : decode c_Mod_read 86 = .ok (.getfield 23, 3) := by decide +kernel
theorem d_Mod_read_89 : decode c_Mod_read 89 = .ok (.iload_n 1, 1) := by decide +kernel
theorem d_Mod_read_90 : decode c_Mod_read 90 = .ok (.iaload, 1) := by decide +kernel
theorem d_Mod_read_91 : decode c_Mod_read 91 = .ok (.bipush 7, 2) := by decide +kernel
theorem d_Mod_read_93 : decode c_Mod_read 93 = .ok (.if_icmp .ne 26, 3) := by decide +kernel
theorem d_Mod_read_96 : decode c_Mod_read 96 = .ok (.aload_n 0, 1) := by decide +kernel
theorem d_Mod_read_97 : decode c_Mod_read 97 = .ok (.getfield 26, 3) := by decide +kernel
theorem d_Mod_read_100 : decode c_Mod_read 100 = .ok (.iload_n 1, 1) := by decide +kernel
theorem d_Mod_read_101 : decode c_Mod_read 101 = .ok (.iaload, 1) := by decide +kernel
theorem d_Mod_read_102 : decode c_Mod_read 102 = .ok (.aload_n 0, 1) := by decide +kernel
theorem d_Mod_read_103 : decode c_Mod_read 103 = .ok (.getfield 141, 3) := by decide +kernel
theorem d_Mod_read_106 : decode c_Mod_read 106 = .ok (.if_icmp .le 13, 3) := by decide +kernel
theorem d_Mod_read_109 : decode c_Mod_read 109 = .ok (.aload_n 0, 1) := by decide +kernel
theorem d_Mod_read_110 : decode c_Mod_read 110 = .ok (.aload_n 0, 1) := by decide +kernel
theorem d_Mod_read_111 : decode c_Mod_read 111 = .ok (.getfield 29, 3) := by decide +kernel
theorem d_Mod_read_114 : decode c_Mod_read 114 = .ok (.iload_n 1, 1) := by decide +kernel
theorem d_Mod_read_115 : decode c_Mod_read 115 = .ok (.iaload, 1) := by decide +kernel
theorem d_Mod_read_116 : decode c_Mod_read 116 = .ok (.invokevirtual 165, 3) := by decide +kernel
theorem d_Mod_read_119 : decode c_Mod_read 119 = .ok (.iinc 1 1, 3) := by decide +kernel
theorem d_Mod_read_122 : decode c_Mod_read 122 = .ok (.goto (-45), 3) := by decide +kernel
theorem d_Mod_read_125 : decode c_Mod_read 125 = .ok (.return_, 1) := by decide +kernel
theorem d_Mod_pattern_0 : decode c_Mod_pattern 0 = .ok (.aload_n 0, 1) := by decide +kernel
theorem d_Mod_pattern_1 : decode c_Mod_pattern 1 = .ok (.iconst 0, 1) := by decide +kernel
theorem d_Mod_pattern_2 : decode c_Mod_pattern 2 = .ok (.putfield 222, 3) := by decide +kernel
theorem d_Mod_pattern_5 : decode c_Mod_pattern 5 = .ok (.aload_n 0, 1) := by decide +kernel
theorem d_Mod_pattern_6 : decode c_Mod_pattern 6 = .ok (.iconst 0, 1) := by decide +kernel
theorem d_Mod_pattern_7 : decode c_Mod_pattern 7 = .ok (.putfield 226, 3) := by decide +kernel
theorem d_Mod_pattern_10 : decode c_Mod_pattern 10 = .ok (.aload_n 0, 1) := by decide +kernel
theorem d_Mod_pattern_11 : decode c_Mod_pattern 11 = .ok (.aload_n 0, 1) := by decide +kernel
theorem d_Mod_pattern_12 : decode c_Mod_pattern 12 = .ok (.getfield 107, 3) := by decide +kernel
theorem d_Mod_pattern_15 : decode c_Mod_pattern 15 = .ok (.putfield 132, 3) := by decide +kernel
theorem d_Mod_pattern_18 : decode c_Mod_pattern 18 = .ok (.aload_n 0, 1) := by decide +kernel
theorem d_Mod_pattern_19 : decode c_Mod_pattern 19 = .ok (.iconst 0, 1) := by decide +kernel
theorem d_Mod_pattern_20 : decode c_Mod_pattern 20 = .ok (.putfield 107, 3) := by decide +kernel
theorem d_Mod_pattern_23 : decode c_Mod_pattern 23 = .ok (.aload_n 0, 1) := by decide +kernel
theorem d_Mod_pattern_24 : decode c_Mod_pattern 24 = .ok (.aload_n 0, 1) := by decide +kernel
theorem d_Mod_pattern_25 : decode c_Mod_pattern 25 = .ok (.getfield 132, 3) := by decide +kernel
theorem d_Mod_pattern_28 : decode c_Mod_pattern 28 = .ok (.sipush 200, 3) := by decide +kernel
theorem d_Mod_pattern_31 : decode c_Mod_pattern 31 = .ok (.if_icmp .le 9, 3) := by decide +kernel
theorem d_Mod_pattern_34 : decode c_Mod_pattern 34 = .ok (.sipush 200, 3) := by decide +kernel
theorem d_Mod_pattern_37 : decode c_Mod_pattern 37 = .ok (.goto 4, 3) := by decide +kernel
theorem d_Mod_pattern_40 : decode c_Mod_pattern 40 = .ok (.iconst (-1), 1) := by decide +kernel
theorem d_Mod_pattern_41 : decode c_Mod_pattern 41 = .ok (.putfield 16, 3) := by decide +kernel
theorem d_Mod_pattern_44 : decode c_Mod_pattern 44 = .ok (.aload_n 0, 1) := by decide +kernel
theorem d_Mod_pattern_45 : decode c_Mod_pattern 45 = .ok (.getfield 16, 3) := by decide +kernel
theorem d_Mod_pattern_48 : decode c_Mod_pattern 48 = .ok (.ifCond .ge 53, 3) := by decide +kernel
theorem d_Mod_pattern_51 : decode c_Mod_pattern 51 = .ok (.iconst 0, 1) := by decide +kernel
theorem d_Mod_pattern_52 : decode c_Mod_pattern 52 = .ok (.istore_n 3, 1) := by decide +kernel
theorem d_Mod_pattern_53 : decode c_Mod_pattern 53 = .ok (.iload_n 3, 1) := by decide +kernel
theorem d_Mod_pattern_54 : decode c_Mod_pattern 54 = .ok (.aload_n 0, 1) := by decide +kernel
theorem d_Mod_pattern_55 : decode c_Mod_pattern 55 = .ok (.getfield 132, 3) := by decide +kernel
theorem d_Mod_pattern_58 : decode c_Mod_pattern 58 = .ok (.if_icmp .ge 21, 3) := by decide +kernel
theorem d_Mod_pattern_61 : decode c_Mod_pattern 61 = .ok (.aload_n 0, 1) := by decide +kernel
theorem d_Mod_pattern_62 : decode c_Mod_pattern 62 = .ok (.getfield 13, 3) := by decide +kernel
theorem d_Mod_pattern_65 : decode c_Mod_pattern 65 = .ok (.iload_n 3, 1) := by decide +kernel
theorem d_Mod_pattern_66 : decode c_Mod_pattern 66 = .ok (.aload_n 0, 1) := by decide +kernel
theorem d_Mod_pattern_67 : decode c_Mod_pattern 67 = .ok (.getfield 9, 3) := by decide +kernel
theorem d_Mod_pattern_70 : decode c_Mod_pattern 70 = .ok (.iload_n 3, 1) := by decide +kernel
theorem d_Mod_pattern_71 : decode c_Mod_pattern 71 = .ok (.iaload, 1) := by decide +kernel
theorem d_Mod_pattern_72 : decode c_Mod_pattern 72 = .ok (.iastore, 1) := by decide +kernel
theorem d_Mod_pattern_73 : decode c_Mod_pattern 73 = .ok (.iinc 3 1, 3) := by decide +kernel
theorem d_Mod_pattern_76 : decode c_Mod_pattern 76 = .ok (.goto (-23), 3) := by decide +kernel
theorem d_Mod_pattern_79 : decode c_Mod_pattern 79 = .ok (.aload_n 0, 1) := by decide +kernel
theorem d_Mod_pattern_80 : decode c_Mod_pattern 80 = .ok (.iload_n 1, 1) := by decide +kernel
theorem d_Mod_pattern_81 : decode c_Mod_pattern 81 = .ok (.putfield 229, 3) := by decide +kernel
theorem d_Mod_pattern_84 : decode c_Mod_pattern 84 = .ok (.aload_n 0, 1) := by decide +kernel
theorem d_Mod_pattern_85 : decode c_Mod_pattern 85 = .ok (.iload_n 2, 1) := by decide +kernel
theorem d_Mod_pattern_86 : decode c_Mod_pattern 86 = .ok (.putfield 232, 3) := by decide +kernel
theorem d_Mod_pattern_89 : decode c_Mod_pattern 89 = .ok (.aload_n 0, 1) := by decide +kernel
theorem d_Mod_pattern_90 : decode c_Mod_pattern 90 = .ok (.invokevirtual 235, 3) := by decide +kernel
theorem d_Mod_pattern_93 : decode c_Mod_pattern 93 = .ok (.aload_n 0, 1) := by decide +kernel
theorem d_Mod_pattern_94 : decode c_Mod_pattern 94 = .ok (.aload_n 0, 1) := by decide +kernel
theorem d_Mod_pattern_95 : decode c_Mod_pattern 95 = .ok (.getfield 135, 3) := by decide +kernel
theorem d_Mod_pattern_98 : decode c_Mod_pattern 98 = .ok (.putfield 16, 3) := by decide +kernel
theorem d_Mod_pattern_101 : decode c_Mod_pattern 101 = .ok (.aload_n 0, 1) := by decide +kernel
theorem d_Mod_pattern_102 : decode c_Mod_pattern 102 = .ok (.aload_n 0, 1) := by decide +kernel
theorem d_Mod_pattern_103 : decode c_Mod_pattern 103 = .ok (.getfield 16, 3) := by decide +kernel
theorem d_Mod_pattern_106 : decode c_Mod_pattern 106 = .ok (.ifCond .ge 7, 3) := by decide +kernel
theorem d_Mod_pattern_109 : decode c_Mod_pattern 109 = .ok (.iconst 1, 1) := by decide +kernel
theorem d_Mod_pattern_110 : decode c_Mod_pattern 110 = .ok (.goto 4, 3) := by decide +kernel
theorem d_Mod_pattern_113 : decode c_Mod_pattern 113 = .ok (.iconst 0, 1) := by decide +kernel
theorem d_Mod_pattern_114 : decode c_Mod_pattern 114 = .ok (.putfield 226, 3) := by decide +kernel
theorem d_Mod_pattern_117 : decode c_Mod_pattern 117 = .ok (.aload_n 0, 1) := by decide +kernel
theorem d_Mod_pattern_118 : decode c_Mod_pattern 118 = .ok (.aload_n 0, 1) := by decide +kernel
theorem d_Mod_pattern_119 : decode c_Mod_pattern 119 = .ok (.getfield 226, 3) := by decide +kernel
theorem d_Mod_pattern_122 : decode c_Mod_pattern 122 = .ok (.ifCond .eq 7, 3) := by decide +kernel
theorem d_Mod_pattern_125 : decode c_Mod_pattern 125 = .ok (.iconst 0, 1) := by decide +kernel
theorem d_Mod_pattern_126 : decode c_Mod_pattern 126 = .ok (.goto 4, 3) := by decide +kernel
theorem d_Mod_pattern_129 : decode c_Mod_pattern 129 = .ok (.iconst 1, 1) := by decide +kernel
theorem d_Mod_pattern_130 : decode c_Mod_pattern 130 = .ok (.putfield 100, 3) := by decide +kernel
theorem d_Mod_pattern_133 : decode c_Mod_pattern 133 = .ok (.aload_n 0, 1) := by decide +kernel
theorem d_Mod_pattern_134 : decode c_Mod_pattern 134 = .ok (.getfield 226, 3) := by decide +kernel
theorem d_Mod_pattern_137 : decode c_Mod_pattern 137 = .ok (.ifCond .eq 10, 3) := by decide +kernel
theorem d_Mod_pattern_140 : decode c_Mod_pattern 140 = .ok (.aload_n 0, 1) := by decide +kernel
theorem d_Mod_pattern_141 : decode c_Mod_pattern 141 = .ok (.getfield 141, 3) := by decide +kernel
theorem d_Mod_pattern_144 : decode c_Mod_pattern 144 = .ok (.goto 4, 3) := by decide +kernel
theorem d_Mod_pattern_147 : decode c_Mod_pattern 147 = .ok (.iconst 0, 1) := by decide +kernel
theorem d_Mod_pattern_148 : decode c_Mod_pattern 148 = .ok (.ireturn, 1) := by decide +kernel
theorem d_Mod_place_0 : decode c_Mod_place 0 = .ok (.aload_n 0, 1) := by decide +kernel
theorem d_Mod_place_1 : decode c_Mod_place 1 = .ok (.iconst 0, 1) := by decide +kernel
theorem d_Mod_place_2 : decode c_Mod_place 2 = .ok (.putfield 100, 3) := by decide +kernel
theorem d_Mod_place_5 : decode c_Mod_place 5 = .ok (.aload_n 0, 1) := by decide +kernel
theorem d_Mod_place_6 : decode c_Mod_place 6 = .ok (.getfield 16, 3) := by decide +kernel
theorem d_Mod_place_9 : decode c_Mod_place 9 = .ok (.ireturn, 1) := by decide +kernel
theorem d_Mod_text_0 : decode c_Mod_text 0 = .ok (.aload_n 0, 1) := by decide +kernel
theorem d_Mod_text_1 : decode c_Mod_text 1 = .ok (.iconst 0, 1) := by decide +kernel
theorem d_Mod_text_2 : decode c_Mod_text 2 = .ok (.putfield 100, 3) := by decide +kernel
theorem d_Mod_text_5 : decode c_Mod_text 5 = .ok (.aload_n 0, 1) := by decide +kernel
theorem d_Mod_text_6 : decode c_Mod_text 6 = .ok (.iconst 0, 1) := by decide +kernel
theorem d_Mod_text_7 : decode c_Mod_text 7 = .ok (.putfield 222, 3) := by decide +kernel
theorem d_Mod_text_10 : decode c_Mod_text 10 = .ok (.aload_n 0, 1) := by decide +kernel
theorem d_Mod_text_11 : decode c_Mod_text 11 = .ok (.aload_n 0, 1) := by decide +kernel
theorem d_Mod_text_12 : decode c_Mod_text 12 = .ok (.getfield 107, 3) := by decide +kernel
theorem d_Mod_text_15 : decode c_Mod_text 15 = .ok (.putfield 238, 3) := by decide +kernel
theorem d_Mod_text_18 : decode c_Mod_text 18 = .ok (.iconst 0, 1) := by decide +kernel
theorem d_Mod_text_19 : decode c_Mod_text 19 = .ok (.istore_n 1, 1) := by decide +kernel
theorem d_Mod_text_20 : decode c_Mod_text 20 = .ok (.iload_n 1, 1) := by decide +kernel
theorem d_Mod_text_21 : decode c_Mod_text 21 = .ok (.aload_n 0, 1) := by decide +kernel
theorem d_Mod_text_22 : decode c_Mod_text 22 = .ok (.getfield 238, 3) := by decide +kernel
theorem d_Mod_text_25 : decode c_Mod_text 25 = .ok (.if_icmp .ge 21, 3) := by decide +kernel
theorem d_Mod_text_28 : decode c_Mod_text 28 = .ok (.aload_n 0, 1) := by decide +kernel
theorem d_Mod_text_29 : decode c_Mod_text 29 = .ok (.getfield 20, 3) := by decide +kernel
theorem d_Mod_text_32 : decode c_Mod_text 32 = .ok (.iload_n 1, 1) := by decide +kernel
theorem d_Mod_text_33 : decode c_Mod_text 33 = .ok (.aload_n 0, 1) := by decide +kernel
theorem d_Mod_text_34 : decode c_Mod_text 34 = .ok (.getfield 9, 3) := by decide +kernel
theorem d_Mod_text_37 : decode c_Mod_text 37 = .ok (.iload_n 1, 1) := by decide +kernel
theorem d_Mod_text_38 : decode c_Mod_text 38 = .ok (.iaload, 1) := by decide +kernel
theorem d_Mod_text_39 : decode c_Mod_text 39 = .ok (.iastore, 1) := by decide +kernel
theorem d_Mod_text_40 : decode c_Mod_text 40 = .ok (.iinc 1 1, 3) := by decide +kernel
theorem d_Mod_text_43 : decode c_Mod_text 43 = .ok (.goto (-23), 3) := by decide +kernel
theorem d_Mod_text_46 : decode c_Mod_text 46 = .ok (.aload_n 0, 1) := by decide +kernel
theorem d_Mod_text_47 : decode c_Mod_text 47 = .ok (.iconst 0, 1) := by decide +kernel
theorem d_Mod_text_48 : decode c_Mod_text 48 = .ok (.putfield 107, 3) := by decide +kernel
theorem d_Mod_text_51 : decode c_Mod_text 51 = .ok (.aload_n 0, 1) := by decide +kernel
theorem d_Mod_text_52 : decode c_Mod_text 52 = .ok (.getfield 238, 3) := by decide +kernel
theorem d_Mod_text_55 : decode c_Mod_text 55 = .ok (.ireturn, 1) := by decide +kernel
theorem d_Mod_row_0 : decode c_Mod_row 0 = .ok (.aload_n 0, 1) := by decide +kernel
theorem d_Mod_row_1 : decode c_Mod_row 1 = .ok (.getfield 69, 3) := by decide +kernel
theorem d_Mod_row_4 : decode c_Mod_row 4 = .ok (.aload_n 0, 1) := by decide +kernel
theorem d_Mod_row_5 : decode c_Mod_row 5 = .ok (.getfield 241, 3) := by decide +kernel
theorem d_Mod_row_8 : decode c_Mod_row 8 = .ok (.iload_n 1, 1) := by decide +kernel
theorem d_Mod_row_9 : decode c_Mod_row 9 = .ok (.iastore, 1) := by decide +kernel
theorem d_Mod_row_10 : decode c_Mod_row 10 = .ok (.aload_n 0, 1) := by decide +kernel
theorem d_Mod_row_11 : decode c_Mod_row 11 = .ok (.getfield 72, 3) := by decide +kernel
theorem d_Mod_row_14 : decode c_Mod_row 14 = .ok (.aload_n 0, 1) := by decide +kernel
theorem d_Mod_row_15 : decode c_Mod_row 15 = .ok (.getfield 241, 3) := by decide +kernel
theorem d_Mod_row_18 : decode c_Mod_row 18 = .ok (.iload_n 2, 1) := by decide +kernel
theorem d_Mod_row_19 : decode c_Mod_row 19 = .ok (.iastore, 1) := by decide +kernel
theorem d_Mod_row_20 : decode c_Mod_row 20 = .ok (.aload_n 0, 1) := by decide +kernel
theorem d_Mod_row_21 : decode c_Mod_row 21 = .ok (.getfield 75, 3) := by decide +kernel
theorem d_Mod_row_24 : decode c_Mod_row 24 = .ok (.aload_n 0, 1) := by decide +kernel
theorem d_Mod_row_25 : decode c_Mod_row 25 = .ok (.getfield 241, 3) := by decide +kernel
theorem d_Mod_row_28 : decode c_Mod_row 28 = .ok (.iload_n 3, 1) := by decide +kernel
theorem d_Mod_row_29 : decode c_Mod_row 29 = .ok (.iastore, 1) := by decide +kernel
theorem d_Mod_row_30 : decode c_Mod_row 30 = .ok (.aload_n 0, 1) := by decide +kernel
theorem d_Mod_row_31 : decode c_Mod_row 31 = .ok (.getfield 78, 3) := by decide +kernel
theorem d_Mod_row_34 : decode c_Mod_row 34 = .ok (.aload_n 0, 1) := by decide +kernel
theorem d_Mod_row_35 : decode c_Mod_row 35 = .ok (.getfield 241, 3) := by decide +kernel
theorem d_Mod_row_38 : decode c_Mod_row 38 = .ok (.iload 4, 2) := by decide +kernel
theorem d_Mod_row_40 : decode c_Mod_row 40 = .ok (.iastore, 1) := by decide +kernel
theorem d_Mod_row_41 : decode c_Mod_row 41 = .ok (.aload_n 0, 1) := by decide +kernel
theorem d_Mod_row_42 : decode c_Mod_row 42 = .ok (.getfield 81, 3) := by decide +kernel
theorem d_Mod_row_45 : decode c_Mod_row 45 = .ok (.aload_n 0, 1) := by decide +kernel
theorem d_Mod_row_46 : decode c_Mod_row 46 = .ok (.getfield 241, 3) := by decide +kernel
theorem d_Mod_row_49 : decode c_Mod_row 49 = .ok (.iload 5, 2) := by decide +kernel
theorem d_Mod_row_51 : decode c_Mod_row 51 = .ok (.iastore, 1) := by decide +kernel
theorem d_Mod_row_52 : decode c_Mod_row 52 = .ok (.aload_n 0, 1) := by decide +kernel
theorem d_Mod_row_53 : decode c_Mod_row 53 = .ok (.getfield 84, 3) := by decide +kernel
theorem d_Mod_row_56 : decode c_Mod_row 56 = .ok (.aload_n 0, 1) := by decide +kernel
theorem d_Mod_row_57 : decode c_Mod_row 57 = .ok (.getfield 241, 3) := by decide +kernel
theorem d_Mod_row_60 : decode c_Mod_row 60 = .ok (.iload 6, 2) := by decide +kernel
theorem d_Mod_row_62 : decode c_Mod_row 62 = .ok (.iastore, 1) := by decide +kernel
theorem d_Mod_row_63 : decode c_Mod_row 63 = .ok (.aload_n 0, 1) := by decide +kernel
theorem d_Mod_row_64 : decode c_Mod_row 64 = .ok (.dup, 1) := by decide +kernel
theorem d_Mod_row_65 : decode c_Mod_row 65 = .ok (.getfield 241, 3) := by decide +kernel
theorem d_Mod_row_68 : decode c_Mod_row 68 = .ok (.iconst 1, 1) := by decide +kernel
theorem d_Mod_row_69 : decode c_Mod_row 69 = .ok (.iadd, 1) := by decide +kernel
theorem d_Mod_row_70 : decode c_Mod_row 70 = .ok (.putfield 241, 3) := by decide +kernel
theorem d_Mod_row_73 : decode c_Mod_row 73 = .ok (.aload_n 0, 1) := by decide +kernel
theorem d_Mod_row_74 : decode c_Mod_row 74 = .ok (.getfield 241, 3) := by decide +kernel
theorem d_Mod_row_77 : decode c_Mod_row 77 = .ok (.iconst 1, 1) := by decide +kernel
theorem d_Mod_row_78 : decode c_Mod_row 78 = .ok (.isub, 1) := by decide +kernel
theorem d_Mod_row_79 : decode c_Mod_row 79 = .ok (.ireturn, 1) := by decide +kernel
def Mod_escapedAtom_b32 (N : Nat) (s1 : Int32) (σ : g_S) : Option (Int32 × g_S) := (Mod_assertion N s1 2 σ).bind fun q33 => some (0, q33.2)
theorem Mod_escapedAtom_p32 (ao aa : Nat → Nat) {X : g_X} (hC : gC X c_Mod_escapedAtom R_Mod 5 110 4 none) (N : Nat) (s1 : Int32) (σ : g_S) (r : Int32) (σe : g_S) (hf : Mod_escapedAtom_b32 N s1 σ = some (r, σe)) : gw X (.inl none) (LM ao aa X.2.2.1 σe) (LM ao aa X.2.2.1 σ) [(0, .ref (ao 0))] 32 [.int s1, .ref (ao 0)] := by
  unfold Mod_escapedAtom_b32 at hf
  refine gw_iconst hC 2 d_Mod_escapedAtom_32 (by decide) ?_
  obtain ⟨q33, hq33, hf⟩ := g_bind hf
  refine gw_callV hC [.int s1, .int 2] [] (Mod_assertion_m _ _ _ ao aa N _ _ _ _ _ hq33) kc_Mod_204 0 (g_lay_obj rfl) rfl rfl ⟨by decide, by decide⟩ (Nat.le_of_ble_eq_true rfl) [.int 2, .int s1, .ref (ao 0)] [] rfl rfl d_Mod_escapedAtom_33 ?_
  cases hf
  exact gw_vret hC d_Mod_escapedAtom_36
def Mod_escapedAtom_b30 (N : Nat) (σ : g_S) : Option (Int32 × g_S) := Mod_escapedAtom_b32 N 11 σ
theorem Mod_escapedAtom_p30 (ao aa : Nat → Nat) {X : g_X} (hC : gC X c_Mod_escapedAtom R_Mod 5 110 4 none) (N : Nat) (σ : g_S) (r : Int32) (σe : g_S) (hf : Mod_escapedAtom_b30 N σ = some (r, σe)) : gw X (.inl none) (LM ao aa X.2.2.1 σe) (LM ao aa X.2.2.1 σ) [(0, .ref (ao 0))] 30 [.ref (ao 0)] := by
  unfold Mod_escapedAtom_b30 at hf
  refine gw_bipush hC 11 d_Mod_escapedAtom_30 (by decide) ?_
  exact Mod_escapedAtom_p32 ao aa hC N _ _ _ _ hf
def Mod_escapedAtom_b25 (N : Nat) (σ : g_S) : Option (Int32 × g_S) := Mod_escapedAtom_b32 N 10 σ
theorem Mod_escapedAtom_p25 (ao aa : Nat → Nat) {X : g_X} (hC : gC X c_Mod_escapedAtom R_Mod 5 110 4 none) (N : Nat) (σ : g_S) (r : Int32) (σe : g_S) (hf : Mod_escapedAtom_b25 N σ = some (r, σe)) : gw X (.inl none) (LM ao aa X.2.2.1 σe) (LM ao aa X.2.2.1 σ) [(0, .ref (ao 0))] 25 [.ref (ao 0)] := by
  unfold Mod_escapedAtom_b25 at hf
  refine gw_bipush hC 10 d_Mod_escapedAtom_25 (by decide) ?_
  refine gw_goto hC 32 d_Mod_escapedAtom_27 (by decide) ?_
  exact Mod_escapedAtom_p32 ao aa hC N _ _ _ _ hf
def Mod_escapedAtom_b18 (N : Nat) (x1 : Int32) (σ : g_S) : Option (Int32 × g_S) := if x1 = 98 then Mod_escapedAtom_b25 N σ else Mod_escapedAtom_b30 N σ
theorem Mod_escapedAtom_p18 (ao aa : Nat → Nat) {X : g_X} (hC : gC X c_Mod_escapedAtom R_Mod 5 110 4 none) (N : Nat) (x1 : Int32) (σ : g_S) (r : Int32) (σe : g_S) (hf : Mod_escapedAtom_b18 N x1 σ = some (r, σe)) : gw X (.inl none) (LM ao aa X.2.2.1 σe) (LM ao aa X.2.2.1 σ) [(0, .ref (ao 0)), (1, .int x1)] 18 [] := by
  unfold Mod_escapedAtom_b18 at hf
  refine gw_aload_n hC 0 d_Mod_escapedAtom_18 rfl rfl ?_
  refine gw_iload_n hC 1 d_Mod_escapedAtom_19 rfl rfl ?_
  refine gw_bipush hC 98 d_Mod_escapedAtom_20 (by decide) ?_
  refine gw_icmp_ne hC 30 d_Mod_escapedAtom_22 (by decide) (fun hh => ?_) (fun hh => ?_)
  · rw [if_neg hh] at hf
    refine gw_lv [0] rfl ?_
    exact Mod_escapedAtom_p30 ao aa hC N _ _ _ hf
  · rw [if_pos hh] at hf
    refine gw_lv [0] rfl ?_
    exact Mod_escapedAtom_p25 ao aa hC N _ _ _ hf
def Mod_escapedAtom_b98 (N : Nat) (σ : g_S) : Option (Int32 × g_S) := some (0, σ)
theorem Mod_escapedAtom_p98 (ao aa : Nat → Nat) {X : g_X} (hC : gC X c_Mod_escapedAtom R_Mod 5 110 4 none) (N : Nat) (σ : g_S) (r : Int32) (σe : g_S) (hf : Mod_escapedAtom_b98 N σ = some (r, σe)) : gw X (.inl none) (LM ao aa X.2.2.1 σe) (LM ao aa X.2.2.1 σ) [(0, .ref (ao 0))] 98 [] := by
  unfold Mod_escapedAtom_b98 at hf
  cases hf
  exact gw_vret hC d_Mod_escapedAtom_98
def Mod_escapedAtom_b86 (N : Nat) (x2 : Int32) (s2 : Int32) (σ : g_S) : Option (Int32 × g_S) := (Mod_node N s2 (σ.1 13) x2 0 σ).bind fun q92 => (Mod_quantify N q92.1 q92.2).bind fun q95 => Mod_escapedAtom_b98 N q95.2
theorem Mod_escapedAtom_p86 (ao aa : Nat → Nat) {X : g_X} (hC : gC X c_Mod_escapedAtom R_Mod 5 110 4 none) (N : Nat) (x2 : Int32) (s2 : Int32) (σ : g_S) (r : Int32) (σe : g_S) (hf : Mod_escapedAtom_b86 N x2 s2 σ = some (r, σe)) : gw X (.inl none) (LM ao aa X.2.2.1 σe) (LM ao aa X.2.2.1 σ) [(0, .ref (ao 0)), (2, .int x2)] 86 [.int s2, .ref (ao 0), .ref (ao 0)] := by
  unfold Mod_escapedAtom_b86 at hf
  refine gw_aload_n hC 0 d_Mod_escapedAtom_86 rfl rfl ?_
  refine Mg13 hC kf_Mod_169 d_Mod_escapedAtom_87 (σ.1 13) rfl ?_
  refine gw_iload_n hC 1 d_Mod_escapedAtom_90 rfl rfl ?_
  refine gw_iconst hC 0 d_Mod_escapedAtom_91 (by decide) ?_
  obtain ⟨q92, hq92, hf⟩ := g_bind hf
  refine gw_callV hC [.int s2, .int (σ.1 13), .int x2, .int 0] [.ref (ao 0)] (Mod_node_m _ _ _ ao aa N _ _ _ _ _ _ _ hq92) kc_Mod_147 0 (g_lay_obj rfl) rfl rfl ⟨by decide, by decide⟩ (Nat.le_of_ble_eq_true rfl) [.int 0, .int x2, .int (σ.1 13), .int s2, .ref (ao 0), .ref (ao 0)] [.int q92.1, .ref (ao 0)] rfl rfl d_Mod_escapedAtom_92 ?_
  obtain ⟨q95, hq95, hf⟩ := g_bind hf
  refine gw_callV hC [.int q92.1] [] (Mod_quantify_m _ _ _ ao aa N _ _ _ _ hq95) kc_Mod_201 0 (g_lay_obj rfl) rfl rfl ⟨by decide, by decide⟩ (Nat.le_of_ble_eq_true rfl) [.int q92.1, .ref (ao 0)] [] rfl rfl d_Mod_escapedAtom_95 ?_
  refine gw_lv [0] rfl ?_
  exact Mod_escapedAtom_p98 ao aa hC N _ _ _ hf
def Mod_escapedAtom_b84 (N : Nat) (x2 : Int32) (σ : g_S) : Option (Int32 × g_S) := Mod_escapedAtom_b86 N x2 7 σ
theorem Mod_escapedAtom_p84 (ao aa : Nat → Nat) {X : g_X} (hC : gC X c_Mod_escapedAtom R_Mod 5 110 4 none) (N : Nat) (x2 : Int32) (σ : g_S) (r : Int32) (σe : g_S) (hf : Mod_escapedAtom_b84 N x2 σ = some (r, σe)) : gw X (.inl none) (LM ao aa X.2.2.1 σe) (LM ao aa X.2.2.1 σ) [(0, .ref (ao 0)), (2, .int x2)] 84 [.ref (ao 0), .ref (ao 0)] := by
  unfold Mod_escapedAtom_b84 at hf
  refine gw_bipush hC 7 d_Mod_escapedAtom_84 (by decide) ?_
  exact Mod_escapedAtom_p86 ao aa hC N _ _ _ _ _ hf
def Mod_escapedAtom_b80 (N : Nat) (x2 : Int32) (σ : g_S) : Option (Int32 × g_S) := Mod_escapedAtom_b86 N x2 5 σ
theorem Mod_escapedAtom_p80 (ao aa : Nat → Nat) {X : g_X} (hC : gC X c_Mod_escapedAtom R_Mod 5 110 4 none) (N : Nat) (x2 : Int32) (σ : g_S) (r : Int32) (σe : g_S) (hf : Mod_escapedAtom_b80 N x2 σ = some (r, σe)) : gw X (.inl none) (LM ao aa X.2.2.1 σe) (LM ao aa X.2.2.1 σ) [(0, .ref (ao 0)), (2, .int x2)] 80 [.ref (ao 0), .ref (ao 0)] := by
  unfold Mod_escapedAtom_b80 at hf
  refine gw_iconst hC 5 d_Mod_escapedAtom_80 (by decide) ?_
  refine gw_goto hC 86 d_Mod_escapedAtom_81 (by decide) ?_
  exact Mod_escapedAtom_p86 ao aa hC N _ _ _ _ _ hf
def Mod_escapedAtom_b75 (N : Nat) (x2 : Int32) (x3 : Int32) (σ : g_S) : Option (Int32 × g_S) := if x3 = 1 then Mod_escapedAtom_b80 N x2 σ else Mod_escapedAtom_b84 N x2 σ
theorem Mod_escapedAtom_p75 (ao aa : Nat → Nat) {X : g_X} (hC : gC X c_Mod_escapedAtom R_Mod 5 110 4 none) (N : Nat) (x2 : Int32) (x3 : Int32) (σ : g_S) (r : Int32) (σe : g_S) (hf : Mod_escapedAtom_b75 N x2 x3 σ = some (r, σe)) : gw X (.inl none) (LM ao aa X.2.2.1 σe) (LM ao aa X.2.2.1 σ) [(0, .ref (ao 0)), (2, .int x2), (3, .int x3)] 75 [.ref (ao 0), .ref (ao 0)] := by
  unfold Mod_escapedAtom_b75 at hf
  refine gw_iload_n hC 2 d_Mod_escapedAtom_75 rfl rfl ?_
  refine gw_iconst hC 1 d_Mod_escapedAtom_76 (by decide) ?_
  refine gw_icmp_ne hC 84 d_Mod_escapedAtom_77 (by decide) (fun hh => ?_) (fun hh => ?_)
  · rw [if_neg hh] at hf
    refine gw_lv [0, 1] rfl ?_
    exact Mod_escapedAtom_p84 ao aa hC N _ _ _ _ hf
  · rw [if_pos hh] at hf
    refine gw_lv [0, 1] rfl ?_
    exact Mod_escapedAtom_p80 ao aa hC N _ _ _ _ hf
def Mod_escapedAtom_b71 (N : Nat) (x2 : Int32) (σ : g_S) : Option (Int32 × g_S) := Mod_escapedAtom_b86 N x2 3 σ
theorem Mod_escapedAtom_p71 (ao aa : Nat → Nat) {X : g_X} (hC : gC X c_Mod_escapedAtom R_Mod 5 110 4 none) (N : Nat) (x2 : Int32) (σ : g_S) (r : Int32) (σe : g_S) (hf : Mod_escapedAtom_b71 N x2 σ = some (r, σe)) : gw X (.inl none) (LM ao aa X.2.2.1 σe) (LM ao aa X.2.2.1 σ) [(0, .ref (ao 0)), (2, .int x2)] 71 [.ref (ao 0), .ref (ao 0)] := by
  unfold Mod_escapedAtom_b71 at hf
  refine gw_iconst hC 3 d_Mod_escapedAtom_71 (by decide) ?_
  refine gw_goto hC 86 d_Mod_escapedAtom_72 (by decide) ?_
  exact Mod_escapedAtom_p86 ao aa hC N _ _ _ _ _ hf
def Mod_escapedAtom_b65 (N : Nat) (x2 : Int32) (x3 : Int32) (σ : g_S) : Option (Int32 × g_S) := if x3 = 0 then Mod_escapedAtom_b71 N x2 σ else Mod_escapedAtom_b75 N x2 x3 σ
theorem Mod_escapedAtom_p65 (ao aa : Nat → Nat) {X : g_X} (hC : gC X c_Mod_escapedAtom R_Mod 5 110 4 none) (N : Nat) (x2 : Int32) (x3 : Int32) (σ : g_S) (r : Int32) (σe : g_S) (hf : Mod_escapedAtom_b65 N x2 x3 σ = some (r, σe)) : gw X (.inl none) (LM ao aa X.2.2.1 σe) (LM ao aa X.2.2.1 σ) [(0, .ref (ao 0)), (2, .int x2), (3, .int x3)] 65 [] := by
  unfold Mod_escapedAtom_b65 at hf
  refine gw_aload_n hC 0 d_Mod_escapedAtom_65 rfl rfl ?_
  refine gw_aload_n hC 0 d_Mod_escapedAtom_66 rfl rfl ?_
  refine gw_iload_n hC 2 d_Mod_escapedAtom_67 rfl rfl ?_
  refine gw_if_ne hC 75 d_Mod_escapedAtom_68 (by decide) (fun hh => ?_) (fun hh => ?_)
  · rw [if_neg hh] at hf
    exact Mod_escapedAtom_p75 ao aa hC N _ _ _ _ _ hf
  · rw [if_pos hh] at hf
    refine gw_lv [0, 1] rfl ?_
    exact Mod_escapedAtom_p71 ao aa hC N _ _ _ _ hf
def Mod_escapedAtom_b37 (N : Nat) (σ : g_S) : Option (Int32 × g_S) := (Mod_escape N 0 (gF σ 11 ((σ.1 11) + 1))).bind fun q54 => if 0 ≤ (q54.2.1 12) then Mod_escapedAtom_b98 N q54.2 else Mod_escapedAtom_b65 N ((σ.1 11) + 1) q54.1 q54.2
theorem Mod_escapedAtom_p37 (ao aa : Nat → Nat) {X : g_X} (hC : gC X c_Mod_escapedAtom R_Mod 5 110 4 none) (N : Nat) (σ : g_S) (r : Int32) (σe : g_S) (hf : Mod_escapedAtom_b37 N σ = some (r, σe)) : gw X (.inl none) (LM ao aa X.2.2.1 σe) (LM ao aa X.2.2.1 σ) [(0, .ref (ao 0))] 37 [] := by
  unfold Mod_escapedAtom_b37 at hf
  refine gw_aload_n hC 0 d_Mod_escapedAtom_37 rfl rfl ?_
  refine gw_dup hC d_Mod_escapedAtom_38 rfl ?_
  refine Mg11 hC kf_Mod_129 d_Mod_escapedAtom_39 (σ.1 11) rfl ?_
  refine gw_iconst hC 1 d_Mod_escapedAtom_42 (by decide) ?_
  refine gw_iadd hC d_Mod_escapedAtom_43 ?_
  refine Mp11 hC kf_Mod_129 d_Mod_escapedAtom_44 ?_
  refine gw_aload_n hC 0 d_Mod_escapedAtom_47 rfl rfl ?_
  refine Mg11 hC kf_Mod_129 d_Mod_escapedAtom_48 ((σ.1 11) + 1) rfl ?_
  refine gw_istore_n hC [(2, .int ((σ.1 11) + 1)), (0, .ref (ao 0))] d_Mod_escapedAtom_51 rfl (by decide) rfl ?_
  refine gw_aload_n hC 1 d_Mod_escapedAtom_52 rfl rfl ?_
  refine gw_iconst hC 0 d_Mod_escapedAtom_53 (by decide) ?_
  obtain ⟨q54, hq54, hf⟩ := g_bind hf
  refine gw_callV hC [.int 0] [] (Mod_escape_m _ _ _ ao aa N _ _ _ _ hq54) kc_Mod_179 0 (g_lay_obj rfl) rfl rfl ⟨by decide, by decide⟩ (Nat.le_of_ble_eq_true rfl) [.int 0, .ref (ao 0)] [.int q54.1] rfl rfl d_Mod_escapedAtom_54 ?_
  refine gw_istore_n hC [(3, .int q54.1), (2, .int ((σ.1 11) + 1)), (0, .ref (ao 0))] d_Mod_escapedAtom_57 rfl (by decide) rfl ?_
  refine gw_aload_n hC 2 d_Mod_escapedAtom_58 rfl rfl ?_
  refine Mg12 hC kf_Mod_135 d_Mod_escapedAtom_59 (q54.2.1 12) rfl ?_
  refine gw_if_ge hC 98 d_Mod_escapedAtom_62 (by decide) (fun hh => ?_) (fun hh => ?_)
  · rw [if_pos hh] at hf
    refine gw_lv [2] rfl ?_
    exact Mod_escapedAtom_p98 ao aa hC N _ _ _ hf
  · rw [if_neg hh] at hf
    refine gw_lv [2, 1, 0] rfl ?_
    exact Mod_escapedAtom_p65 ao aa hC N _ _ _ _ _ hf
def Mod_escapedAtom_b12 (N : Nat) (x1 : Int32) (σ : g_S) : Option (Int32 × g_S) := if x1 = 66 then Mod_escapedAtom_b18 N x1 σ else Mod_escapedAtom_b37 N σ
theorem Mod_escapedAtom_p12 (ao aa : Nat → Nat) {X : g_X} (hC : gC X c_Mod_escapedAtom R_Mod 5 110 4 none) (N : Nat) (x1 : Int32) (σ : g_S) (r : Int32) (σe : g_S) (hf : Mod_escapedAtom_b12 N x1 σ = some (r, σe)) : gw X (.inl none) (LM ao aa X.2.2.1 σe) (LM ao aa X.2.2.1 σ) [(0, .ref (ao 0)), (1, .int x1)] 12 [] := by
  unfold Mod_escapedAtom_b12 at hf
  refine gw_iload_n hC 1 d_Mod_escapedAtom_12 rfl rfl ?_
  refine gw_bipush hC 66 d_Mod_escapedAtom_13 (by decide) ?_
  refine gw_icmp_ne hC 37 d_Mod_escapedAtom_15 (by decide) (fun hh => ?_) (fun hh => ?_)
  · rw [if_neg hh] at hf
    refine gw_lv [0] rfl ?_
    exact Mod_escapedAtom_p37 ao aa hC N _ _ _ hf
  · rw [if_pos hh] at hf
    exact Mod_escapedAtom_p18 ao aa hC N _ _ _ _ hf
def Mod_escapedAtom_b0 (N : Nat) (σ : g_S) : Option (Int32 × g_S) := (Mod_see N 1 σ).bind fun q2 => if q2.1 = 98 then Mod_escapedAtom_b18 N q2.1 q2.2 else Mod_escapedAtom_b12 N q2.1 q2.2
theorem Mod_escapedAtom_p0 (ao aa : Nat → Nat) {X : g_X} (hC : gC X c_Mod_escapedAtom R_Mod 5 110 4 none) (N : Nat) (σ : g_S) (r : Int32) (σe : g_S) (hf : Mod_escapedAtom_b0 N σ = some (r, σe)) : gw X (.inl none) (LM ao aa X.2.2.1 σe) (LM ao aa X.2.2.1 σ) [(0, .ref (ao 0))] 0 [] := by
  unfold Mod_escapedAtom_b0 at hf
  refine gw_aload_n hC 0 d_Mod_escapedAtom_0 rfl rfl ?_
  refine gw_iconst hC 1 d_Mod_escapedAtom_1 (by decide) ?_
  obtain ⟨q2, hq2, hf⟩ := g_bind hf
  refine gw_callV hC [.int 1] [] (Mod_see_m _ _ _ ao aa N _ _ _ _ hq2) kc_Mod_158 0 (g_lay_obj rfl) rfl rfl ⟨by decide, by decide⟩ (Nat.le_of_ble_eq_true rfl) [.int 1, .ref (ao 0)] [.int q2.1] rfl rfl d_Mod_escapedAtom_2 ?_
  refine gw_istore_n hC [(1, .int q2.1), (0, .ref (ao 0))] d_Mod_escapedAtom_5 rfl (by decide) rfl ?_
  refine gw_iload_n hC 0 d_Mod_escapedAtom_6 rfl rfl ?_
  refine gw_bipush hC 98 d_Mod_escapedAtom_7 (by decide) ?_
  refine gw_icmp_eq hC 18 d_Mod_escapedAtom_9 (by decide) (fun hh => ?_) (fun hh => ?_)
  · rw [if_pos hh] at hf
    refine gw_lv [1, 0] rfl ?_
    exact Mod_escapedAtom_p18 ao aa hC N _ _ _ _ hf
  · rw [if_neg hh] at hf
    refine gw_lv [1, 0] rfl ?_
    exact Mod_escapedAtom_p12 ao aa hC N _ _ _ _ hf
def Mod_escapedAtom (N : Nat) (σ : g_S) : Option (Int32 × g_S) := Mod_escapedAtom_b0 N  σ
theorem Mod_escapedAtom_m (l : Launch) (D : va_G) (cA : ClassId) (ao aa : Nat → Nat) (N : Nat) (σ : g_S) (r : Int32) (σe : g_S) (hf : Mod_escapedAtom N σ = some (r, σe)) : Mt l D cA y_Mod_escapedAtom c_Mod_escapedAtom 4 none 5 110 [.ref (ao 0)] (LM ao aa cA σ) none (LM ao aa cA σe) := by
  refine g_met (by decide +kernel) (by simp [lg_sl, Value.category]) (fun X e1 e2 e3 hC => ?_)
  subst e1 e2 e3
  refine gw_lv [0] rfl ?_
  exact Mod_escapedAtom_p0 ao aa hC N _ (r) _ hf
def Mod_term_b220 (N : Nat) (σ : g_S) : Option (Int32 × g_S) := some (0, σ)
theorem Mod_term_p220 (ao aa : Nat → Nat) {X : g_X} (hC : gC X c_Mod_term R_Mod 7 156 3 none) (N : Nat) (σ : g_S) (r : Int32) (σe : g_S) (hf : Mod_term_b220 N σ = some (r, σe)) : gw X (.inl none) (LM ao aa X.2.2.1 σe) (LM ao aa X.2.2.1 σ) [(0, .ref (ao 0))] 220 [] := by
  unfold Mod_term_b220 at hf
  cases hf
  exact gw_vret hC d_Mod_term_220
def Mod_term_b99 (N : Nat) (s1 : Int32) (σ : g_S) : Option (Int32 × g_S) := (Mod_assertion N s1 1 σ).bind fun q100 => Mod_term_b220 N q100.2
theorem Mod_term_p99 (ao aa : Nat → Nat) {X : g_X} (hC : gC X c_Mod_term R_Mod 7 156 3 none) (N : Nat) (s1 : Int32) (σ : g_S) (r : Int32) (σe : g_S) (hf : Mod_term_b99 N s1 σ = some (r, σe)) : gw X (.inl none) (LM ao aa X.2.2.1 σe) (LM ao aa X.2.2.1 σ) [(0, .ref (ao 0))] 99 [.int s1, .ref (ao 0)] := by
  unfold Mod_term_b99 at hf
  refine gw_iconst hC 1 d_Mod_term_99 (by decide) ?_
  obtain ⟨q100, hq100, hf⟩ := g_bind hf
  refine gw_callV hC [.int s1, .int 1] [] (Mod_assertion_m _ _ _ ao aa N _ _ _ _ _ hq100) kc_Mod_204 0 (g_lay_obj rfl) rfl rfl ⟨by decide, by decide⟩ (Nat.le_of_ble_eq_true rfl) [.int 1, .int s1, .ref (ao 0)] [] rfl rfl d_Mod_term_100 ?_
  refine gw_goto hC 220 d_Mod_term_103 (by decide) ?_
  exact Mod_term_p220 ao aa hC N _ _ _ hf
def Mod_term_b97 (N : Nat) (σ : g_S) : Option (Int32 × g_S) := Mod_term_b99 N 9 σ
theorem Mod_term_p97 (ao aa : Nat → Nat) {X : g_X} (hC : gC X c_Mod_term R_Mod 7 156 3 none) (N : Nat) (σ : g_S) (r : Int32) (σe : g_S) (hf : Mod_term_b97 N σ = some (r, σe)) : gw X (.inl none) (LM ao aa X.2.2.1 σe) (LM ao aa X.2.2.1 σ) [(0, .ref (ao 0))] 97 [.ref (ao 0)] := by
  unfold Mod_term_b97 at hf
  refine gw_bipush hC 9 d_Mod_term_97 (by decide) ?_
  exact Mod_term_p99 ao aa hC N _ _ _ _ hf
def Mod_term_b92 (N : Nat) (σ : g_S) : Option (Int32 × g_S) := Mod_term_b99 N 8 σ
theorem Mod_term_p92 (ao aa : Nat → Nat) {X : g_X} (hC : gC X c_Mod_term R_Mod 7 156 3 none) (N : Nat) (σ : g_S) (r : Int32) (σe : g_S) (hf : Mod_term_b92 N σ = some (r, σe)) : gw X (.inl none) (LM ao aa X.2.2.1 σe) (LM ao aa X.2.2.1 σ) [(0, .ref (ao 0))] 92 [.ref (ao 0)] := by
  unfold Mod_term_b92 at hf
  refine gw_bipush hC 8 d_Mod_term_92 (by decide) ?_
  refine gw_goto hC 99 d_Mod_term_94 (by decide) ?_
  exact Mod_term_p99 ao aa hC N _ _ _ _ hf
def Mod_term_b85 (N : Nat) (x1 : Int32) (σ : g_S) : Option (Int32 × g_S) := if x1 = 94 then Mod_term_b92 N σ else Mod_term_b97 N σ
theorem Mod_term_p85 (ao aa : Nat → Nat) {X : g_X} (hC : gC X c_Mod_term R_Mod 7 156 3 none) (N : Nat) (x1 : Int32) (σ : g_S) (r : Int32) (σe : g_S) (hf : Mod_term_b85 N x1 σ = some (r, σe)) : gw X (.inl none) (LM ao aa X.2.2.1 σe) (LM ao aa X.2.2.1 σ) [(0, .ref (ao 0)), (1, .int x1)] 85 [] := by
  unfold Mod_term_b85 at hf
  refine gw_aload_n hC 0 d_Mod_term_85 rfl rfl ?_
  refine gw_iload_n hC 1 d_Mod_term_86 rfl rfl ?_
  refine gw_bipush hC 94 d_Mod_term_87 (by decide) ?_
  refine gw_icmp_ne hC 97 d_Mod_term_89 (by decide) (fun hh => ?_) (fun hh => ?_)
  · rw [if_neg hh] at hf
    refine gw_lv [0] rfl ?_
    exact Mod_term_p97 ao aa hC N _ _ _ hf
  · rw [if_pos hh] at hf
    refine gw_lv [0] rfl ?_
    exact Mod_term_p92 ao aa hC N _ _ _ hf
def Mod_term_b155 (N : Nat) (σ : g_S) : Option (Int32 × g_S) := (Mod_fail N (σ.1 11) σ).bind fun q160 => Mod_term_b220 N q160.2
theorem Mod_term_p155 (ao aa : Nat → Nat) {X : g_X} (hC : gC X c_Mod_term R_Mod 7 156 3 none) (N : Nat) (σ : g_S) (r : Int32) (σe : g_S) (hf : Mod_term_b155 N σ = some (r, σe)) : gw X (.inl none) (LM ao aa X.2.2.1 σe) (LM ao aa X.2.2.1 σ) [(0, .ref (ao 0))] 155 [] := by
  unfold Mod_term_b155 at hf
  refine gw_aload_n hC 0 d_Mod_term_155 rfl rfl ?_
  refine gw_aload_n hC 0 d_Mod_term_156 rfl rfl ?_
  refine Mg11 hC kf_Mod_129 d_Mod_term_157 (σ.1 11) rfl ?_
  obtain ⟨q160, hq160, hf⟩ := g_bind hf
  refine gw_callV hC [.int (σ.1 11)] [] (Mod_fail_m _ _ _ ao aa N _ _ _ _ hq160) kc_Mod_165 0 (g_lay_obj rfl) rfl rfl ⟨by decide, by decide⟩ (Nat.le_of_ble_eq_true rfl) [.int (σ.1 11), .ref (ao 0)] [] rfl rfl d_Mod_term_160 ?_
  refine gw_goto hC 220 d_Mod_term_163 (by decide) ?_
  exact Mod_term_p220 ao aa hC N _ _ _ hf
def Mod_term_b215 (N : Nat) (x2 : Int32) (σ : g_S) : Option (Int32 × g_S) := (Mod_quantify N x2 σ).bind fun q217 => Mod_term_b220 N q217.2
theorem Mod_term_p215 (ao aa : Nat → Nat) {X : g_X} (hC : gC X c_Mod_term R_Mod 7 156 3 none) (N : Nat) (x2 : Int32) (σ : g_S) (r : Int32) (σe : g_S) (hf : Mod_term_b215 N x2 σ = some (r, σe)) : gw X (.inl none) (LM ao aa X.2.2.1 σe) (LM ao aa X.2.2.1 σ) [(0, .ref (ao 0)), (2, .int x2)] 215 [] := by
  unfold Mod_term_b215 at hf
  refine gw_aload_n hC 0 d_Mod_term_215 rfl rfl ?_
  refine gw_iload_n hC 1 d_Mod_term_216 rfl rfl ?_
  obtain ⟨q217, hq217, hf⟩ := g_bind hf
  refine gw_callV hC [.int x2] [] (Mod_quantify_m _ _ _ ao aa N _ _ _ _ hq217) kc_Mod_201 0 (g_lay_obj rfl) rfl rfl ⟨by decide, by decide⟩ (Nat.le_of_ble_eq_true rfl) [.int x2, .ref (ao 0)] [] rfl rfl d_Mod_term_217 ?_
  refine gw_lv [0] rfl ?_
  exact Mod_term_p220 ao aa hC N _ _ _ hf
def Mod_term_b207 (N : Nat) (s0 : Int32) (σ : g_S) : Option (Int32 × g_S) := if 0 ≤ (σ.1 12) then Mod_term_b220 N σ else Mod_term_b215 N s0 σ
theorem Mod_term_p207 (ao aa : Nat → Nat) {X : g_X} (hC : gC X c_Mod_term R_Mod 7 156 3 none) (N : Nat) (s0 : Int32) (σ : g_S) (r : Int32) (σe : g_S) (hf : Mod_term_b207 N s0 σ = some (r, σe)) : gw X (.inl none) (LM ao aa X.2.2.1 σe) (LM ao aa X.2.2.1 σ) [(0, .ref (ao 0))] 207 [.int s0] := by
  unfold Mod_term_b207 at hf
  refine gw_istore_n hC [(2, .int s0), (0, .ref (ao 0))] d_Mod_term_207 rfl (by decide) rfl ?_
  refine gw_aload_n hC 1 d_Mod_term_208 rfl rfl ?_
  refine Mg12 hC kf_Mod_135 d_Mod_term_209 (σ.1 12) rfl ?_
  refine gw_if_ge hC 220 d_Mod_term_212 (by decide) (fun hh => ?_) (fun hh => ?_)
  · rw [if_pos hh] at hf
    refine gw_lv [1] rfl ?_
    exact Mod_term_p220 ao aa hC N _ _ _ hf
  · rw [if_neg hh] at hf
    refine gw_lv [1, 0] rfl ?_
    exact Mod_term_p215 ao aa hC N _ _ _ _ hf
def Mod_term_b201 (N : Nat) (x1 : Int32) (s1 : Int32) (σ : g_S) : Option (Int32 × g_S) := (Mod_node N s1 x1 0 0 σ).bind fun q204 => Mod_term_b207 N q204.1 q204.2
theorem Mod_term_p201 (ao aa : Nat → Nat) {X : g_X} (hC : gC X c_Mod_term R_Mod 7 156 3 none) (N : Nat) (x1 : Int32) (s1 : Int32) (σ : g_S) (r : Int32) (σe : g_S) (hf : Mod_term_b201 N x1 s1 σ = some (r, σe)) : gw X (.inl none) (LM ao aa X.2.2.1 σe) (LM ao aa X.2.2.1 σ) [(0, .ref (ao 0)), (1, .int x1)] 201 [.int s1, .ref (ao 0)] := by
  unfold Mod_term_b201 at hf
  refine gw_iload_n hC 1 d_Mod_term_201 rfl rfl ?_
  refine gw_iconst hC 0 d_Mod_term_202 (by decide) ?_
  refine gw_iconst hC 0 d_Mod_term_203 (by decide) ?_
  obtain ⟨q204, hq204, hf⟩ := g_bind hf
  refine gw_callV hC [.int s1, .int x1, .int 0, .int 0] [] (Mod_node_m _ _ _ ao aa N _ _ _ _ _ _ _ hq204) kc_Mod_147 0 (g_lay_obj rfl) rfl rfl ⟨by decide, by decide⟩ (Nat.le_of_ble_eq_true rfl) [.int 0, .int 0, .int x1, .int s1, .ref (ao 0)] [.int q204.1] rfl rfl d_Mod_term_204 ?_
  refine gw_lv [0] rfl ?_
  exact Mod_term_p207 ao aa hC N _ _ _ _ hf
def Mod_term_b200 (N : Nat) (x1 : Int32) (σ : g_S) : Option (Int32 × g_S) := Mod_term_b201 N x1 3 σ
theorem Mod_term_p200 (ao aa : Nat → Nat) {X : g_X} (hC : gC X c_Mod_term R_Mod 7 156 3 none) (N : Nat) (x1 : Int32) (σ : g_S) (r : Int32) (σe : g_S) (hf : Mod_term_b200 N x1 σ = some (r, σe)) : gw X (.inl none) (LM ao aa X.2.2.1 σe) (LM ao aa X.2.2.1 σ) [(0, .ref (ao 0)), (1, .int x1)] 200 [.ref (ao 0)] := by
  unfold Mod_term_b200 at hf
  refine gw_iconst hC 3 d_Mod_term_200 (by decide) ?_
  exact Mod_term_p201 ao aa hC N _ _ _ _ _ hf
def Mod_term_b196 (N : Nat) (x1 : Int32) (σ : g_S) : Option (Int32 × g_S) := Mod_term_b201 N x1 4 σ
theorem Mod_term_p196 (ao aa : Nat → Nat) {X : g_X} (hC : gC X c_Mod_term R_Mod 7 156 3 none) (N : Nat) (x1 : Int32) (σ : g_S) (r : Int32) (σe : g_S) (hf : Mod_term_b196 N x1 σ = some (r, σe)) : gw X (.inl none) (LM ao aa X.2.2.1 σe) (LM ao aa X.2.2.1 σ) [(0, .ref (ao 0)), (1, .int x1)] 196 [.ref (ao 0)] := by
  unfold Mod_term_b196 at hf
  refine gw_iconst hC 4 d_Mod_term_196 (by decide) ?_
  refine gw_goto hC 201 d_Mod_term_197 (by decide) ?_
  exact Mod_term_p201 ao aa hC N _ _ _ _ _ hf
def Mod_term_b189 (N : Nat) (x1 : Int32) (σ : g_S) : Option (Int32 × g_S) := if x1 = 46 then Mod_term_b196 N x1 σ else Mod_term_b200 N x1 σ
theorem Mod_term_p189 (ao aa : Nat → Nat) {X : g_X} (hC : gC X c_Mod_term R_Mod 7 156 3 none) (N : Nat) (x1 : Int32) (σ : g_S) (r : Int32) (σe : g_S) (hf : Mod_term_b189 N x1 σ = some (r, σe)) : gw X (.inl none) (LM ao aa X.2.2.1 σe) (LM ao aa X.2.2.1 σ) [(0, .ref (ao 0)), (1, .int x1)] 189 [] := by
  unfold Mod_term_b189 at hf
  refine gw_aload_n hC 0 d_Mod_term_189 rfl rfl ?_
  refine gw_iload_n hC 1 d_Mod_term_190 rfl rfl ?_
  refine gw_bipush hC 46 d_Mod_term_191 (by decide) ?_
  refine gw_icmp_ne hC 200 d_Mod_term_193 (by decide) (fun hh => ?_) (fun hh => ?_)
  · rw [if_neg hh] at hf
    exact Mod_term_p200 ao aa hC N _ _ _ _ hf
  · rw [if_pos hh] at hf
    exact Mod_term_p196 ao aa hC N _ _ _ _ hf
def Mod_term_b182 (N : Nat) (σ : g_S) : Option (Int32 × g_S) := (Mod_aClass N σ).bind fun q183 => Mod_term_b207 N q183.1 q183.2
theorem Mod_term_p182 (ao aa : Nat → Nat) {X : g_X} (hC : gC X c_Mod_term R_Mod 7 156 3 none) (N : Nat) (σ : g_S) (r : Int32) (σe : g_S) (hf : Mod_term_b182 N σ = some (r, σe)) : gw X (.inl none) (LM ao aa X.2.2.1 σe) (LM ao aa X.2.2.1 σ) [(0, .ref (ao 0))] 182 [] := by
  unfold Mod_term_b182 at hf
  refine gw_aload_n hC 0 d_Mod_term_182 rfl rfl ?_
  obtain ⟨q183, hq183, hf⟩ := g_bind hf
  refine gw_callV hC [] [] (Mod_aClass_m _ _ _ ao aa N _ _ _ hq183) kc_Mod_216 0 (g_lay_obj rfl) rfl rfl ⟨by decide, by decide⟩ (Nat.le_of_ble_eq_true rfl) [.ref (ao 0)] [.int q183.1] rfl rfl d_Mod_term_183 ?_
  refine gw_goto hC 207 d_Mod_term_186 (by decide) ?_
  exact Mod_term_p207 ao aa hC N _ _ _ _ hf
def Mod_term_b166 (N : Nat) (x1 : Int32) (σ : g_S) : Option (Int32 × g_S) := if x1 = 91 then Mod_term_b182 N (gF σ 11 ((σ.1 11) + 1)) else Mod_term_b189 N x1 (gF σ 11 ((σ.1 11) + 1))
theorem Mod_term_p166 (ao aa : Nat → Nat) {X : g_X} (hC : gC X c_Mod_term R_Mod 7 156 3 none) (N : Nat) (x1 : Int32) (σ : g_S) (r : Int32) (σe : g_S) (hf : Mod_term_b166 N x1 σ = some (r, σe)) : gw X (.inl none) (LM ao aa X.2.2.1 σe) (LM ao aa X.2.2.1 σ) [(0, .ref (ao 0)), (1, .int x1)] 166 [] := by
  unfold Mod_term_b166 at hf
  refine gw_aload_n hC 0 d_Mod_term_166 rfl rfl ?_
  refine gw_dup hC d_Mod_term_167 rfl ?_
  refine Mg11 hC kf_Mod_129 d_Mod_term_168 (σ.1 11) rfl ?_
  refine gw_iconst hC 1 d_Mod_term_171 (by decide) ?_
  refine gw_iadd hC d_Mod_term_172 ?_
  refine Mp11 hC kf_Mod_129 d_Mod_term_173 ?_
  refine gw_iload_n hC 1 d_Mod_term_176 rfl rfl ?_
  refine gw_bipush hC 91 d_Mod_term_177 (by decide) ?_
  refine gw_icmp_ne hC 189 d_Mod_term_179 (by decide) (fun hh => ?_) (fun hh => ?_)
  · rw [if_neg hh] at hf
    exact Mod_term_p189 ao aa hC N _ _ _ _ hf
  · rw [if_pos hh] at hf
    refine gw_lv [0] rfl ?_
    exact Mod_term_p182 ao aa hC N _ _ _ hf
def Mod_term_b149 (N : Nat) (x1 : Int32) (σ : g_S) : Option (Int32 × g_S) := if x1 = 93 then Mod_term_b155 N σ else Mod_term_b166 N x1 σ
theorem Mod_term_p149 (ao aa : Nat → Nat) {X : g_X} (hC : gC X c_Mod_term R_Mod 7 156 3 none) (N : Nat) (x1 : Int32) (σ : g_S) (r : Int32) (σe : g_S) (hf : Mod_term_b149 N x1 σ = some (r, σe)) : gw X (.inl none) (LM ao aa X.2.2.1 σe) (LM ao aa X.2.2.1 σ) [(0, .ref (ao 0)), (1, .int x1)] 149 [] := by
  unfold Mod_term_b149 at hf
  refine gw_iload_n hC 1 d_Mod_term_149 rfl rfl ?_
  refine gw_bipush hC 93 d_Mod_term_150 (by decide) ?_
  refine gw_icmp_ne hC 166 d_Mod_term_152 (by decide) (fun hh => ?_) (fun hh => ?_)
  · rw [if_neg hh] at hf
    exact Mod_term_p166 ao aa hC N _ _ _ _ hf
  · rw [if_pos hh] at hf
    refine gw_lv [0] rfl ?_
    exact Mod_term_p155 ao aa hC N _ _ _ hf
def Mod_term_b143 (N : Nat) (x1 : Int32) (σ : g_S) : Option (Int32 × g_S) := if x1 = 125 then Mod_term_b155 N σ else Mod_term_b149 N x1 σ
theorem Mod_term_p143 (ao aa : Nat → Nat) {X : g_X} (hC : gC X c_Mod_term R_Mod 7 156 3 none) (N : Nat) (x1 : Int32) (σ : g_S) (r : Int32) (σe : g_S) (hf : Mod_term_b143 N x1 σ = some (r, σe)) : gw X (.inl none) (LM ao aa X.2.2.1 σe) (LM ao aa X.2.2.1 σ) [(0, .ref (ao 0)), (1, .int x1)] 143 [] := by
  unfold Mod_term_b143 at hf
  refine gw_iload_n hC 1 d_Mod_term_143 rfl rfl ?_
  refine gw_bipush hC 125 d_Mod_term_144 (by decide) ?_
  refine gw_icmp_eq hC 155 d_Mod_term_146 (by decide) (fun hh => ?_) (fun hh => ?_)
  · rw [if_pos hh] at hf
    refine gw_lv [0] rfl ?_
    exact Mod_term_p155 ao aa hC N _ _ _ hf
  · rw [if_neg hh] at hf
    exact Mod_term_p149 ao aa hC N _ _ _ _ hf
def Mod_term_b137 (N : Nat) (x1 : Int32) (σ : g_S) : Option (Int32 × g_S) := if x1 = 123 then Mod_term_b155 N σ else Mod_term_b143 N x1 σ
theorem Mod_term_p137 (ao aa : Nat → Nat) {X : g_X} (hC : gC X c_Mod_term R_Mod 7 156 3 none) (N : Nat) (x1 : Int32) (σ : g_S) (r : Int32) (σe : g_S) (hf : Mod_term_b137 N x1 σ = some (r, σe)) : gw X (.inl none) (LM ao aa X.2.2.1 σe) (LM ao aa X.2.2.1 σ) [(0, .ref (ao 0)), (1, .int x1)] 137 [] := by
  unfold Mod_term_b137 at hf
  refine gw_iload_n hC 1 d_Mod_term_137 rfl rfl ?_
  refine gw_bipush hC 123 d_Mod_term_138 (by decide) ?_
  refine gw_icmp_eq hC 155 d_Mod_term_140 (by decide) (fun hh => ?_) (fun hh => ?_)
  · rw [if_pos hh] at hf
    refine gw_lv [0] rfl ?_
    exact Mod_term_p155 ao aa hC N _ _ _ hf
  · rw [if_neg hh] at hf
    exact Mod_term_p143 ao aa hC N _ _ _ _ hf
def Mod_term_b131 (N : Nat) (x1 : Int32) (σ : g_S) : Option (Int32 × g_S) := if x1 = 63 then Mod_term_b155 N σ else Mod_term_b137 N x1 σ
theorem Mod_term_p131 (ao aa : Nat → Nat) {X : g_X} (hC : gC X c_Mod_term R_Mod 7 156 3 none) (N : Nat) (x1 : Int32) (σ : g_S) (r : Int32) (σe : g_S) (hf : Mod_term_b131 N x1 σ = some (r, σe)) : gw X (.inl none) (LM ao aa X.2.2.1 σe) (LM ao aa X.2.2.1 σ) [(0, .ref (ao 0)), (1, .int x1)] 131 [] := by
  unfold Mod_term_b131 at hf
  refine gw_iload_n hC 1 d_Mod_term_131 rfl rfl ?_
  refine gw_bipush hC 63 d_Mod_term_132 (by decide) ?_
  refine gw_icmp_eq hC 155 d_Mod_term_134 (by decide) (fun hh => ?_) (fun hh => ?_)
  · rw [if_pos hh] at hf
    refine gw_lv [0] rfl ?_
    exact Mod_term_p155 ao aa hC N _ _ _ hf
  · rw [if_neg hh] at hf
    exact Mod_term_p137 ao aa hC N _ _ _ _ hf
def Mod_term_b125 (N : Nat) (x1 : Int32) (σ : g_S) : Option (Int32 × g_S) := if x1 = 43 then Mod_term_b155 N σ else Mod_term_b131 N x1 σ
theorem Mod_term_p125 (ao aa : Nat → Nat) {X : g_X} (hC : gC X c_Mod_term R_Mod 7 156 3 none) (N : Nat) (x1 : Int32) (σ : g_S) (r : Int32) (σe : g_S) (hf : Mod_term_b125 N x1 σ = some (r, σe)) : gw X (.inl none) (LM ao aa X.2.2.1 σe) (LM ao aa X.2.2.1 σ) [(0, .ref (ao 0)), (1, .int x1)] 125 [] := by
  unfold Mod_term_b125 at hf
  refine gw_iload_n hC 1 d_Mod_term_125 rfl rfl ?_
  refine gw_bipush hC 43 d_Mod_term_126 (by decide) ?_
  refine gw_icmp_eq hC 155 d_Mod_term_128 (by decide) (fun hh => ?_) (fun hh => ?_)
  · rw [if_pos hh] at hf
    refine gw_lv [0] rfl ?_
    exact Mod_term_p155 ao aa hC N _ _ _ hf
  · rw [if_neg hh] at hf
    exact Mod_term_p131 ao aa hC N _ _ _ _ hf
def Mod_term_b119 (N : Nat) (x1 : Int32) (σ : g_S) : Option (Int32 × g_S) := if x1 = 42 then Mod_term_b155 N σ else Mod_term_b125 N x1 σ
theorem Mod_term_p119 (ao aa : Nat → Nat) {X : g_X} (hC : gC X c_Mod_term R_Mod 7 156 3 none) (N : Nat) (x1 : Int32) (σ : g_S) (r : Int32) (σe : g_S) (hf : Mod_term_b119 N x1 σ = some (r, σe)) : gw X (.inl none) (LM ao aa X.2.2.1 σe) (LM ao aa X.2.2.1 σ) [(0, .ref (ao 0)), (1, .int x1)] 119 [] := by
  unfold Mod_term_b119 at hf
  refine gw_iload_n hC 1 d_Mod_term_119 rfl rfl ?_
  refine gw_bipush hC 42 d_Mod_term_120 (by decide) ?_
  refine gw_icmp_eq hC 155 d_Mod_term_122 (by decide) (fun hh => ?_) (fun hh => ?_)
  · rw [if_pos hh] at hf
    refine gw_lv [0] rfl ?_
    exact Mod_term_p155 ao aa hC N _ _ _ hf
  · rw [if_neg hh] at hf
    exact Mod_term_p125 ao aa hC N _ _ _ _ hf
def Mod_term_b112 (N : Nat) (σ : g_S) : Option (Int32 × g_S) := (Mod_escapedAtom N σ).bind fun q113 => Mod_term_b220 N q113.2
theorem Mod_term_p112 (ao aa : Nat → Nat) {X : g_X} (hC : gC X c_Mod_term R_Mod 7 156 3 none) (N : Nat) (σ : g_S) (r : Int32) (σe : g_S) (hf : Mod_term_b112 N σ = some (r, σe)) : gw X (.inl none) (LM ao aa X.2.2.1 σe) (LM ao aa X.2.2.1 σ) [(0, .ref (ao 0))] 112 [] := by
  unfold Mod_term_b112 at hf
  refine gw_aload_n hC 0 d_Mod_term_112 rfl rfl ?_
  obtain ⟨q113, hq113, hf⟩ := g_bind hf
  refine gw_callV hC [] [] (Mod_escapedAtom_m _ _ _ ao aa N _ _ _ hq113) kc_Mod_213 0 (g_lay_obj rfl) rfl rfl ⟨by decide, by decide⟩ (Nat.le_of_ble_eq_true rfl) [.ref (ao 0)] [] rfl rfl d_Mod_term_113 ?_
  refine gw_goto hC 220 d_Mod_term_116 (by decide) ?_
  exact Mod_term_p220 ao aa hC N _ _ _ hf
def Mod_term_b106 (N : Nat) (x1 : Int32) (σ : g_S) : Option (Int32 × g_S) := if x1 = 92 then Mod_term_b112 N σ else Mod_term_b119 N x1 σ
theorem Mod_term_p106 (ao aa : Nat → Nat) {X : g_X} (hC : gC X c_Mod_term R_Mod 7 156 3 none) (N : Nat) (x1 : Int32) (σ : g_S) (r : Int32) (σe : g_S) (hf : Mod_term_b106 N x1 σ = some (r, σe)) : gw X (.inl none) (LM ao aa X.2.2.1 σe) (LM ao aa X.2.2.1 σ) [(0, .ref (ao 0)), (1, .int x1)] 106 [] := by
  unfold Mod_term_b106 at hf
  refine gw_iload_n hC 1 d_Mod_term_106 rfl rfl ?_
  refine gw_bipush hC 92 d_Mod_term_107 (by decide) ?_
  refine gw_icmp_ne hC 119 d_Mod_term_109 (by decide) (fun hh => ?_) (fun hh => ?_)
  · rw [if_neg hh] at hf
    exact Mod_term_p119 ao aa hC N _ _ _ _ hf
  · rw [if_pos hh] at hf
    refine gw_lv [0] rfl ?_
    exact Mod_term_p112 ao aa hC N _ _ _ hf
def Mod_term_b79 (N : Nat) (x1 : Int32) (σ : g_S) : Option (Int32 × g_S) := if x1 = 36 then Mod_term_b85 N x1 σ else Mod_term_b106 N x1 σ
theorem Mod_term_p79 (ao aa : Nat → Nat) {X : g_X} (hC : gC X c_Mod_term R_Mod 7 156 3 none) (N : Nat) (x1 : Int32) (σ : g_S) (r : Int32) (σe : g_S) (hf : Mod_term_b79 N x1 σ = some (r, σe)) : gw X (.inl none) (LM ao aa X.2.2.1 σe) (LM ao aa X.2.2.1 σ) [(0, .ref (ao 0)), (1, .int x1)] 79 [] := by
  unfold Mod_term_b79 at hf
  refine gw_iload_n hC 1 d_Mod_term_79 rfl rfl ?_
  refine gw_bipush hC 36 d_Mod_term_80 (by decide) ?_
  refine gw_icmp_ne hC 106 d_Mod_term_82 (by decide) (fun hh => ?_) (fun hh => ?_)
  · rw [if_neg hh] at hf
    exact Mod_term_p106 ao aa hC N _ _ _ _ hf
  · rw [if_pos hh] at hf
    exact Mod_term_p85 ao aa hC N _ _ _ _ hf
def Mod_term_b73 (N : Nat) (x1 : Int32) (σ : g_S) : Option (Int32 × g_S) := if x1 = 94 then Mod_term_b85 N x1 σ else Mod_term_b79 N x1 σ
theorem Mod_term_p73 (ao aa : Nat → Nat) {X : g_X} (hC : gC X c_Mod_term R_Mod 7 156 3 none) (N : Nat) (x1 : Int32) (σ : g_S) (r : Int32) (σe : g_S) (hf : Mod_term_b73 N x1 σ = some (r, σe)) : gw X (.inl none) (LM ao aa X.2.2.1 σe) (LM ao aa X.2.2.1 σ) [(0, .ref (ao 0)), (1, .int x1)] 73 [] := by
  unfold Mod_term_b73 at hf
  refine gw_iload_n hC 1 d_Mod_term_73 rfl rfl ?_
  refine gw_bipush hC 94 d_Mod_term_74 (by decide) ?_
  refine gw_icmp_eq hC 85 d_Mod_term_76 (by decide) (fun hh => ?_) (fun hh => ?_)
  · rw [if_pos hh] at hf
    exact Mod_term_p85 ao aa hC N _ _ _ _ hf
  · rw [if_neg hh] at hf
    exact Mod_term_p79 ao aa hC N _ _ _ _ hf
def Mod_term_b66 (N : Nat) (σ : g_S) : Option (Int32 × g_S) := (Mod_closeGroup N σ).bind fun q67 => Mod_term_b220 N q67.2
theorem Mod_term_p66 (ao aa : Nat → Nat) {X : g_X} (hC : gC X c_Mod_term R_Mod 7 156 3 none) (N : Nat) (σ : g_S) (r : Int32) (σe : g_S) (hf : Mod_term_b66 N σ = some (r, σe)) : gw X (.inl none) (LM ao aa X.2.2.1 σe) (LM ao aa X.2.2.1 σ) [(0, .ref (ao 0))] 66 [] := by
  unfold Mod_term_b66 at hf
  refine gw_aload_n hC 0 d_Mod_term_66 rfl rfl ?_
  obtain ⟨q67, hq67, hf⟩ := g_bind hf
  refine gw_callV hC [] [] (Mod_closeGroup_m _ _ _ ao aa N _ _ _ hq67) kc_Mod_210 0 (g_lay_obj rfl) rfl rfl ⟨by decide, by decide⟩ (Nat.le_of_ble_eq_true rfl) [.ref (ao 0)] [] rfl rfl d_Mod_term_67 ?_
  refine gw_goto hC 220 d_Mod_term_70 (by decide) ?_
  exact Mod_term_p220 ao aa hC N _ _ _ hf
def Mod_term_b55 (N : Nat) (σ : g_S) : Option (Int32 × g_S) := (Mod_fail N (σ.1 11) σ).bind fun q60 => Mod_term_b220 N q60.2
theorem Mod_term_p55 (ao aa : Nat → Nat) {X : g_X} (hC : gC X c_Mod_term R_Mod 7 156 3 none) (N : Nat) (σ : g_S) (r : Int32) (σe : g_S) (hf : Mod_term_b55 N σ = some (r, σe)) : gw X (.inl none) (LM ao aa X.2.2.1 σe) (LM ao aa X.2.2.1 σ) [(0, .ref (ao 0))] 55 [] := by
  unfold Mod_term_b55 at hf
  refine gw_aload_n hC 0 d_Mod_term_55 rfl rfl ?_
  refine gw_aload_n hC 0 d_Mod_term_56 rfl rfl ?_
  refine Mg11 hC kf_Mod_129 d_Mod_term_57 (σ.1 11) rfl ?_
  obtain ⟨q60, hq60, hf⟩ := g_bind hf
  refine gw_callV hC [.int (σ.1 11)] [] (Mod_fail_m _ _ _ ao aa N _ _ _ _ hq60) kc_Mod_165 0 (g_lay_obj rfl) rfl rfl ⟨by decide, by decide⟩ (Nat.le_of_ble_eq_true rfl) [.int (σ.1 11), .ref (ao 0)] [] rfl rfl d_Mod_term_60 ?_
  refine gw_goto hC 220 d_Mod_term_63 (by decide) ?_
  exact Mod_term_p220 ao aa hC N _ _ _ hf
def Mod_term_b48 (N : Nat) (σ : g_S) : Option (Int32 × g_S) := if (σ.1 14) = 0 then Mod_term_b55 N σ else Mod_term_b66 N σ
theorem Mod_term_p48 (ao aa : Nat → Nat) {X : g_X} (hC : gC X c_Mod_term R_Mod 7 156 3 none) (N : Nat) (σ : g_S) (r : Int32) (σe : g_S) (hf : Mod_term_b48 N σ = some (r, σe)) : gw X (.inl none) (LM ao aa X.2.2.1 σe) (LM ao aa X.2.2.1 σ) [(0, .ref (ao 0))] 48 [] := by
  unfold Mod_term_b48 at hf
  refine gw_aload_n hC 0 d_Mod_term_48 rfl rfl ?_
  refine Mg14 hC kf_Mod_144 d_Mod_term_49 (σ.1 14) rfl ?_
  refine gw_if_ne hC 66 d_Mod_term_52 (by decide) (fun hh => ?_) (fun hh => ?_)
  · rw [if_neg hh] at hf
    exact Mod_term_p66 ao aa hC N _ _ _ hf
  · rw [if_pos hh] at hf
    exact Mod_term_p55 ao aa hC N _ _ _ hf
def Mod_term_b42 (N : Nat) (x1 : Int32) (σ : g_S) : Option (Int32 × g_S) := if x1 = 41 then Mod_term_b48 N σ else Mod_term_b73 N x1 σ
theorem Mod_term_p42 (ao aa : Nat → Nat) {X : g_X} (hC : gC X c_Mod_term R_Mod 7 156 3 none) (N : Nat) (x1 : Int32) (σ : g_S) (r : Int32) (σe : g_S) (hf : Mod_term_b42 N x1 σ = some (r, σe)) : gw X (.inl none) (LM ao aa X.2.2.1 σe) (LM ao aa X.2.2.1 σ) [(0, .ref (ao 0)), (1, .int x1)] 42 [] := by
  unfold Mod_term_b42 at hf
  refine gw_iload_n hC 1 d_Mod_term_42 rfl rfl ?_
  refine gw_bipush hC 41 d_Mod_term_43 (by decide) ?_
  refine gw_icmp_ne hC 73 d_Mod_term_45 (by decide) (fun hh => ?_) (fun hh => ?_)
  · rw [if_neg hh] at hf
    exact Mod_term_p73 ao aa hC N _ _ _ _ hf
  · rw [if_pos hh] at hf
    refine gw_lv [0] rfl ?_
    exact Mod_term_p48 ao aa hC N _ _ _ hf
def Mod_term_b35 (N : Nat) (σ : g_S) : Option (Int32 × g_S) := (Mod_openGroup N σ).bind fun q36 => Mod_term_b220 N q36.2
theorem Mod_term_p35 (ao aa : Nat → Nat) {X : g_X} (hC : gC X c_Mod_term R_Mod 7 156 3 none) (N : Nat) (σ : g_S) (r : Int32) (σe : g_S) (hf : Mod_term_b35 N σ = some (r, σe)) : gw X (.inl none) (LM ao aa X.2.2.1 σe) (LM ao aa X.2.2.1 σ) [(0, .ref (ao 0))] 35 [] := by
  unfold Mod_term_b35 at hf
  refine gw_aload_n hC 0 d_Mod_term_35 rfl rfl ?_
  obtain ⟨q36, hq36, hf⟩ := g_bind hf
  refine gw_callV hC [] [] (Mod_openGroup_m _ _ _ ao aa N _ _ _ hq36) kc_Mod_207 0 (g_lay_obj rfl) rfl rfl ⟨by decide, by decide⟩ (Nat.le_of_ble_eq_true rfl) [.ref (ao 0)] [] rfl rfl d_Mod_term_36 ?_
  refine gw_goto hC 220 d_Mod_term_39 (by decide) ?_
  exact Mod_term_p220 ao aa hC N _ _ _ hf
def Mod_term_b29 (N : Nat) (x1 : Int32) (σ : g_S) : Option (Int32 × g_S) := if x1 = 40 then Mod_term_b35 N σ else Mod_term_b42 N x1 σ
theorem Mod_term_p29 (ao aa : Nat → Nat) {X : g_X} (hC : gC X c_Mod_term R_Mod 7 156 3 none) (N : Nat) (x1 : Int32) (σ : g_S) (r : Int32) (σe : g_S) (hf : Mod_term_b29 N x1 σ = some (r, σe)) : gw X (.inl none) (LM ao aa X.2.2.1 σe) (LM ao aa X.2.2.1 σ) [(0, .ref (ao 0)), (1, .int x1)] 29 [] := by
  unfold Mod_term_b29 at hf
  refine gw_iload_n hC 1 d_Mod_term_29 rfl rfl ?_
  refine gw_bipush hC 40 d_Mod_term_30 (by decide) ?_
  refine gw_icmp_ne hC 42 d_Mod_term_32 (by decide) (fun hh => ?_) (fun hh => ?_)
  · rw [if_neg hh] at hf
    exact Mod_term_p42 ao aa hC N _ _ _ _ hf
  · rw [if_pos hh] at hf
    refine gw_lv [0] rfl ?_
    exact Mod_term_p35 ao aa hC N _ _ _ hf
def Mod_term_b12 (N : Nat) (σ : g_S) : Option (Int32 × g_S) := (Mod_newAlternative N (gF σ 11 ((σ.1 11) + 1))).bind fun q23 => Mod_term_b220 N q23.2
theorem Mod_term_p12 (ao aa : Nat → Nat) {X : g_X} (hC : gC X c_Mod_term R_Mod 7 156 3 none) (N : Nat) (σ : g_S) (r : Int32) (σe : g_S) (hf : Mod_term_b12 N σ = some (r, σe)) : gw X (.inl none) (LM ao aa X.2.2.1 σe) (LM ao aa X.2.2.1 σ) [(0, .ref (ao 0))] 12 [] := by
  unfold Mod_term_b12 at hf
  refine gw_aload_n hC 0 d_Mod_term_12 rfl rfl ?_
  refine gw_dup hC d_Mod_term_13 rfl ?_
  refine Mg11 hC kf_Mod_129 d_Mod_term_14 (σ.1 11) rfl ?_
  refine gw_iconst hC 1 d_Mod_term_17 (by decide) ?_
  refine gw_iadd hC d_Mod_term_18 ?_
  refine Mp11 hC kf_Mod_129 d_Mod_term_19 ?_
  refine gw_aload_n hC 0 d_Mod_term_22 rfl rfl ?_
  obtain ⟨q23, hq23, hf⟩ := g_bind hf
  refine gw_callV hC [] [] (Mod_newAlternative_m _ _ _ ao aa N _ _ _ hq23) kc_Mod_155 0 (g_lay_obj rfl) rfl rfl ⟨by decide, by decide⟩ (Nat.le_of_ble_eq_true rfl) [.ref (ao 0)] [] rfl rfl d_Mod_term_23 ?_
  refine gw_goto hC 220 d_Mod_term_26 (by decide) ?_
  exact Mod_term_p220 ao aa hC N _ _ _ hf
def Mod_term_b0 (N : Nat) (σ : g_S) : Option (Int32 × g_S) := (Mod_see N 0 σ).bind fun q2 => if q2.1 = 124 then Mod_term_b12 N q2.2 else Mod_term_b29 N q2.1 q2.2
theorem Mod_term_p0 (ao aa : Nat → Nat) {X : g_X} (hC : gC X c_Mod_term R_Mod 7 156 3 none) (N : Nat) (σ : g_S) (r : Int32) (σe : g_S) (hf : Mod_term_b0 N σ = some (r, σe)) : gw X (.inl none) (LM ao aa X.2.2.1 σe) (LM ao aa X.2.2.1 σ) [(0, .ref (ao 0))] 0 [] := by
  unfold Mod_term_b0 at hf
  refine gw_aload_n hC 0 d_Mod_term_0 rfl rfl ?_
  refine gw_iconst hC 0 d_Mod_term_1 (by decide) ?_
  obtain ⟨q2, hq2, hf⟩ := g_bind hf
  refine gw_callV hC [.int 0] [] (Mod_see_m _ _ _ ao aa N _ _ _ _ hq2) kc_Mod_158 0 (g_lay_obj rfl) rfl rfl ⟨by decide, by decide⟩ (Nat.le_of_ble_eq_true rfl) [.int 0, .ref (ao 0)] [.int q2.1] rfl rfl d_Mod_term_2 ?_
  refine gw_istore_n hC [(1, .int q2.1), (0, .ref (ao 0))] d_Mod_term_5 rfl (by decide) rfl ?_
  refine gw_iload_n hC 0 d_Mod_term_6 rfl rfl ?_
  refine gw_bipush hC 124 d_Mod_term_7 (by decide) ?_
  refine gw_icmp_ne hC 29 d_Mod_term_9 (by decide) (fun hh => ?_) (fun hh => ?_)
  · rw [if_neg hh] at hf
    refine gw_lv [1, 0] rfl ?_
    exact Mod_term_p29 ao aa hC N _ _ _ _ hf
  · rw [if_pos hh] at hf
    refine gw_lv [1] rfl ?_
    exact Mod_term_p12 ao aa hC N _ _ _ hf
def Mod_term (N : Nat) (σ : g_S) : Option (Int32 × g_S) := Mod_term_b0 N  σ
theorem Mod_term_m (l : Launch) (D : va_G) (cA : ClassId) (ao aa : Nat → Nat) (N : Nat) (σ : g_S) (r : Int32) (σe : g_S) (hf : Mod_term N σ = some (r, σe)) : Mt l D cA y_Mod_term c_Mod_term 3 none 7 156 [.ref (ao 0)] (LM ao aa cA σ) none (LM ao aa cA σe) := by
  refine g_met (by decide +kernel) (by simp [lg_sl, Value.category]) (fun X e1 e2 e3 hC => ?_)
  subst e1 e2 e3
  refine gw_lv [0] rfl ?_
  exact Mod_term_p0 ao aa hC N _ (r) _ hf
def Mod_read_b125 (N : Nat) (σ : g_S) : Option (Int32 × g_S) := some (0, σ)
theorem Mod_read_p125 (ao aa : Nat → Nat) {X : g_X} (hC : gC X c_Mod_read R_Mod 8 178 2 none) (N : Nat) (σ : g_S) (r : Int32) (σe : g_S) (hf : Mod_read_b125 N σ = some (r, σe)) : gw X (.inl none) (LM ao aa X.2.2.1 σe) (LM ao aa X.2.2.1 σ) [(0, .ref (ao 0))] 125 [] := by
  unfold Mod_read_b125 at hf
  cases hf
  exact gw_vret hC d_Mod_read_125
def Mod_read_b119 (N : Nat) (k77 : Int32 → g_S → Option (Int32 × g_S)) (x1 : Int32) (σ : g_S) : Option (Int32 × g_S) := k77 (x1 + 1) σ
theorem Mod_read_p119 (ao aa : Nat → Nat) {X : g_X} (hC : gC X c_Mod_read R_Mod 8 178 2 none) (N : Nat) (k77 : Int32 → g_S → Option (Int32 × g_S)) (hk77 : ∀ (x1 : Int32) (σ : g_S) (r : Int32) (σe : g_S), k77 x1 σ = some (r, σe) → gw X (.inl none) (LM ao aa X.2.2.1 σe) (LM ao aa X.2.2.1 σ) [(0, .ref (ao 0)), (1, .int x1)] 77 []) (x1 : Int32) (σ : g_S) (r : Int32) (σe : g_S) (hf : Mod_read_b119 N k77 x1 σ = some (r, σe)) : gw X (.inl none) (LM ao aa X.2.2.1 σe) (LM ao aa X.2.2.1 σ) [(0, .ref (ao 0)), (1, .int x1)] 119 [] := by
  unfold Mod_read_b119 at hf
  refine gw_iinc hC (x1 + 1) 1 [(1, .int (x1 + 1)), (0, .ref (ao 0))] d_Mod_read_119 rfl rfl (by decide) rfl ?_
  refine gw_goto hC 77 d_Mod_read_122 (by decide) ?_
  refine gw_lv [1, 0] rfl ?_
  exact hk77 _ _ _ _ hf
def Mod_read_b109 (N : Nat) (k77 : Int32 → g_S → Option (Int32 × g_S)) (x1 : Int32) (σ : g_S) : Option (Int32 × g_S) := if gIn x1 1300 = true then (Mod_fail N (σ.2 5 (x1).toNatClampNeg) σ).bind fun q116 => Mod_read_b119 N k77 x1 q116.2 else none
theorem Mod_read_p109 (ao aa : Nat → Nat) {X : g_X} (hC : gC X c_Mod_read R_Mod 8 178 2 none) (N : Nat) (k77 : Int32 → g_S → Option (Int32 × g_S)) (hk77 : ∀ (x1 : Int32) (σ : g_S) (r : Int32) (σe : g_S), k77 x1 σ = some (r, σe) → gw X (.inl none) (LM ao aa X.2.2.1 σe) (LM ao aa X.2.2.1 σ) [(0, .ref (ao 0)), (1, .int x1)] 77 []) (x1 : Int32) (σ : g_S) (r : Int32) (σe : g_S) (hf : Mod_read_b109 N k77 x1 σ = some (r, σe)) : gw X (.inl none) (LM ao aa X.2.2.1 σe) (LM ao aa X.2.2.1 σ) [(0, .ref (ao 0)), (1, .int x1)] 109 [] := by
  unfold Mod_read_b109 at hf
  refine gw_aload_n hC 0 d_Mod_read_109 rfl rfl ?_
  refine gw_aload_n hC 0 d_Mod_read_110 rfl rfl ?_
  refine Mr_Mod_b hC kf_Mod_29 d_Mod_read_111 ?_
  refine gw_iload_n hC 1 d_Mod_read_114 rfl rfl ?_
  obtain ⟨hg115, hf⟩ := g_guard hf
  refine Mald (j := 5) hC (by decide) hg115 d_Mod_read_115 (σ.2 5 (x1).toNatClampNeg) rfl ?_
  obtain ⟨q116, hq116, hf⟩ := g_bind hf
  refine gw_callV hC [.int (σ.2 5 (x1).toNatClampNeg)] [] (Mod_fail_m _ _ _ ao aa N _ _ _ _ hq116) kc_Mod_165 0 (g_lay_obj rfl) rfl rfl ⟨by decide, by decide⟩ (Nat.le_of_ble_eq_true rfl) [.int (σ.2 5 (x1).toNatClampNeg), .ref (ao 0)] [] rfl rfl d_Mod_read_116 ?_
  exact Mod_read_p119 ao aa hC N _ hk77 _ _ _ _ hf
def Mod_read_b96 (N : Nat) (k77 : Int32 → g_S → Option (Int32 × g_S)) (x1 : Int32) (σ : g_S) : Option (Int32 × g_S) := if gIn x1 1300 = true then if (σ.2 4 (x1).toNatClampNeg) ≤ (σ.1 9) then Mod_read_b119 N k77 x1 σ else Mod_read_b109 N k77 x1 σ else none
theorem Mod_read_p96 (ao aa : Nat → Nat) {X : g_X} (hC : gC X c_Mod_read R_Mod 8 178 2 none) (N : Nat) (k77 : Int32 → g_S → Option (Int32 × g_S)) (hk77 : ∀ (x1 : Int32) (σ : g_S) (r : Int32) (σe : g_S), k77 x1 σ = some (r, σe) → gw X (.inl none) (LM ao aa X.2.2.1 σe) (LM ao aa X.2.2.1 σ) [(0, .ref (ao 0)), (1, .int x1)] 77 []) (x1 : Int32) (σ : g_S) (r : Int32) (σe : g_S) (hf : Mod_read_b96 N k77 x1 σ = some (r, σe)) : gw X (.inl none) (LM ao aa X.2.2.1 σe) (LM ao aa X.2.2.1 σ) [(0, .ref (ao 0)), (1, .int x1)] 96 [] := by
  unfold Mod_read_b96 at hf
  refine gw_aload_n hC 0 d_Mod_read_96 rfl rfl ?_
  refine Mr_Mod_a hC kf_Mod_26 d_Mod_read_97 ?_
  refine gw_iload_n hC 1 d_Mod_read_100 rfl rfl ?_
  obtain ⟨hg101, hf⟩ := g_guard hf
  refine Mald (j := 4) hC (by decide) hg101 d_Mod_read_101 (σ.2 4 (x1).toNatClampNeg) rfl ?_
  refine gw_aload_n hC 0 d_Mod_read_102 rfl rfl ?_
  refine Mg9 hC kf_Mod_141 d_Mod_read_103 (σ.1 9) rfl ?_
  refine gw_icmp_le hC 119 d_Mod_read_106 (by decide) (fun hh => ?_) (fun hh => ?_)
  · rw [if_pos hh] at hf
    exact Mod_read_p119 ao aa hC N _ hk77 _ _ _ _ hf
  · rw [if_neg hh] at hf
    exact Mod_read_p109 ao aa hC N _ hk77 _ _ _ _ hf
def Mod_read_b85 (N : Nat) (k77 : Int32 → g_S → Option (Int32 × g_S)) (x1 : Int32) (σ : g_S) : Option (Int32 × g_S) := if gIn x1 1300 = true then if (σ.2 3 (x1).toNatClampNeg) = 7 then Mod_read_b96 N k77 x1 σ else Mod_read_b119 N k77 x1 σ else none
theorem Mod_read_p85 (ao aa : Nat → Nat) {X : g_X} (hC : gC X c_Mod_read R_Mod 8 178 2 none) (N : Nat) (k77 : Int32 → g_S → Option (Int32 × g_S)) (hk77 : ∀ (x1 : Int32) (σ : g_S) (r : Int32) (σe : g_S), k77 x1 σ = some (r, σe) → gw X (.inl none) (LM ao aa X.2.2.1 σe) (LM ao aa X.2.2.1 σ) [(0, .ref (ao 0)), (1, .int x1)] 77 []) (x1 : Int32) (σ : g_S) (r : Int32) (σe : g_S) (hf : Mod_read_b85 N k77 x1 σ = some (r, σe)) : gw X (.inl none) (LM ao aa X.2.2.1 σe) (LM ao aa X.2.2.1 σ) [(0, .ref (ao 0)), (1, .int x1)] 85 [] := by
  unfold Mod_read_b85 at hf
  refine gw_aload_n hC 0 d_Mod_read_85 rfl rfl ?_
  refine Mr_Mod_kind hC kf_Mod_23 d_Mod_read_86 ?_
  refine gw_iload_n hC 1 d_Mod_read_89 rfl rfl ?_
  obtain ⟨hg90, hf⟩ := g_guard hf
  refine Mald (j := 3) hC (by decide) hg90 d_Mod_read_90 (σ.2 3 (x1).toNatClampNeg) rfl ?_
  refine gw_bipush hC 7 d_Mod_read_91 (by decide) ?_
  refine gw_icmp_ne hC 119 d_Mod_read_93 (by decide) (fun hh => ?_) (fun hh => ?_)
  · rw [if_neg hh] at hf
    exact Mod_read_p119 ao aa hC N _ hk77 _ _ _ _ hf
  · rw [if_pos hh] at hf
    exact Mod_read_p96 ao aa hC N _ hk77 _ _ _ _ hf
def Mod_read_b77 (N : Nat) (k77 : Int32 → g_S → Option (Int32 × g_S)) (x1 : Int32) (σ : g_S) : Option (Int32 × g_S) := if (σ.1 8) ≤ x1 then Mod_read_b125 N σ else Mod_read_b85 N k77 x1 σ
theorem Mod_read_p77 (ao aa : Nat → Nat) {X : g_X} (hC : gC X c_Mod_read R_Mod 8 178 2 none) (N : Nat) (k77 : Int32 → g_S → Option (Int32 × g_S)) (hk77 : ∀ (x1 : Int32) (σ : g_S) (r : Int32) (σe : g_S), k77 x1 σ = some (r, σe) → gw X (.inl none) (LM ao aa X.2.2.1 σe) (LM ao aa X.2.2.1 σ) [(0, .ref (ao 0)), (1, .int x1)] 77 []) (x1 : Int32) (σ : g_S) (r : Int32) (σe : g_S) (hf : Mod_read_b77 N k77 x1 σ = some (r, σe)) : gw X (.inl none) (LM ao aa X.2.2.1 σe) (LM ao aa X.2.2.1 σ) [(0, .ref (ao 0)), (1, .int x1)] 77 [] := by
  unfold Mod_read_b77 at hf
  refine gw_iload_n hC 1 d_Mod_read_77 rfl rfl ?_
  refine gw_aload_n hC 0 d_Mod_read_78 rfl rfl ?_
  refine Mg8 hC kf_Mod_138 d_Mod_read_79 (σ.1 8) rfl ?_
  refine gw_icmp_ge hC 125 d_Mod_read_82 (by decide) (fun hh => ?_) (fun hh => ?_)
  · rw [if_pos hh] at hf
    refine gw_lv [0] rfl ?_
    exact Mod_read_p125 ao aa hC N _ _ _ hf
  · rw [if_neg hh] at hf
    exact Mod_read_p85 ao aa hC N _ hk77 _ _ _ _ hf
def Mod_read_l77 (N : Nat) : Nat → Int32 → g_S → Option (Int32 × g_S)
  | 0 => fun _ _ => none
  | n + 1 => fun x1 σ => Mod_read_b77 N (Mod_read_l77 N n) x1 σ
theorem Mod_read_q77 (ao aa : Nat → Nat) {X : g_X} (hC : gC X c_Mod_read R_Mod 8 178 2 none) (N : Nat) (n : Nat) : ∀ (x1 : Int32) (σ : g_S) (r : Int32) (σe : g_S), Mod_read_l77 N n x1 σ = some (r, σe) → gw X (.inl none) (LM ao aa X.2.2.1 σe) (LM ao aa X.2.2.1 σ) [(0, .ref (ao 0)), (1, .int x1)] 77 [] := by
  induction n with
  | zero => intro x1 σ r σe hf; cases hf
  | succ n ih => intro x1 σ r σe hf; exact Mod_read_p77 ao aa hC N _ (fun x1 σ r2 σ2 h2 => ih x1 σ r2 σ2 h2) x1 σ r σe hf
def Mod_read_b75 (N : Nat) (σ : g_S) : Option (Int32 × g_S) := Mod_read_l77 N N 0 σ
theorem Mod_read_p75 (ao aa : Nat → Nat) {X : g_X} (hC : gC X c_Mod_read R_Mod 8 178 2 none) (N : Nat) (σ : g_S) (r : Int32) (σe : g_S) (hf : Mod_read_b75 N σ = some (r, σe)) : gw X (.inl none) (LM ao aa X.2.2.1 σe) (LM ao aa X.2.2.1 σ) [(0, .ref (ao 0))] 75 [] := by
  unfold Mod_read_b75 at hf
  refine gw_iconst hC 0 d_Mod_read_75 (by decide) ?_
  refine gw_istore_n hC [(1, .int 0), (0, .ref (ao 0))] d_Mod_read_76 rfl (by decide) rfl ?_
  refine gw_lv [1, 0] rfl ?_
  exact Mod_read_q77 ao aa hC N N _ _ _ _ hf
def Mod_read_b67 (N : Nat) (σ : g_S) : Option (Int32 × g_S) := (Mod_fail N (σ.1 2) σ).bind fun q72 => Mod_read_b75 N q72.2
theorem Mod_read_p67 (ao aa : Nat → Nat) {X : g_X} (hC : gC X c_Mod_read R_Mod 8 178 2 none) (N : Nat) (σ : g_S) (r : Int32) (σe : g_S) (hf : Mod_read_b67 N σ = some (r, σe)) : gw X (.inl none) (LM ao aa X.2.2.1 σe) (LM ao aa X.2.2.1 σ) [(0, .ref (ao 0))] 67 [] := by
  unfold Mod_read_b67 at hf
  refine gw_aload_n hC 0 d_Mod_read_67 rfl rfl ?_
  refine gw_aload_n hC 0 d_Mod_read_68 rfl rfl ?_
  refine Mg2 hC kf_Mod_132 d_Mod_read_69 (σ.1 2) rfl ?_
  obtain ⟨q72, hq72, hf⟩ := g_bind hf
  refine gw_callV hC [.int (σ.1 2)] [] (Mod_fail_m _ _ _ ao aa N _ _ _ _ hq72) kc_Mod_165 0 (g_lay_obj rfl) rfl rfl ⟨by decide, by decide⟩ (Nat.le_of_ble_eq_true rfl) [.int (σ.1 2), .ref (ao 0)] [] rfl rfl d_Mod_read_72 ?_
  exact Mod_read_p75 ao aa hC N _ _ _ hf
def Mod_read_b60 (N : Nat) (σ : g_S) : Option (Int32 × g_S) := if (σ.1 14) ≤ 0 then Mod_read_b75 N σ else Mod_read_b67 N σ
theorem Mod_read_p60 (ao aa : Nat → Nat) {X : g_X} (hC : gC X c_Mod_read R_Mod 8 178 2 none) (N : Nat) (σ : g_S) (r : Int32) (σe : g_S) (hf : Mod_read_b60 N σ = some (r, σe)) : gw X (.inl none) (LM ao aa X.2.2.1 σe) (LM ao aa X.2.2.1 σ) [(0, .ref (ao 0))] 60 [] := by
  unfold Mod_read_b60 at hf
  refine gw_aload_n hC 0 d_Mod_read_60 rfl rfl ?_
  refine Mg14 hC kf_Mod_144 d_Mod_read_61 (σ.1 14) rfl ?_
  refine gw_if_le hC 75 d_Mod_read_64 (by decide) (fun hh => ?_) (fun hh => ?_)
  · rw [if_pos hh] at hf
    exact Mod_read_p75 ao aa hC N _ _ _ hf
  · rw [if_neg hh] at hf
    exact Mod_read_p67 ao aa hC N _ _ _ hf
def Mod_read_b53 (N : Nat) (k35 : g_S → Option (Int32 × g_S)) (σ : g_S) : Option (Int32 × g_S) := (Mod_term N σ).bind fun q54 => k35 q54.2
theorem Mod_read_p53 (ao aa : Nat → Nat) {X : g_X} (hC : gC X c_Mod_read R_Mod 8 178 2 none) (N : Nat) (k35 : g_S → Option (Int32 × g_S)) (hk35 : ∀ (σ : g_S) (r : Int32) (σe : g_S), k35 σ = some (r, σe) → gw X (.inl none) (LM ao aa X.2.2.1 σe) (LM ao aa X.2.2.1 σ) [(0, .ref (ao 0))] 35 []) (σ : g_S) (r : Int32) (σe : g_S) (hf : Mod_read_b53 N k35 σ = some (r, σe)) : gw X (.inl none) (LM ao aa X.2.2.1 σe) (LM ao aa X.2.2.1 σ) [(0, .ref (ao 0))] 53 [] := by
  unfold Mod_read_b53 at hf
  refine gw_aload_n hC 0 d_Mod_read_53 rfl rfl ?_
  obtain ⟨q54, hq54, hf⟩ := g_bind hf
  refine gw_callV hC [] [] (Mod_term_m _ _ _ ao aa N _ _ _ hq54) kc_Mod_219 0 (g_lay_obj rfl) rfl rfl ⟨by decide, by decide⟩ (Nat.le_of_ble_eq_true rfl) [.ref (ao 0)] [] rfl rfl d_Mod_read_54 ?_
  refine gw_goto hC 35 d_Mod_read_57 (by decide) ?_
  exact hk35 _ _ _ hf
def Mod_read_b46 (N : Nat) (k35 : g_S → Option (Int32 × g_S)) (σ : g_S) : Option (Int32 × g_S) := if 0 ≤ (σ.1 12) then Mod_read_b60 N σ else Mod_read_b53 N k35 σ
theorem Mod_read_p46 (ao aa : Nat → Nat) {X : g_X} (hC : gC X c_Mod_read R_Mod 8 178 2 none) (N : Nat) (k35 : g_S → Option (Int32 × g_S)) (hk35 : ∀ (σ : g_S) (r : Int32) (σe : g_S), k35 σ = some (r, σe) → gw X (.inl none) (LM ao aa X.2.2.1 σe) (LM ao aa X.2.2.1 σ) [(0, .ref (ao 0))] 35 []) (σ : g_S) (r : Int32) (σe : g_S) (hf : Mod_read_b46 N k35 σ = some (r, σe)) : gw X (.inl none) (LM ao aa X.2.2.1 σe) (LM ao aa X.2.2.1 σ) [(0, .ref (ao 0))] 46 [] := by
  unfold Mod_read_b46 at hf
  refine gw_aload_n hC 0 d_Mod_read_46 rfl rfl ?_
  refine Mg12 hC kf_Mod_135 d_Mod_read_47 (σ.1 12) rfl ?_
  refine gw_if_ge hC 60 d_Mod_read_50 (by decide) (fun hh => ?_) (fun hh => ?_)
  · rw [if_pos hh] at hf
    exact Mod_read_p60 ao aa hC N _ _ _ hf
  · rw [if_neg hh] at hf
    exact Mod_read_p53 ao aa hC N _ hk35 _ _ _ hf
def Mod_read_b35 (N : Nat) (k35 : g_S → Option (Int32 × g_S)) (σ : g_S) : Option (Int32 × g_S) := if (σ.1 2) ≤ (σ.1 11) then Mod_read_b60 N σ else Mod_read_b46 N k35 σ
theorem Mod_read_p35 (ao aa : Nat → Nat) {X : g_X} (hC : gC X c_Mod_read R_Mod 8 178 2 none) (N : Nat) (k35 : g_S → Option (Int32 × g_S)) (hk35 : ∀ (σ : g_S) (r : Int32) (σe : g_S), k35 σ = some (r, σe) → gw X (.inl none) (LM ao aa X.2.2.1 σe) (LM ao aa X.2.2.1 σ) [(0, .ref (ao 0))] 35 []) (σ : g_S) (r : Int32) (σe : g_S) (hf : Mod_read_b35 N k35 σ = some (r, σe)) : gw X (.inl none) (LM ao aa X.2.2.1 σe) (LM ao aa X.2.2.1 σ) [(0, .ref (ao 0))] 35 [] := by
  unfold Mod_read_b35 at hf
  refine gw_aload_n hC 0 d_Mod_read_35 rfl rfl ?_
  refine Mg11 hC kf_Mod_129 d_Mod_read_36 (σ.1 11) rfl ?_
  refine gw_aload_n hC 0 d_Mod_read_39 rfl rfl ?_
  refine Mg2 hC kf_Mod_132 d_Mod_read_40 (σ.1 2) rfl ?_
  refine gw_icmp_ge hC 60 d_Mod_read_43 (by decide) (fun hh => ?_) (fun hh => ?_)
  · rw [if_pos hh] at hf
    exact Mod_read_p60 ao aa hC N _ _ _ hf
  · rw [if_neg hh] at hf
    exact Mod_read_p46 ao aa hC N _ hk35 _ _ _ hf
def Mod_read_l35 (N : Nat) : Nat → g_S → Option (Int32 × g_S)
  | 0 => fun  _ => none
  | n + 1 => fun σ => Mod_read_b35 N (Mod_read_l35 N n) σ
theorem Mod_read_q35 (ao aa : Nat → Nat) {X : g_X} (hC : gC X c_Mod_read R_Mod 8 178 2 none) (N : Nat) (n : Nat) : ∀ (σ : g_S) (r : Int32) (σe : g_S), Mod_read_l35 N n σ = some (r, σe) → gw X (.inl none) (LM ao aa X.2.2.1 σe) (LM ao aa X.2.2.1 σ) [(0, .ref (ao 0))] 35 [] := by
  induction n with
  | zero => intro σ r σe hf; cases hf
  | succ n ih => intro σ r σe hf; exact Mod_read_p35 ao aa hC N _ (fun σ r2 σ2 h2 => ih σ r2 σ2 h2) σ r σe hf
def Mod_read_b0 (N : Nat) (σ : g_S) : Option (Int32 × g_S) := (Mod_opens N (-1) (gF (gF (gF (gF (gF (gF σ 8 0) 9 0) 10 0) 11 0) 12 (-1)) 14 0)).bind fun q32 => Mod_read_l35 N N q32.2
theorem Mod_read_p0 (ao aa : Nat → Nat) {X : g_X} (hC : gC X c_Mod_read R_Mod 8 178 2 none) (N : Nat) (σ : g_S) (r : Int32) (σe : g_S) (hf : Mod_read_b0 N σ = some (r, σe)) : gw X (.inl none) (LM ao aa X.2.2.1 σe) (LM ao aa X.2.2.1 σ) [(0, .ref (ao 0))] 0 [] := by
  unfold Mod_read_b0 at hf
  refine gw_aload_n hC 0 d_Mod_read_0 rfl rfl ?_
  refine gw_iconst hC 0 d_Mod_read_1 (by decide) ?_
  refine Mp8 hC kf_Mod_138 d_Mod_read_2 ?_
  refine gw_aload_n hC 0 d_Mod_read_5 rfl rfl ?_
  refine gw_iconst hC 0 d_Mod_read_6 (by decide) ?_
  refine Mp9 hC kf_Mod_141 d_Mod_read_7 ?_
  refine gw_aload_n hC 0 d_Mod_read_10 rfl rfl ?_
  refine gw_iconst hC 0 d_Mod_read_11 (by decide) ?_
  refine Mp10 hC kf_Mod_183 d_Mod_read_12 ?_
  refine gw_aload_n hC 0 d_Mod_read_15 rfl rfl ?_
  refine gw_iconst hC 0 d_Mod_read_16 (by decide) ?_
  refine Mp11 hC kf_Mod_129 d_Mod_read_17 ?_
  refine gw_aload_n hC 0 d_Mod_read_20 rfl rfl ?_
  refine gw_iconst hC (-1) d_Mod_read_21 (by decide) ?_
  refine Mp12 hC kf_Mod_135 d_Mod_read_22 ?_
  refine gw_aload_n hC 0 d_Mod_read_25 rfl rfl ?_
  refine gw_iconst hC 0 d_Mod_read_26 (by decide) ?_
  refine Mp14 hC kf_Mod_144 d_Mod_read_27 ?_
  refine gw_aload_n hC 0 d_Mod_read_30 rfl rfl ?_
  refine gw_iconst hC (-1) d_Mod_read_31 (by decide) ?_
  obtain ⟨q32, hq32, hf⟩ := g_bind hf
  refine gw_callV hC [.int (-1)] [] (Mod_opens_m _ _ _ ao aa N _ _ _ _ hq32) kc_Mod_198 0 (g_lay_obj rfl) rfl rfl ⟨by decide, by decide⟩ (Nat.le_of_ble_eq_true rfl) [.int (-1), .ref (ao 0)] [] rfl rfl d_Mod_read_32 ?_
  exact Mod_read_q35 ao aa hC N N _ _ _ hf
def Mod_read (N : Nat) (σ : g_S) : Option (Int32 × g_S) := Mod_read_b0 N  σ
theorem Mod_read_m (l : Launch) (D : va_G) (cA : ClassId) (ao aa : Nat → Nat) (N : Nat) (σ : g_S) (r : Int32) (σe : g_S) (hf : Mod_read N σ = some (r, σe)) : Mt l D cA y_Mod_read c_Mod_read 2 none 8 178 [.ref (ao 0)] (LM ao aa cA σ) none (LM ao aa cA σe) := by
  refine g_met (by decide +kernel) (by simp [lg_sl, Value.category]) (fun X e1 e2 e3 hC => ?_)
  subst e1 e2 e3
  refine gw_lv [0] rfl ?_
  exact Mod_read_p0 ao aa hC N _ (r) _ hf
def Mod_pattern_b148 (N : Nat) (s0 : Int32) (σ : g_S) : Option (Int32 × g_S) := some (s0, σ)
theorem Mod_pattern_p148 (ao aa : Nat → Nat) {X : g_X} (hC : gC X c_Mod_pattern R_Mod 9 199 4 (some .int)) (N : Nat) (s0 : Int32) (σ : g_S) (r : Int32) (σe : g_S) (hf : Mod_pattern_b148 N s0 σ = some (r, σe)) : gw X (.inl (some (.int r))) (LM ao aa X.2.2.1 σe) (LM ao aa X.2.2.1 σ) [(0, .ref (ao 0))] 148 [.int s0] := by
  unfold Mod_pattern_b148 at hf
  cases hf
  exact gw_iret hC d_Mod_pattern_148
def Mod_pattern_b147 (N : Nat) (σ : g_S) : Option (Int32 × g_S) := Mod_pattern_b148 N 0 σ
theorem Mod_pattern_p147 (ao aa : Nat → Nat) {X : g_X} (hC : gC X c_Mod_pattern R_Mod 9 199 4 (some .int)) (N : Nat) (σ : g_S) (r : Int32) (σe : g_S) (hf : Mod_pattern_b147 N σ = some (r, σe)) : gw X (.inl (some (.int r))) (LM ao aa X.2.2.1 σe) (LM ao aa X.2.2.1 σ) [(0, .ref (ao 0))] 147 [] := by
  unfold Mod_pattern_b147 at hf
  refine gw_iconst hC 0 d_Mod_pattern_147 (by decide) ?_
  exact Mod_pattern_p148 ao aa hC N _ _ _ _ hf
def Mod_pattern_b140 (N : Nat) (σ : g_S) : Option (Int32 × g_S) := Mod_pattern_b148 N (σ.1 9) σ
theorem Mod_pattern_p140 (ao aa : Nat → Nat) {X : g_X} (hC : gC X c_Mod_pattern R_Mod 9 199 4 (some .int)) (N : Nat) (σ : g_S) (r : Int32) (σe : g_S) (hf : Mod_pattern_b140 N σ = some (r, σe)) : gw X (.inl (some (.int r))) (LM ao aa X.2.2.1 σe) (LM ao aa X.2.2.1 σ) [(0, .ref (ao 0))] 140 [] := by
  unfold Mod_pattern_b140 at hf
  refine gw_aload_n hC 0 d_Mod_pattern_140 rfl rfl ?_
  refine Mg9 hC kf_Mod_141 d_Mod_pattern_141 (σ.1 9) rfl ?_
  refine gw_goto hC 148 d_Mod_pattern_144 (by decide) ?_
  exact Mod_pattern_p148 ao aa hC N _ _ _ _ hf
def Mod_pattern_b130 (N : Nat) (s1 : Int32) (σ : g_S) : Option (Int32 × g_S) := if (σ.1 5) = 0 then Mod_pattern_b147 N (gF σ 0 s1) else Mod_pattern_b140 N (gF σ 0 s1)
theorem Mod_pattern_p130 (ao aa : Nat → Nat) {X : g_X} (hC : gC X c_Mod_pattern R_Mod 9 199 4 (some .int)) (N : Nat) (s1 : Int32) (σ : g_S) (r : Int32) (σe : g_S) (hf : Mod_pattern_b130 N s1 σ = some (r, σe)) : gw X (.inl (some (.int r))) (LM ao aa X.2.2.1 σe) (LM ao aa X.2.2.1 σ) [(0, .ref (ao 0))] 130 [.int s1, .ref (ao 0)] := by
  unfold Mod_pattern_b130 at hf
  refine Mp0 hC kf_Mod_100 d_Mod_pattern_130 ?_
  refine gw_aload_n hC 0 d_Mod_pattern_133 rfl rfl ?_
  refine Mg5 hC kf_Mod_226 d_Mod_pattern_134 (σ.1 5) rfl ?_
  refine gw_if_eq hC 147 d_Mod_pattern_137 (by decide) (fun hh => ?_) (fun hh => ?_)
  · rw [if_pos hh] at hf
    exact Mod_pattern_p147 ao aa hC N _ _ _ hf
  · rw [if_neg hh] at hf
    exact Mod_pattern_p140 ao aa hC N _ _ _ hf
def Mod_pattern_b129 (N : Nat) (σ : g_S) : Option (Int32 × g_S) := Mod_pattern_b130 N 1 σ
theorem Mod_pattern_p129 (ao aa : Nat → Nat) {X : g_X} (hC : gC X c_Mod_pattern R_Mod 9 199 4 (some .int)) (N : Nat) (σ : g_S) (r : Int32) (σe : g_S) (hf : Mod_pattern_b129 N σ = some (r, σe)) : gw X (.inl (some (.int r))) (LM ao aa X.2.2.1 σe) (LM ao aa X.2.2.1 σ) [(0, .ref (ao 0))] 129 [.ref (ao 0)] := by
  unfold Mod_pattern_b129 at hf
  refine gw_iconst hC 1 d_Mod_pattern_129 (by decide) ?_
  exact Mod_pattern_p130 ao aa hC N _ _ _ _ hf
def Mod_pattern_b125 (N : Nat) (σ : g_S) : Option (Int32 × g_S) := Mod_pattern_b130 N 0 σ
theorem Mod_pattern_p125 (ao aa : Nat → Nat) {X : g_X} (hC : gC X c_Mod_pattern R_Mod 9 199 4 (some .int)) (N : Nat) (σ : g_S) (r : Int32) (σe : g_S) (hf : Mod_pattern_b125 N σ = some (r, σe)) : gw X (.inl (some (.int r))) (LM ao aa X.2.2.1 σe) (LM ao aa X.2.2.1 σ) [(0, .ref (ao 0))] 125 [.ref (ao 0)] := by
  unfold Mod_pattern_b125 at hf
  refine gw_iconst hC 0 d_Mod_pattern_125 (by decide) ?_
  refine gw_goto hC 130 d_Mod_pattern_126 (by decide) ?_
  exact Mod_pattern_p130 ao aa hC N _ _ _ _ hf
def Mod_pattern_b114 (N : Nat) (s1 : Int32) (σ : g_S) : Option (Int32 × g_S) := if gB s1 = true then if s1 = 0 then Mod_pattern_b129 N (gF σ 5 s1) else Mod_pattern_b125 N (gF σ 5 s1) else none
theorem Mod_pattern_p114 (ao aa : Nat → Nat) {X : g_X} (hC : gC X c_Mod_pattern R_Mod 9 199 4 (some .int)) (N : Nat) (s1 : Int32) (σ : g_S) (r : Int32) (σe : g_S) (hf : Mod_pattern_b114 N s1 σ = some (r, σe)) : gw X (.inl (some (.int r))) (LM ao aa X.2.2.1 σe) (LM ao aa X.2.2.1 σ) [(0, .ref (ao 0))] 114 [.int s1, .ref (ao 0)] := by
  unfold Mod_pattern_b114 at hf
  obtain ⟨hg114, hf⟩ := g_guard hf
  refine Mp5 hC kf_Mod_226 d_Mod_pattern_114 hg114 ?_
  refine gw_aload_n hC 0 d_Mod_pattern_117 rfl rfl ?_
  refine gw_aload_n hC 0 d_Mod_pattern_118 rfl rfl ?_
  refine Mg5 hC kf_Mod_226 d_Mod_pattern_119 s1 rfl ?_
  refine gw_if_eq hC 129 d_Mod_pattern_122 (by decide) (fun hh => ?_) (fun hh => ?_)
  · rw [if_pos hh] at hf
    exact Mod_pattern_p129 ao aa hC N _ _ _ hf
  · rw [if_neg hh] at hf
    exact Mod_pattern_p125 ao aa hC N _ _ _ hf
def Mod_pattern_b113 (N : Nat) (σ : g_S) : Option (Int32 × g_S) := Mod_pattern_b114 N 0 σ
theorem Mod_pattern_p113 (ao aa : Nat → Nat) {X : g_X} (hC : gC X c_Mod_pattern R_Mod 9 199 4 (some .int)) (N : Nat) (σ : g_S) (r : Int32) (σe : g_S) (hf : Mod_pattern_b113 N σ = some (r, σe)) : gw X (.inl (some (.int r))) (LM ao aa X.2.2.1 σe) (LM ao aa X.2.2.1 σ) [(0, .ref (ao 0))] 113 [.ref (ao 0)] := by
  unfold Mod_pattern_b113 at hf
  refine gw_iconst hC 0 d_Mod_pattern_113 (by decide) ?_
  exact Mod_pattern_p114 ao aa hC N _ _ _ _ hf
def Mod_pattern_b109 (N : Nat) (σ : g_S) : Option (Int32 × g_S) := Mod_pattern_b114 N 1 σ
theorem Mod_pattern_p109 (ao aa : Nat → Nat) {X : g_X} (hC : gC X c_Mod_pattern R_Mod 9 199 4 (some .int)) (N : Nat) (σ : g_S) (r : Int32) (σe : g_S) (hf : Mod_pattern_b109 N σ = some (r, σe)) : gw X (.inl (some (.int r))) (LM ao aa X.2.2.1 σe) (LM ao aa X.2.2.1 σ) [(0, .ref (ao 0))] 109 [.ref (ao 0)] := by
  unfold Mod_pattern_b109 at hf
  refine gw_iconst hC 1 d_Mod_pattern_109 (by decide) ?_
  refine gw_goto hC 114 d_Mod_pattern_110 (by decide) ?_
  exact Mod_pattern_p114 ao aa hC N _ _ _ _ hf
def Mod_pattern_b101 (N : Nat) (σ : g_S) : Option (Int32 × g_S) := if 0 ≤ (σ.1 6) then Mod_pattern_b113 N σ else Mod_pattern_b109 N σ
theorem Mod_pattern_p101 (ao aa : Nat → Nat) {X : g_X} (hC : gC X c_Mod_pattern R_Mod 9 199 4 (some .int)) (N : Nat) (σ : g_S) (r : Int32) (σe : g_S) (hf : Mod_pattern_b101 N σ = some (r, σe)) : gw X (.inl (some (.int r))) (LM ao aa X.2.2.1 σe) (LM ao aa X.2.2.1 σ) [(0, .ref (ao 0))] 101 [] := by
  unfold Mod_pattern_b101 at hf
  refine gw_aload_n hC 0 d_Mod_pattern_101 rfl rfl ?_
  refine gw_aload_n hC 0 d_Mod_pattern_102 rfl rfl ?_
  refine Mg6 hC kf_Mod_16 d_Mod_pattern_103 (σ.1 6) rfl ?_
  refine gw_if_ge hC 113 d_Mod_pattern_106 (by decide) (fun hh => ?_) (fun hh => ?_)
  · rw [if_pos hh] at hf
    exact Mod_pattern_p113 ao aa hC N _ _ _ hf
  · rw [if_neg hh] at hf
    exact Mod_pattern_p109 ao aa hC N _ _ _ hf
def Mod_pattern_b79 (N : Nat) (x1 : Int32) (x2 : Int32) (σ : g_S) : Option (Int32 × g_S) := if gB x1 = true then if gB x2 = true then (Mod_read N (gF (gF σ 3 x1) 4 x2)).bind fun q90 => Mod_pattern_b101 N (gF q90.2 6 (q90.2.1 12)) else none else none
theorem Mod_pattern_p79 (ao aa : Nat → Nat) {X : g_X} (hC : gC X c_Mod_pattern R_Mod 9 199 4 (some .int)) (N : Nat) (x1 : Int32) (x2 : Int32) (σ : g_S) (r : Int32) (σe : g_S) (hf : Mod_pattern_b79 N x1 x2 σ = some (r, σe)) : gw X (.inl (some (.int r))) (LM ao aa X.2.2.1 σe) (LM ao aa X.2.2.1 σ) [(0, .ref (ao 0)), (1, .int x1), (2, .int x2)] 79 [] := by
  unfold Mod_pattern_b79 at hf
  refine gw_aload_n hC 0 d_Mod_pattern_79 rfl rfl ?_
  refine gw_iload_n hC 1 d_Mod_pattern_80 rfl rfl ?_
  obtain ⟨hg81, hf⟩ := g_guard hf
  refine Mp3 hC kf_Mod_229 d_Mod_pattern_81 hg81 ?_
  refine gw_aload_n hC 0 d_Mod_pattern_84 rfl rfl ?_
  refine gw_iload_n hC 2 d_Mod_pattern_85 rfl rfl ?_
  obtain ⟨hg86, hf⟩ := g_guard hf
  refine Mp4 hC kf_Mod_232 d_Mod_pattern_86 hg86 ?_
  refine gw_aload_n hC 0 d_Mod_pattern_89 rfl rfl ?_
  obtain ⟨q90, hq90, hf⟩ := g_bind hf
  refine gw_callV hC [] [] (Mod_read_m _ _ _ ao aa N _ _ _ hq90) kc_Mod_235 0 (g_lay_obj rfl) rfl rfl ⟨by decide, by decide⟩ (Nat.le_of_ble_eq_true rfl) [.ref (ao 0)] [] rfl rfl d_Mod_pattern_90 ?_
  refine gw_aload_n hC 0 d_Mod_pattern_93 rfl rfl ?_
  refine gw_aload_n hC 0 d_Mod_pattern_94 rfl rfl ?_
  refine Mg12 hC kf_Mod_135 d_Mod_pattern_95 (q90.2.1 12) rfl ?_
  refine Mp6 hC kf_Mod_16 d_Mod_pattern_98 ?_
  refine gw_lv [0] rfl ?_
  exact Mod_pattern_p101 ao aa hC N _ _ _ hf
def Mod_pattern_b61 (N : Nat) (k53 : Int32 → Int32 → Int32 → g_S → Option (Int32 × g_S)) (x1 : Int32) (x2 : Int32) (x3 : Int32) (σ : g_S) : Option (Int32 × g_S) := if gIn x3 600 = true then if gIn x3 200 = true then k53 x1 x2 (x3 + 1) (gA σ 1 (x3).toNatClampNeg (σ.2 0 (x3).toNatClampNeg)) else none else none
theorem Mod_pattern_p61 (ao aa : Nat → Nat) {X : g_X} (hC : gC X c_Mod_pattern R_Mod 9 199 4 (some .int)) (N : Nat) (k53 : Int32 → Int32 → Int32 → g_S → Option (Int32 × g_S)) (hk53 : ∀ (x1 : Int32) (x2 : Int32) (x3 : Int32) (σ : g_S) (r : Int32) (σe : g_S), k53 x1 x2 x3 σ = some (r, σe) → gw X (.inl (some (.int r))) (LM ao aa X.2.2.1 σe) (LM ao aa X.2.2.1 σ) [(0, .ref (ao 0)), (1, .int x1), (2, .int x2), (3, .int x3)] 53 []) (x1 : Int32) (x2 : Int32) (x3 : Int32) (σ : g_S) (r : Int32) (σe : g_S) (hf : Mod_pattern_b61 N k53 x1 x2 x3 σ = some (r, σe)) : gw X (.inl (some (.int r))) (LM ao aa X.2.2.1 σe) (LM ao aa X.2.2.1 σ) [(0, .ref (ao 0)), (1, .int x1), (2, .int x2), (3, .int x3)] 61 [] := by
  unfold Mod_pattern_b61 at hf
  refine gw_aload_n hC 0 d_Mod_pattern_61 rfl rfl ?_
  refine Mr_Mod_pattern hC kf_Mod_13 d_Mod_pattern_62 ?_
  refine gw_iload_n hC 3 d_Mod_pattern_65 rfl rfl ?_
  refine gw_aload_n hC 0 d_Mod_pattern_66 rfl rfl ?_
  refine Mr_Mod_told hC kf_Mod_9 d_Mod_pattern_67 ?_
  refine gw_iload_n hC 3 d_Mod_pattern_70 rfl rfl ?_
  obtain ⟨hg71, hf⟩ := g_guard hf
  refine Mald (j := 0) hC (by decide) hg71 d_Mod_pattern_71 (σ.2 0 (x3).toNatClampNeg) rfl ?_
  obtain ⟨hg72, hf⟩ := g_guard hf
  refine Mast (j := 1) hC (by decide) hg72 d_Mod_pattern_72 ?_
  refine gw_iinc hC (x3 + 1) 3 [(3, .int (x3 + 1)), (0, .ref (ao 0)), (1, .int x1), (2, .int x2)] d_Mod_pattern_73 rfl rfl (by decide) rfl ?_
  refine gw_goto hC 53 d_Mod_pattern_76 (by decide) ?_
  refine gw_lv [1, 2, 3, 0] rfl ?_
  exact hk53 _ _ _ _ _ _ hf
def Mod_pattern_b53 (N : Nat) (k53 : Int32 → Int32 → Int32 → g_S → Option (Int32 × g_S)) (x1 : Int32) (x2 : Int32) (x3 : Int32) (σ : g_S) : Option (Int32 × g_S) := if (σ.1 2) ≤ x3 then Mod_pattern_b79 N x1 x2 σ else Mod_pattern_b61 N k53 x1 x2 x3 σ
theorem Mod_pattern_p53 (ao aa : Nat → Nat) {X : g_X} (hC : gC X c_Mod_pattern R_Mod 9 199 4 (some .int)) (N : Nat) (k53 : Int32 → Int32 → Int32 → g_S → Option (Int32 × g_S)) (hk53 : ∀ (x1 : Int32) (x2 : Int32) (x3 : Int32) (σ : g_S) (r : Int32) (σe : g_S), k53 x1 x2 x3 σ = some (r, σe) → gw X (.inl (some (.int r))) (LM ao aa X.2.2.1 σe) (LM ao aa X.2.2.1 σ) [(0, .ref (ao 0)), (1, .int x1), (2, .int x2), (3, .int x3)] 53 []) (x1 : Int32) (x2 : Int32) (x3 : Int32) (σ : g_S) (r : Int32) (σe : g_S) (hf : Mod_pattern_b53 N k53 x1 x2 x3 σ = some (r, σe)) : gw X (.inl (some (.int r))) (LM ao aa X.2.2.1 σe) (LM ao aa X.2.2.1 σ) [(0, .ref (ao 0)), (1, .int x1), (2, .int x2), (3, .int x3)] 53 [] := by
  unfold Mod_pattern_b53 at hf
  refine gw_iload_n hC 3 d_Mod_pattern_53 rfl rfl ?_
  refine gw_aload_n hC 0 d_Mod_pattern_54 rfl rfl ?_
  refine Mg2 hC kf_Mod_132 d_Mod_pattern_55 (σ.1 2) rfl ?_
  refine gw_icmp_ge hC 79 d_Mod_pattern_58 (by decide) (fun hh => ?_) (fun hh => ?_)
  · rw [if_pos hh] at hf
    refine gw_lv [0, 1, 2] rfl ?_
    exact Mod_pattern_p79 ao aa hC N _ _ _ _ _ hf
  · rw [if_neg hh] at hf
    exact Mod_pattern_p61 ao aa hC N _ hk53 _ _ _ _ _ _ hf
def Mod_pattern_l53 (N : Nat) : Nat → Int32 → Int32 → Int32 → g_S → Option (Int32 × g_S)
  | 0 => fun _ _ _ _ => none
  | n + 1 => fun x1 x2 x3 σ => Mod_pattern_b53 N (Mod_pattern_l53 N n) x1 x2 x3 σ
theorem Mod_pattern_q53 (ao aa : Nat → Nat) {X : g_X} (hC : gC X c_Mod_pattern R_Mod 9 199 4 (some .int)) (N : Nat) (n : Nat) : ∀ (x1 : Int32) (x2 : Int32) (x3 : Int32) (σ : g_S) (r : Int32) (σe : g_S), Mod_pattern_l53 N n x1 x2 x3 σ = some (r, σe) → gw X (.inl (some (.int r))) (LM ao aa X.2.2.1 σe) (LM ao aa X.2.2.1 σ) [(0, .ref (ao 0)), (1, .int x1), (2, .int x2), (3, .int x3)] 53 [] := by
  induction n with
  | zero => intro x1 x2 x3 σ r σe hf; cases hf
  | succ n ih => intro x1 x2 x3 σ r σe hf; exact Mod_pattern_p53 ao aa hC N _ (fun x1 x2 x3 σ r2 σ2 h2 => ih x1 x2 x3 σ r2 σ2 h2) x1 x2 x3 σ r σe hf
def Mod_pattern_b51 (N : Nat) (x1 : Int32) (x2 : Int32) (σ : g_S) : Option (Int32 × g_S) := Mod_pattern_l53 N N x1 x2 0 σ
theorem Mod_pattern_p51 (ao aa : Nat → Nat) {X : g_X} (hC : gC X c_Mod_pattern R_Mod 9 199 4 (some .int)) (N : Nat) (x1 : Int32) (x2 : Int32) (σ : g_S) (r : Int32) (σe : g_S) (hf : Mod_pattern_b51 N x1 x2 σ = some (r, σe)) : gw X (.inl (some (.int r))) (LM ao aa X.2.2.1 σe) (LM ao aa X.2.2.1 σ) [(0, .ref (ao 0)), (1, .int x1), (2, .int x2)] 51 [] := by
  unfold Mod_pattern_b51 at hf
  refine gw_iconst hC 0 d_Mod_pattern_51 (by decide) ?_
  refine gw_istore_n hC [(3, .int 0), (0, .ref (ao 0)), (1, .int x1), (2, .int x2)] d_Mod_pattern_52 rfl (by decide) rfl ?_
  refine gw_lv [1, 2, 3, 0] rfl ?_
  exact Mod_pattern_q53 ao aa hC N N _ _ _ _ _ _ hf
def Mod_pattern_b41 (N : Nat) (x1 : Int32) (x2 : Int32) (s1 : Int32) (σ : g_S) : Option (Int32 × g_S) := if 0 ≤ s1 then Mod_pattern_b101 N (gF σ 6 s1) else Mod_pattern_b51 N x1 x2 (gF σ 6 s1)
theorem Mod_pattern_p41 (ao aa : Nat → Nat) {X : g_X} (hC : gC X c_Mod_pattern R_Mod 9 199 4 (some .int)) (N : Nat) (x1 : Int32) (x2 : Int32) (s1 : Int32) (σ : g_S) (r : Int32) (σe : g_S) (hf : Mod_pattern_b41 N x1 x2 s1 σ = some (r, σe)) : gw X (.inl (some (.int r))) (LM ao aa X.2.2.1 σe) (LM ao aa X.2.2.1 σ) [(0, .ref (ao 0)), (1, .int x1), (2, .int x2)] 41 [.int s1, .ref (ao 0)] := by
  unfold Mod_pattern_b41 at hf
  refine Mp6 hC kf_Mod_16 d_Mod_pattern_41 ?_
  refine gw_aload_n hC 0 d_Mod_pattern_44 rfl rfl ?_
  refine Mg6 hC kf_Mod_16 d_Mod_pattern_45 s1 rfl ?_
  refine gw_if_ge hC 101 d_Mod_pattern_48 (by decide) (fun hh => ?_) (fun hh => ?_)
  · rw [if_pos hh] at hf
    refine gw_lv [0] rfl ?_
    exact Mod_pattern_p101 ao aa hC N _ _ _ hf
  · rw [if_neg hh] at hf
    exact Mod_pattern_p51 ao aa hC N _ _ _ _ _ hf
def Mod_pattern_b40 (N : Nat) (x1 : Int32) (x2 : Int32) (σ : g_S) : Option (Int32 × g_S) := Mod_pattern_b41 N x1 x2 (-1) σ
theorem Mod_pattern_p40 (ao aa : Nat → Nat) {X : g_X} (hC : gC X c_Mod_pattern R_Mod 9 199 4 (some .int)) (N : Nat) (x1 : Int32) (x2 : Int32) (σ : g_S) (r : Int32) (σe : g_S) (hf : Mod_pattern_b40 N x1 x2 σ = some (r, σe)) : gw X (.inl (some (.int r))) (LM ao aa X.2.2.1 σe) (LM ao aa X.2.2.1 σ) [(0, .ref (ao 0)), (1, .int x1), (2, .int x2)] 40 [.ref (ao 0)] := by
  unfold Mod_pattern_b40 at hf
  refine gw_iconst hC (-1) d_Mod_pattern_40 (by decide) ?_
  exact Mod_pattern_p41 ao aa hC N _ _ _ _ _ _ hf
def Mod_pattern_b34 (N : Nat) (x1 : Int32) (x2 : Int32) (σ : g_S) : Option (Int32 × g_S) := Mod_pattern_b41 N x1 x2 200 σ
theorem Mod_pattern_p34 (ao aa : Nat → Nat) {X : g_X} (hC : gC X c_Mod_pattern R_Mod 9 199 4 (some .int)) (N : Nat) (x1 : Int32) (x2 : Int32) (σ : g_S) (r : Int32) (σe : g_S) (hf : Mod_pattern_b34 N x1 x2 σ = some (r, σe)) : gw X (.inl (some (.int r))) (LM ao aa X.2.2.1 σe) (LM ao aa X.2.2.1 σ) [(0, .ref (ao 0)), (1, .int x1), (2, .int x2)] 34 [.ref (ao 0)] := by
  unfold Mod_pattern_b34 at hf
  refine gw_sipush hC 200 d_Mod_pattern_34 (by decide) ?_
  refine gw_goto hC 41 d_Mod_pattern_37 (by decide) ?_
  exact Mod_pattern_p41 ao aa hC N _ _ _ _ _ _ hf
def Mod_pattern_b0 (N : Nat) (x1 : Int32) (x2 : Int32) (σ : g_S) : Option (Int32 × g_S) := if (σ.1 1) ≤ 200 then Mod_pattern_b40 N x1 x2 (gF (gF (gF (gF σ 15 0) 5 0) 2 (σ.1 1)) 1 0) else Mod_pattern_b34 N x1 x2 (gF (gF (gF (gF σ 15 0) 5 0) 2 (σ.1 1)) 1 0)
theorem Mod_pattern_p0 (ao aa : Nat → Nat) {X : g_X} (hC : gC X c_Mod_pattern R_Mod 9 199 4 (some .int)) (N : Nat) (x1 : Int32) (x2 : Int32) (σ : g_S) (r : Int32) (σe : g_S) (hf : Mod_pattern_b0 N x1 x2 σ = some (r, σe)) : gw X (.inl (some (.int r))) (LM ao aa X.2.2.1 σe) (LM ao aa X.2.2.1 σ) [(0, .ref (ao 0)), (1, .int x1), (2, .int x2)] 0 [] := by
  unfold Mod_pattern_b0 at hf
  refine gw_aload_n hC 0 d_Mod_pattern_0 rfl rfl ?_
  refine gw_iconst hC 0 d_Mod_pattern_1 (by decide) ?_
  refine Mp15 hC kf_Mod_222 d_Mod_pattern_2 (by decide) ?_
  refine gw_aload_n hC 0 d_Mod_pattern_5 rfl rfl ?_
  refine gw_iconst hC 0 d_Mod_pattern_6 (by decide) ?_
  refine Mp5 hC kf_Mod_226 d_Mod_pattern_7 (by decide) ?_
  refine gw_aload_n hC 0 d_Mod_pattern_10 rfl rfl ?_
  refine gw_aload_n hC 0 d_Mod_pattern_11 rfl rfl ?_
  refine Mg1 hC kf_Mod_107 d_Mod_pattern_12 (σ.1 1) rfl ?_
  refine Mp2 hC kf_Mod_132 d_Mod_pattern_15 ?_
  refine gw_aload_n hC 0 d_Mod_pattern_18 rfl rfl ?_
  refine gw_iconst hC 0 d_Mod_pattern_19 (by decide) ?_
  refine Mp1 hC kf_Mod_107 d_Mod_pattern_20 ?_
  refine gw_aload_n hC 0 d_Mod_pattern_23 rfl rfl ?_
  refine gw_aload_n hC 0 d_Mod_pattern_24 rfl rfl ?_
  refine Mg2 hC kf_Mod_132 d_Mod_pattern_25 (σ.1 1) rfl ?_
  refine gw_sipush hC 200 d_Mod_pattern_28 (by decide) ?_
  refine gw_icmp_le hC 40 d_Mod_pattern_31 (by decide) (fun hh => ?_) (fun hh => ?_)
  · rw [if_pos hh] at hf
    exact Mod_pattern_p40 ao aa hC N _ _ _ _ _ hf
  · rw [if_neg hh] at hf
    exact Mod_pattern_p34 ao aa hC N _ _ _ _ _ hf
def Mod_pattern (N : Nat) (x1 : Int32) (x2 : Int32) (σ : g_S) : Option (Int32 × g_S) := Mod_pattern_b0 N x1 x2 σ
theorem Mod_pattern_m (l : Launch) (D : va_G) (cA : ClassId) (ao aa : Nat → Nat) (N : Nat) (x1 : Int32) (x2 : Int32) (σ : g_S) (r : Int32) (σe : g_S) (hf : Mod_pattern N x1 x2 σ = some (r, σe)) : Mt l D cA y_Mod_pattern c_Mod_pattern 4 (some .int) 9 199 [.ref (ao 0), .int x1, .int x2] (LM ao aa cA σ) (some (.int r)) (LM ao aa cA σe) := by
  refine g_met (by decide +kernel) (by simp [lg_sl, Value.category]) (fun X e1 e2 e3 hC => ?_)
  subst e1 e2 e3
  refine gw_lv [0, 1, 2] rfl ?_
  exact Mod_pattern_p0 ao aa hC N _ _ _ (r) _ hf
def Mod_place_b0 (N : Nat) (σ : g_S) : Option (Int32 × g_S) := some ((σ.1 6), (gF σ 0 0))
theorem Mod_place_p0 (ao aa : Nat → Nat) {X : g_X} (hC : gC X c_Mod_place R_Mod 0 0 1 (some .int)) (N : Nat) (σ : g_S) (r : Int32) (σe : g_S) (hf : Mod_place_b0 N σ = some (r, σe)) : gw X (.inl (some (.int r))) (LM ao aa X.2.2.1 σe) (LM ao aa X.2.2.1 σ) [(0, .ref (ao 0))] 0 [] := by
  unfold Mod_place_b0 at hf
  refine gw_aload_n hC 0 d_Mod_place_0 rfl rfl ?_
  refine gw_iconst hC 0 d_Mod_place_1 (by decide) ?_
  refine Mp0 hC kf_Mod_100 d_Mod_place_2 ?_
  refine gw_aload_n hC 0 d_Mod_place_5 rfl rfl ?_
  refine Mg6 hC kf_Mod_16 d_Mod_place_6 (σ.1 6) rfl ?_
  cases hf
  exact gw_iret hC d_Mod_place_9
def Mod_place (N : Nat) (σ : g_S) : Option (Int32 × g_S) := Mod_place_b0 N  σ
theorem Mod_place_m (l : Launch) (D : va_G) (cA : ClassId) (ao aa : Nat → Nat) (N : Nat) (σ : g_S) (r : Int32) (σe : g_S) (hf : Mod_place N σ = some (r, σe)) : Mt l D cA y_Mod_place c_Mod_place 1 (some .int) 0 0 [.ref (ao 0)] (LM ao aa cA σ) (some (.int r)) (LM ao aa cA σe) := by
  refine g_met (by decide +kernel) (by simp [lg_sl, Value.category]) (fun X e1 e2 e3 hC => ?_)
  subst e1 e2 e3
  refine gw_lv [0] rfl ?_
  exact Mod_place_p0 ao aa hC N _ (r) _ hf
def Mod_text_b46 (N : Nat) (σ : g_S) : Option (Int32 × g_S) := some ((σ.1 7), (gF σ 1 0))
theorem Mod_text_p46 (ao aa : Nat → Nat) {X : g_X} (hC : gC X c_Mod_text R_Mod 0 0 2 (some .int)) (N : Nat) (σ : g_S) (r : Int32) (σe : g_S) (hf : Mod_text_b46 N σ = some (r, σe)) : gw X (.inl (some (.int r))) (LM ao aa X.2.2.1 σe) (LM ao aa X.2.2.1 σ) [(0, .ref (ao 0))] 46 [] := by
  unfold Mod_text_b46 at hf
  refine gw_aload_n hC 0 d_Mod_text_46 rfl rfl ?_
  refine gw_iconst hC 0 d_Mod_text_47 (by decide) ?_
  refine Mp1 hC kf_Mod_107 d_Mod_text_48 ?_
  refine gw_aload_n hC 0 d_Mod_text_51 rfl rfl ?_
  refine Mg7 hC kf_Mod_238 d_Mod_text_52 (σ.1 7) rfl ?_
  cases hf
  exact gw_iret hC d_Mod_text_55
def Mod_text_b28 (N : Nat) (k20 : Int32 → g_S → Option (Int32 × g_S)) (x1 : Int32) (σ : g_S) : Option (Int32 × g_S) := if gIn x1 600 = true then k20 (x1 + 1) (gA σ 2 (x1).toNatClampNeg (σ.2 0 (x1).toNatClampNeg)) else none
theorem Mod_text_p28 (ao aa : Nat → Nat) {X : g_X} (hC : gC X c_Mod_text R_Mod 0 0 2 (some .int)) (N : Nat) (k20 : Int32 → g_S → Option (Int32 × g_S)) (hk20 : ∀ (x1 : Int32) (σ : g_S) (r : Int32) (σe : g_S), k20 x1 σ = some (r, σe) → gw X (.inl (some (.int r))) (LM ao aa X.2.2.1 σe) (LM ao aa X.2.2.1 σ) [(0, .ref (ao 0)), (1, .int x1)] 20 []) (x1 : Int32) (σ : g_S) (r : Int32) (σe : g_S) (hf : Mod_text_b28 N k20 x1 σ = some (r, σe)) : gw X (.inl (some (.int r))) (LM ao aa X.2.2.1 σe) (LM ao aa X.2.2.1 σ) [(0, .ref (ao 0)), (1, .int x1)] 28 [] := by
  unfold Mod_text_b28 at hf
  refine gw_aload_n hC 0 d_Mod_text_28 rfl rfl ?_
  refine Mr_Mod_text hC kf_Mod_20 d_Mod_text_29 ?_
  refine gw_iload_n hC 1 d_Mod_text_32 rfl rfl ?_
  refine gw_aload_n hC 0 d_Mod_text_33 rfl rfl ?_
  refine Mr_Mod_told hC kf_Mod_9 d_Mod_text_34 ?_
  refine gw_iload_n hC 1 d_Mod_text_37 rfl rfl ?_
  obtain ⟨hg38, hf⟩ := g_guard hf
  refine Mald (j := 0) hC (by decide) hg38 d_Mod_text_38 (σ.2 0 (x1).toNatClampNeg) rfl ?_
  refine Mast (j := 2) hC (by decide) hg38 d_Mod_text_39 ?_
  refine gw_iinc hC (x1 + 1) 1 [(1, .int (x1 + 1)), (0, .ref (ao 0))] d_Mod_text_40 rfl rfl (by decide) rfl ?_
  refine gw_goto hC 20 d_Mod_text_43 (by decide) ?_
  refine gw_lv [1, 0] rfl ?_
  exact hk20 _ _ _ _ hf
def Mod_text_b20 (N : Nat) (k20 : Int32 → g_S → Option (Int32 × g_S)) (x1 : Int32) (σ : g_S) : Option (Int32 × g_S) := if (σ.1 7) ≤ x1 then Mod_text_b46 N σ else Mod_text_b28 N k20 x1 σ
theorem Mod_text_p20 (ao aa : Nat → Nat) {X : g_X} (hC : gC X c_Mod_text R_Mod 0 0 2 (some .int)) (N : Nat) (k20 : Int32 → g_S → Option (Int32 × g_S)) (hk20 : ∀ (x1 : Int32) (σ : g_S) (r : Int32) (σe : g_S), k20 x1 σ = some (r, σe) → gw X (.inl (some (.int r))) (LM ao aa X.2.2.1 σe) (LM ao aa X.2.2.1 σ) [(0, .ref (ao 0)), (1, .int x1)] 20 []) (x1 : Int32) (σ : g_S) (r : Int32) (σe : g_S) (hf : Mod_text_b20 N k20 x1 σ = some (r, σe)) : gw X (.inl (some (.int r))) (LM ao aa X.2.2.1 σe) (LM ao aa X.2.2.1 σ) [(0, .ref (ao 0)), (1, .int x1)] 20 [] := by
  unfold Mod_text_b20 at hf
  refine gw_iload_n hC 1 d_Mod_text_20 rfl rfl ?_
  refine gw_aload_n hC 0 d_Mod_text_21 rfl rfl ?_
  refine Mg7 hC kf_Mod_238 d_Mod_text_22 (σ.1 7) rfl ?_
  refine gw_icmp_ge hC 46 d_Mod_text_25 (by decide) (fun hh => ?_) (fun hh => ?_)
  · rw [if_pos hh] at hf
    refine gw_lv [0] rfl ?_
    exact Mod_text_p46 ao aa hC N _ _ _ hf
  · rw [if_neg hh] at hf
    exact Mod_text_p28 ao aa hC N _ hk20 _ _ _ _ hf
def Mod_text_l20 (N : Nat) : Nat → Int32 → g_S → Option (Int32 × g_S)
  | 0 => fun _ _ => none
  | n + 1 => fun x1 σ => Mod_text_b20 N (Mod_text_l20 N n) x1 σ
theorem Mod_text_q20 (ao aa : Nat → Nat) {X : g_X} (hC : gC X c_Mod_text R_Mod 0 0 2 (some .int)) (N : Nat) (n : Nat) : ∀ (x1 : Int32) (σ : g_S) (r : Int32) (σe : g_S), Mod_text_l20 N n x1 σ = some (r, σe) → gw X (.inl (some (.int r))) (LM ao aa X.2.2.1 σe) (LM ao aa X.2.2.1 σ) [(0, .ref (ao 0)), (1, .int x1)] 20 [] := by
  induction n with
  | zero => intro x1 σ r σe hf; cases hf
  | succ n ih => intro x1 σ r σe hf; exact Mod_text_p20 ao aa hC N _ (fun x1 σ r2 σ2 h2 => ih x1 σ r2 σ2 h2) x1 σ r σe hf
def Mod_text_b0 (N : Nat) (σ : g_S) : Option (Int32 × g_S) := Mod_text_l20 N N 0 (gF (gF (gF σ 0 0) 15 0) 7 (σ.1 1))
theorem Mod_text_p0 (ao aa : Nat → Nat) {X : g_X} (hC : gC X c_Mod_text R_Mod 0 0 2 (some .int)) (N : Nat) (σ : g_S) (r : Int32) (σe : g_S) (hf : Mod_text_b0 N σ = some (r, σe)) : gw X (.inl (some (.int r))) (LM ao aa X.2.2.1 σe) (LM ao aa X.2.2.1 σ) [(0, .ref (ao 0))] 0 [] := by
  unfold Mod_text_b0 at hf
  refine gw_aload_n hC 0 d_Mod_text_0 rfl rfl ?_
  refine gw_iconst hC 0 d_Mod_text_1 (by decide) ?_
  refine Mp0 hC kf_Mod_100 d_Mod_text_2 ?_
  refine gw_aload_n hC 0 d_Mod_text_5 rfl rfl ?_
  refine gw_iconst hC 0 d_Mod_text_6 (by decide) ?_
  refine Mp15 hC kf_Mod_222 d_Mod_text_7 (by decide) ?_
  refine gw_aload_n hC 0 d_Mod_text_10 rfl rfl ?_
  refine gw_aload_n hC 0 d_Mod_text_11 rfl rfl ?_
  refine Mg1 hC kf_Mod_107 d_Mod_text_12 (σ.1 1) rfl ?_
  refine Mp7 hC kf_Mod_238 d_Mod_text_15 ?_
  refine gw_iconst hC 0 d_Mod_text_18 (by decide) ?_
  refine gw_istore_n hC [(1, .int 0), (0, .ref (ao 0))] d_Mod_text_19 rfl (by decide) rfl ?_
  refine gw_lv [1, 0] rfl ?_
  exact Mod_text_q20 ao aa hC N N _ _ _ _ hf
def Mod_text (N : Nat) (σ : g_S) : Option (Int32 × g_S) := Mod_text_b0 N  σ
theorem Mod_text_m (l : Launch) (D : va_G) (cA : ClassId) (ao aa : Nat → Nat) (N : Nat) (σ : g_S) (r : Int32) (σe : g_S) (hf : Mod_text N σ = some (r, σe)) : Mt l D cA y_Mod_text c_Mod_text 2 (some .int) 0 0 [.ref (ao 0)] (LM ao aa cA σ) (some (.int r)) (LM ao aa cA σe) := by
  refine g_met (by decide +kernel) (by simp [lg_sl, Value.category]) (fun X e1 e2 e3 hC => ?_)
  subst e1 e2 e3
  refine gw_lv [0] rfl ?_
  exact Mod_text_p0 ao aa hC N _ (r) _ hf
def Mod_row_b0 (N : Nat) (x1 : Int32) (x2 : Int32) (x3 : Int32) (x4 : Int32) (x5 : Int32) (x6 : Int32) (σ : g_S) : Option (Int32 × g_S) := if gIn (σ.1 18) 90000 = true then some ((((σ.1 18) + 1) - 1), (gF (gA (gA (gA (gA (gA (gA σ 18 ((σ.1 18)).toNatClampNeg x1) 19 ((σ.1 18)).toNatClampNeg x2) 20 ((σ.1 18)).toNatClampNeg x3) 21 ((σ.1 18)).toNatClampNeg x4) 22 ((σ.1 18)).toNatClampNeg x5) 23 ((σ.1 18)).toNatClampNeg x6) 18 ((σ.1 18) + 1))) else none
theorem Mod_row_p0 (ao aa : Nat → Nat) {X : g_X} (hC : gC X c_Mod_row R_Mod 0 0 7 (some .int)) (N : Nat) (x1 : Int32) (x2 : Int32) (x3 : Int32) (x4 : Int32) (x5 : Int32) (x6 : Int32) (σ : g_S) (r : Int32) (σe : g_S) (hf : Mod_row_b0 N x1 x2 x3 x4 x5 x6 σ = some (r, σe)) : gw X (.inl (some (.int r))) (LM ao aa X.2.2.1 σe) (LM ao aa X.2.2.1 σ) [(0, .ref (ao 0)), (1, .int x1), (2, .int x2), (3, .int x3), (4, .int x4), (5, .int x5), (6, .int x6)] 0 [] := by
  unfold Mod_row_b0 at hf
  refine gw_aload_n hC 0 d_Mod_row_0 rfl rfl ?_
  refine Mr_Mod_todo hC kf_Mod_69 d_Mod_row_1 ?_
  refine gw_aload_n hC 0 d_Mod_row_4 rfl rfl ?_
  refine Mg18 hC kf_Mod_241 d_Mod_row_5 (σ.1 18) rfl ?_
  refine gw_iload_n hC 1 d_Mod_row_8 rfl rfl ?_
  obtain ⟨hg9, hf⟩ := g_guard hf
  refine Mast (j := 18) hC (by decide) hg9 d_Mod_row_9 ?_
  refine gw_aload_n hC 0 d_Mod_row_10 rfl rfl ?_
  refine Mr_Mod_which hC kf_Mod_72 d_Mod_row_11 ?_
  refine gw_aload_n hC 0 d_Mod_row_14 rfl rfl ?_
  refine Mg18 hC kf_Mod_241 d_Mod_row_15 (σ.1 18) rfl ?_
  refine gw_iload_n hC 2 d_Mod_row_18 rfl rfl ?_
  refine Mast (j := 19) hC (by decide) hg9 d_Mod_row_19 ?_
  refine gw_aload_n hC 0 d_Mod_row_20 rfl rfl ?_
  refine Mr_Mod_next hC kf_Mod_75 d_Mod_row_21 ?_
  refine gw_aload_n hC 0 d_Mod_row_24 rfl rfl ?_
  refine Mg18 hC kf_Mod_241 d_Mod_row_25 (σ.1 18) rfl ?_
  refine gw_iload_n hC 3 d_Mod_row_28 rfl rfl ?_
  refine Mast (j := 20) hC (by decide) hg9 d_Mod_row_29 ?_
  refine gw_aload_n hC 0 d_Mod_row_30 rfl rfl ?_
  refine Mr_Mod_x hC kf_Mod_78 d_Mod_row_31 ?_
  refine gw_aload_n hC 0 d_Mod_row_34 rfl rfl ?_
  refine Mg18 hC kf_Mod_241 d_Mod_row_35 (σ.1 18) rfl ?_
  refine gw_iload hC 4 d_Mod_row_38 rfl ?_
  refine Mast (j := 21) hC (by decide) hg9 d_Mod_row_40 ?_
  refine gw_aload_n hC 0 d_Mod_row_41 rfl rfl ?_
  refine Mr_Mod_y hC kf_Mod_81 d_Mod_row_42 ?_
  refine gw_aload_n hC 0 d_Mod_row_45 rfl rfl ?_
  refine Mg18 hC kf_Mod_241 d_Mod_row_46 (σ.1 18) rfl ?_
  refine gw_iload hC 5 d_Mod_row_49 rfl ?_
  refine Mast (j := 22) hC (by decide) hg9 d_Mod_row_51 ?_
  refine gw_aload_n hC 0 d_Mod_row_52 rfl rfl ?_
  refine Mr_Mod_z hC kf_Mod_84 d_Mod_row_53 ?_
  refine gw_aload_n hC 0 d_Mod_row_56 rfl rfl ?_
  refine Mg18 hC kf_Mod_241 d_Mod_row_57 (σ.1 18) rfl ?_
  refine gw_iload hC 6 d_Mod_row_60 rfl ?_
  refine Mast (j := 23) hC (by decide) hg9 d_Mod_row_62 ?_
  refine gw_aload_n hC 0 d_Mod_row_63 rfl rfl ?_
  refine gw_dup hC d_Mod_row_64 rfl ?_
  refine Mg18 hC kf_Mod_241 d_Mod_row_65 (σ.1 18) rfl ?_
  refine gw_iconst hC 1 d_Mod_row_68 (by decide) ?_
  refine gw_iadd hC d_Mod_row_69 ?_
  refine Mp18 hC kf_Mod_241 d_Mod_row_70 ?_
  refine gw_aload_n hC 0 d_Mod_row_73 rfl rfl ?_
  refine Mg18 hC kf_Mod_241 d_Mod_row_74 ((σ.1 18) + 1) rfl ?_
  refine gw_iconst hC 1 d_Mod_row_77 (by decide) ?_
  refine gw_isub hC d_Mod_row_78 ?_
  cases hf
  exact gw_iret hC d_Mod_row_79
def Mod_row (N : Nat) (x1 : Int32) (x2 : Int32) (x3 : Int32) (x4 : Int32) (x5 : Int32) (x6 : Int32) (σ : g_S) : Option (Int32 × g_S) := Mod_row_b0 N x1 x2 x3 x4 x5 x6 σ
theorem Mod_row_m (l : Launch) (D : va_G) (cA : ClassId) (ao aa : Nat → Nat) (N : Nat) (x1 : Int32) (x2 : Int32) (x3 : Int32) (x4 : Int32) (x5 : Int32) (x6 : Int32) (σ : g_S) (r : Int32) (σe : g_S) (hf : Mod_row N x1 x2 x3 x4 x5 x6 σ = some (r, σe)) : Mt l D cA y_Mod_row c_Mod_row 7 (some .int) 0 0 [.ref (ao 0), .int x1, .int x2, .int x3, .int x4, .int x5, .int x6] (LM ao aa cA σ) (some (.int r)) (LM ao aa cA σe) := by
  refine g_met (by decide +kernel) (by simp [lg_sl, Value.category]) (fun X e1 e2 e3 hC => ?_)
  subst e1 e2 e3
  refine gw_lv [0, 1, 2, 3, 4, 5, 6] rfl ?_
  exact Mod_row_p0 ao aa hC N _ _ _ _ _ _ _ (r) _ hf
