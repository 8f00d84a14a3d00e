theorem kf_Reader_28 : Cond.fieldLink R_Reader 28 "PatternDesk$Reader" "units" "[I" ∈ g_TB := g_mem (List.mem_append_right _ (List.mem_append_left _ (List.mem_of_getElem? (i := 123) (by decide +kernel)))) rfl
theorem kf_Reader_31 : Cond.fieldLink R_Reader 31 "PatternDesk$Reader" "length" "I" ∈ g_TB := g_mem (List.mem_append_right _ (List.mem_append_left _ (List.mem_of_getElem? (i := 128) (by decide +kernel)))) rfl
theorem kc_Reader_72 : g_okV R_Reader 72 y_Program_link c_Program_link 3 none 2 := ⟨g_mem (List.mem_append_right _ (List.mem_append_right _ (List.mem_append_left _ (List.mem_of_getElem? (i := 169) rfl)))) rfl, g_mem (List.mem_append_right _ (List.mem_append_left _ (List.mem_of_getElem? (i := 2) (by decide +kernel)))) rfl, g_mem (List.mem_append_right _ (List.mem_append_right _ (List.mem_append_left _ (List.mem_of_getElem? (i := 166) (by decide +kernel))))) rfl, g_mem (List.mem_append_right _ (List.mem_append_right _ (List.mem_append_left _ (List.mem_of_getElem? (i := 167) (by decide +kernel))))) rfl, g_mem (List.mem_append_right _ (List.mem_append_right _ (List.mem_append_left _ (List.mem_of_getElem? (i := 168) (by decide +kernel))))) rfl, by decide +kernel, by decide +kernel, by decide +kernel⟩
theorem kc_Reader_56 : g_okV R_Reader 56 y_Reader_beginAlternative c_Reader_beginAlternative 1 none 0 := ⟨g_mem (List.mem_append_right _ (List.mem_append_right _ (List.mem_append_left _ (List.mem_of_getElem? (i := 152) rfl)))) rfl, g_mem (List.mem_append_right _ (List.mem_append_left _ (List.mem_of_getElem? (i := 3) (by decide +kernel)))) rfl, g_mem (List.mem_append_right _ (List.mem_append_right _ (List.mem_append_left _ (List.mem_of_getElem? (i := 149) (by decide +kernel))))) rfl, g_mem (List.mem_append_right _ (List.mem_append_right _ (List.mem_append_left _ (List.mem_of_getElem? (i := 151) (by decide +kernel))))) rfl, g_mem (List.mem_append_left _ (List.mem_of_getElem? (i := 1) (by decide +kernel))) rfl, by decide +kernel, by decide +kernel, by decide +kernel⟩
theorem kf_Reader_111 : Cond.fieldLink R_Reader 111 "PatternDesk$Program" "first" "[I" ∈ g_TB := g_mem (List.mem_append_right _ (List.mem_append_left _ (List.mem_of_getElem? (i := 34) (by decide +kernel)))) rfl
theorem kc_Reader_114 : g_okS R_Reader 114 y_Rows_write c_Rows_write 3 none 3 := ⟨g_mem (List.mem_append_right _ (List.mem_append_right _ (List.mem_append_left _ (List.mem_of_getElem? (i := 31) rfl)))) rfl, g_mem (List.mem_append_right _ (List.mem_append_left _ (List.mem_of_getElem? (i := 11) (by decide +kernel)))) rfl, g_mem (List.mem_append_right _ (List.mem_append_right _ (List.mem_append_left _ (List.mem_of_getElem? (i := 171) (by decide +kernel))))) rfl, g_mem (List.mem_append_right _ (List.mem_append_right _ (List.mem_append_left _ (List.mem_of_getElem? (i := 30) (by decide +kernel))))) rfl, by decide +kernel, by decide +kernel, by decide +kernel⟩
theorem kf_Reader_35 : Cond.fieldLink R_Reader 35 "PatternDesk$Reader" "at" "I" ∈ g_TB := g_mem (List.mem_append_right _ (List.mem_append_left _ (List.mem_of_getElem? (i := 129) (by decide +kernel)))) rfl
theorem kf_Reader_11 : Cond.fieldLink R_Reader 11 "PatternDesk$Reader" "openNode" "[I" ∈ g_TB := g_mem (List.mem_append_right _ (List.mem_append_left _ (List.mem_of_getElem? (i := 124) (by decide +kernel)))) rfl
theorem kf_Reader_41 : Cond.fieldLink R_Reader 41 "PatternDesk$Reader" "depth" "I" ∈ g_TB := g_mem (List.mem_append_right _ (List.mem_append_left _ (List.mem_of_getElem? (i := 131) (by decide +kernel)))) rfl
theorem kc_Reader_105 : g_okS R_Reader 105 y_Rows_read c_Rows_read 2 (some .int) 2 := ⟨g_mem (List.mem_append_right _ (List.mem_append_right _ (List.mem_append_left _ (List.mem_of_getElem? (i := 28) rfl)))) rfl, g_mem (List.mem_append_right _ (List.mem_append_left _ (List.mem_of_getElem? (i := 11) (by decide +kernel)))) rfl, g_mem (List.mem_append_right _ (List.mem_append_right _ (List.mem_append_left _ (List.mem_of_getElem? (i := 165) (by decide +kernel))))) rfl, g_mem (List.mem_append_right _ (List.mem_append_right _ (List.mem_append_left _ (List.mem_of_getElem? (i := 27) (by decide +kernel))))) rfl, by decide +kernel, by decide +kernel, by decide +kernel⟩
theorem kf_Reader_15 : Cond.fieldLink R_Reader 15 "PatternDesk$Reader" "outerTail" "[I" ∈ g_TB := g_mem (List.mem_append_right _ (List.mem_append_left _ (List.mem_of_getElem? (i := 125) (by decide +kernel)))) rfl
theorem kf_Reader_18 : Cond.fieldLink R_Reader 18 "PatternDesk$Reader" "outerAlternative" "[I" ∈ g_TB := g_mem (List.mem_append_right _ (List.mem_append_left _ (List.mem_of_getElem? (i := 126) (by decide +kernel)))) rfl
theorem kf_Reader_21 : Cond.fieldLink R_Reader 21 "PatternDesk$Reader" "outerGroups" "[I" ∈ g_TB := g_mem (List.mem_append_right _ (List.mem_append_left _ (List.mem_of_getElem? (i := 127) (by decide +kernel)))) rfl
theorem kf_Reader_118 : Cond.fieldLink R_Reader 118 "PatternDesk$Program" "groups" "I" ∈ g_TB := g_mem (List.mem_append_right _ (List.mem_append_left _ (List.mem_of_getElem? (i := 71) (by decide +kernel)))) rfl
theorem kf_Reader_38 : Cond.fieldLink R_Reader 38 "PatternDesk$Reader" "wrong" "I" ∈ g_TB := g_mem (List.mem_append_right _ (List.mem_append_left _ (List.mem_of_getElem? (i := 130) (by decide +kernel)))) rfl
theorem kf_Reader_124 : Cond.fieldLink R_Reader 124 "PatternDesk$Program" "looks" "I" ∈ g_TB := g_mem (List.mem_append_right _ (List.mem_append_left _ (List.mem_of_getElem? (i := 68) (by decide +kernel)))) rfl
theorem kc_Reader_121 : g_okV R_Reader 121 y_Reader_openParenthesis c_Reader_openParenthesis 4 none 2 := ⟨g_mem (List.mem_append_right _ (List.mem_append_right _ (List.mem_append_left _ (List.mem_of_getElem? (i := 179) rfl)))) rfl, g_mem (List.mem_append_right _ (List.mem_append_left _ (List.mem_of_getElem? (i := 3) (by decide +kernel)))) rfl, g_mem (List.mem_append_right _ (List.mem_append_right _ (List.mem_append_left _ (List.mem_of_getElem? (i := 176) (by decide +kernel))))) rfl, g_mem (List.mem_append_right _ (List.mem_append_right _ (List.mem_append_left _ (List.mem_of_getElem? (i := 178) (by decide +kernel))))) rfl, g_mem (List.mem_append_left _ (List.mem_of_getElem? (i := 6) (by decide +kernel))) rfl, by decide +kernel, by decide +kernel, by decide +kernel⟩
theorem kc_Reader_76 : g_okV R_Reader 76 y_Reader_unitAt c_Reader_unitAt 2 (some .int) 1 := ⟨g_mem (List.mem_append_right _ (List.mem_append_right _ (List.mem_append_left _ (List.mem_of_getElem? (i := 160) rfl)))) rfl, g_mem (List.mem_append_right _ (List.mem_append_left _ (List.mem_of_getElem? (i := 3) (by decide +kernel)))) rfl, g_mem (List.mem_append_right _ (List.mem_append_right _ (List.mem_append_left _ (List.mem_of_getElem? (i := 157) (by decide +kernel))))) rfl, g_mem (List.mem_append_right _ (List.mem_append_right _ (List.mem_append_left _ (List.mem_of_getElem? (i := 159) (by decide +kernel))))) rfl, g_mem (List.mem_append_left _ (List.mem_of_getElem? (i := 3) (by decide +kernel))) rfl, by decide +kernel, by decide +kernel, by decide +kernel⟩
theorem kf_Reader_46 : Cond.fieldLink R_Reader 46 "PatternDesk$Reader" "atomFirst" "I" ∈ g_TB := g_mem (List.mem_append_right _ (List.mem_append_left _ (List.mem_of_getElem? (i := 136) (by decide +kernel)))) rfl
theorem kf_Reader_136 : Cond.fieldLink R_Reader 136 "PatternDesk$Reader" "atomLast" "I" ∈ g_TB := g_mem (List.mem_append_right _ (List.mem_append_left _ (List.mem_of_getElem? (i := 137) (by decide +kernel)))) rfl
theorem kf_Reader_139 : Cond.fieldLink R_Reader 139 "PatternDesk$Reader" "atomGroups" "I" ∈ g_TB := g_mem (List.mem_append_right _ (List.mem_append_left _ (List.mem_of_getElem? (i := 138) (by decide +kernel)))) rfl
theorem kc_Reader_130 : g_okV R_Reader 130 y_Reader_append c_Reader_append 3 none 2 := ⟨g_mem (List.mem_append_right _ (List.mem_append_right _ (List.mem_append_left _ (List.mem_of_getElem? (i := 187) rfl)))) rfl, g_mem (List.mem_append_right _ (List.mem_append_left _ (List.mem_of_getElem? (i := 3) (by decide +kernel)))) rfl, g_mem (List.mem_append_right _ (List.mem_append_right _ (List.mem_append_left _ (List.mem_of_getElem? (i := 184) (by decide +kernel))))) rfl, g_mem (List.mem_append_right _ (List.mem_append_right _ (List.mem_append_left _ (List.mem_of_getElem? (i := 186) (by decide +kernel))))) rfl, g_mem (List.mem_append_left _ (List.mem_of_getElem? (i := 8) (by decide +kernel))) rfl, by decide +kernel, by decide +kernel, by decide +kernel⟩
theorem kc_Reader_133 : g_okV R_Reader 133 y_Reader_holdAtom c_Reader_holdAtom 4 none 3 := ⟨g_mem (List.mem_append_right _ (List.mem_append_right _ (List.mem_append_left _ (List.mem_of_getElem? (i := 191) rfl)))) rfl, g_mem (List.mem_append_right _ (List.mem_append_left _ (List.mem_of_getElem? (i := 3) (by decide +kernel)))) rfl, g_mem (List.mem_append_right _ (List.mem_append_right _ (List.mem_append_left _ (List.mem_of_getElem? (i := 188) (by decide +kernel))))) rfl, g_mem (List.mem_append_right _ (List.mem_append_right _ (List.mem_append_left _ (List.mem_of_getElem? (i := 190) (by decide +kernel))))) rfl, g_mem (List.mem_append_left _ (List.mem_of_getElem? (i := 9) (by decide +kernel))) rfl, by decide +kernel, by decide +kernel, by decide +kernel⟩
theorem kf_Reader_127 : Cond.fieldLink R_Reader 127 "PatternDesk$Program" "kind" "[I" ∈ g_TB := g_mem (List.mem_append_right _ (List.mem_append_left _ (List.mem_of_getElem? (i := 29) (by decide +kernel)))) rfl
theorem kc_Reader_189 : g_okS R_Reader 189 y_Units_isDigit c_Units_isDigit 1 (some .boolean) 1 := ⟨g_mem (List.mem_append_right _ (List.mem_append_right _ (List.mem_append_left _ (List.mem_of_getElem? (i := 206) rfl)))) rfl, g_mem (List.mem_append_right _ (List.mem_append_left _ (List.mem_of_getElem? (i := 12) (by decide +kernel)))) rfl, g_mem (List.mem_append_right _ (List.mem_append_right _ (List.mem_append_left _ (List.mem_of_getElem? (i := 204) (by decide +kernel))))) rfl, g_mem (List.mem_append_right _ (List.mem_append_right _ (List.mem_append_left _ (List.mem_of_getElem? (i := 205) (by decide +kernel))))) rfl, by decide +kernel, by decide +kernel, by decide +kernel⟩
theorem kc_Reader_220 : g_okS R_Reader 220 y_Units_isLetter c_Units_isLetter 1 (some .boolean) 1 := ⟨g_mem (List.mem_append_right _ (List.mem_append_right _ (List.mem_append_left _ (List.mem_of_getElem? (i := 213) rfl)))) rfl, g_mem (List.mem_append_right _ (List.mem_append_left _ (List.mem_of_getElem? (i := 12) (by decide +kernel)))) rfl, g_mem (List.mem_append_right _ (List.mem_append_right _ (List.mem_append_left _ (List.mem_of_getElem? (i := 211) (by decide +kernel))))) rfl, g_mem (List.mem_append_right _ (List.mem_append_right _ (List.mem_append_left _ (List.mem_of_getElem? (i := 212) (by decide +kernel))))) rfl, by decide +kernel, by decide +kernel, by decide +kernel⟩
theorem kc_Reader_223 : g_okS R_Reader 223 y_Units_sixteenth c_Units_sixteenth 1 (some .int) 1 := ⟨g_mem (List.mem_append_right _ (List.mem_append_right _ (List.mem_append_left _ (List.mem_of_getElem? (i := 220) rfl)))) rfl, g_mem (List.mem_append_right _ (List.mem_append_left _ (List.mem_of_getElem? (i := 12) (by decide +kernel)))) rfl, g_mem (List.mem_append_right _ (List.mem_append_right _ (List.mem_append_left _ (List.mem_of_getElem? (i := 218) (by decide +kernel))))) rfl, g_mem (List.mem_append_right _ (List.mem_append_right _ (List.mem_append_left _ (List.mem_of_getElem? (i := 219) (by decide +kernel))))) rfl, by decide +kernel, by decide +kernel, by decide +kernel⟩
theorem d_Reader_unitAt_0 : decode c_Reader_unitAt 0 = .ok (.iload_n 1, 1) := by decide +kernel
theorem d_Reader_unitAt_1 : decode c_Reader_unitAt 1 = .ok (.ifCond .lt 29, 3) := by decide +kernel
theorem d_Reader_unitAt_4 : decode c_Reader_unitAt 4 = .ok (.iload_n 1, 1) := by decide +kernel
theorem d_Reader_unitAt_5 : decode c_Reader_unitAt 5 = .ok (.aload_n 0, 1) := by decide +kernel
theorem d_Reader_unitAt_6 : decode c_Reader_unitAt 6 = .ok (.getfield 31, 3) := by decide +kernel
theorem d_Reader_unitAt_9 : decode c_Reader_unitAt 9 = .ok (.if_icmp .ge 21, 3) := by decide +kernel
theorem d_Reader_unitAt_12 : decode c_Reader_unitAt 12 = .ok (.iload_n 1, 1) := by decide +kernel
theorem d_Reader_unitAt_13 : decode c_Reader_unitAt 13 = .ok (.aload_n 0, 1) := by decide +kernel
theorem d_Reader_unitAt_14 : decode c_Reader_unitAt 14 = .ok (.getfield 28, 3) := by decide +kernel
theorem d_Reader_unitAt_17 : decode c_Reader_unitAt 17 = .ok (.arraylength, 1) := by decide +kernel
theorem d_Reader_unitAt_18 : decode c_Reader_unitAt 18 = .ok (.if_icmp .ge 12, 3) := by decide +kernel
theorem d_Reader_unitAt_21 : decode c_Reader_unitAt 21 = .ok (.aload_n 0, 1) := by decide +kernel
theorem d_Reader_unitAt_22 : decode c_Reader_unitAt 22 = .ok (.getfield 28, 3) := by decide +kernel
theorem d_Reader_unitAt_25 : decode c_Reader_unitAt 25 = .ok (.iload_n 1, 1) := by decide +kernel
theorem d_Reader_unitAt_26 : decode c_Reader_unitAt 26 = .ok (.iaload, 1) := by decide +kernel
theorem d_Reader_unitAt_27 : decode c_Reader_unitAt 27 = .ok (.goto 4, 3) := by decide +kernel
theorem d_Reader_unitAt_30 : decode c_Reader_unitAt 30 = .ok (.iconst (-1), 1) := by decide +kernel
theorem d_Reader_unitAt_31 : decode c_Reader_unitAt 31 = .ok (.ireturn, 1) := by decide +kernel
theorem d_Reader_readBar_0 : decode c_Reader_readBar 0 = .ok (.aload_n 0, 1) := by decide +kernel
theorem d_Reader_readBar_1 : decode c_Reader_readBar 1 = .ok (.getfield 41, 3) := by decide +kernel
theorem d_Reader_readBar_4 : decode c_Reader_readBar 4 = .ok (.ifCond .le 21, 3) := by decide +kernel
theorem d_Reader_readBar_7 : decode c_Reader_readBar 7 = .ok (.aload_n 0, 1) := by decide +kernel
theorem d_Reader_readBar_8 : decode c_Reader_readBar 8 = .ok (.getfield 11, 3) := by decide +kernel
theorem d_Reader_readBar_11 : decode c_Reader_readBar 11 = .ok (.aload_n 0, 1) := by decide +kernel
theorem d_Reader_readBar_12 : decode c_Reader_readBar 12 = .ok (.getfield 41, 3) := by decide +kernel
theorem d_Reader_readBar_15 : decode c_Reader_readBar 15 = .ok (.iconst 1, 1) := by decide +kernel
theorem d_Reader_readBar_16 : decode c_Reader_readBar 16 = .ok (.isub, 1) := by decide +kernel
theorem d_Reader_readBar_17 : decode c_Reader_readBar 17 = .ok (.invokestatic 105, 3) := by decide +kernel
theorem d_Reader_readBar_20 : decode c_Reader_readBar 20 = .ok (.iconst 1, 1) := by decide +kernel
theorem d_Reader_readBar_21 : decode c_Reader_readBar 21 = .ok (.iadd, 1) := by decide +kernel
theorem d_Reader_readBar_22 : decode c_Reader_readBar 22 = .ok (.goto 4, 3) := by decide +kernel
theorem d_Reader_readBar_25 : decode c_Reader_readBar 25 = .ok (.iconst 0, 1) := by decide +kernel
theorem d_Reader_readBar_26 : decode c_Reader_readBar 26 = .ok (.istore_n 1, 1) := by decide +kernel
theorem d_Reader_readBar_27 : decode c_Reader_readBar 27 = .ok (.aload_n 0, 1) := by decide +kernel
theorem d_Reader_readBar_28 : decode c_Reader_readBar 28 = .ok (.getfield 24, 3) := by decide +kernel
theorem d_Reader_readBar_31 : decode c_Reader_readBar 31 = .ok (.aload_n 0, 1) := by decide +kernel
theorem d_Reader_readBar_32 : decode c_Reader_readBar 32 = .ok (.getfield 69, 3) := by decide +kernel
theorem d_Reader_readBar_35 : decode c_Reader_readBar 35 = .ok (.iload_n 1, 1) := by decide +kernel
theorem d_Reader_readBar_36 : decode c_Reader_readBar 36 = .ok (.invokevirtual 72, 3) := by decide +kernel
theorem d_Reader_readBar_39 : decode c_Reader_readBar 39 = .ok (.aload_n 0, 1) := by decide +kernel
theorem d_Reader_readBar_40 : decode c_Reader_readBar 40 = .ok (.getfield 102, 3) := by decide +kernel
theorem d_Reader_readBar_43 : decode c_Reader_readBar 43 = .ok (.istore_n 2, 1) := by decide +kernel
theorem d_Reader_readBar_44 : decode c_Reader_readBar 44 = .ok (.aload_n 0, 1) := by decide +kernel
theorem d_Reader_readBar_45 : decode c_Reader_readBar 45 = .ok (.invokevirtual 56, 3) := by decide +kernel
theorem d_Reader_readBar_48 : decode c_Reader_readBar 48 = .ok (.aload_n 0, 1) := by decide +kernel
theorem d_Reader_readBar_49 : decode c_Reader_readBar 49 = .ok (.getfield 24, 3) := by decide +kernel
theorem d_Reader_readBar_52 : decode c_Reader_readBar 52 = .ok (.getfield 111, 3) := by decide +kernel
theorem d_Reader_readBar_55 : decode c_Reader_readBar 55 = .ok (.iload_n 2, 1) := by decide +kernel
theorem d_Reader_readBar_56 : decode c_Reader_readBar 56 = .ok (.aload_n 0, 1) := by decide +kernel
theorem d_Reader_readBar_57 : decode c_Reader_readBar 57 = .ok (.getfield 102, 3) := by decide +kernel
theorem d_Reader_readBar_60 : decode c_Reader_readBar 60 = .ok (.invokestatic 114, 3) := by decide +kernel
theorem d_Reader_readBar_63 : decode c_Reader_readBar 63 = .ok (.aload_n 0, 1) := by decide +kernel
theorem d_Reader_readBar_64 : decode c_Reader_readBar 64 = .ok (.dup, 1) := by decide +kernel
theorem d_Reader_readBar_65 : decode c_Reader_readBar 65 = .ok (.getfield 35, 3) := by decide +kernel
theorem d_Reader_readBar_68 : decode c_Reader_readBar 68 = .ok (.iconst 1, 1) := by decide +kernel
theorem d_Reader_readBar_69 : decode c_Reader_readBar 69 = .ok (.iadd, 1) := by decide +kernel
theorem d_Reader_readBar_70 : decode c_Reader_readBar 70 = .ok (.putfield 35, 3) := by decide +kernel
theorem d_Reader_readBar_73 : decode c_Reader_readBar 73 = .ok (.return_, 1) := by decide +kernel
theorem d_Reader_openParenthesis_0 : decode c_Reader_openParenthesis 0 = .ok (.aload_n 0, 1) := by decide +kernel
theorem d_Reader_openParenthesis_1 : decode c_Reader_openParenthesis 1 = .ok (.getfield 24, 3) := by decide +kernel
theorem d_Reader_openParenthesis_4 : decode c_Reader_openParenthesis 4 = .ok (.iload_n 1, 1) := by decide +kernel
theorem d_Reader_openParenthesis_5 : decode c_Reader_openParenthesis 5 = .ok (.iload_n 2, 1) := by decide +kernel
theorem d_Reader_openParenthesis_6 : decode c_Reader_openParenthesis 6 = .ok (.iconst 0, 1) := by decide +kernel
theorem d_Reader_openParenthesis_7 : decode c_Reader_openParenthesis 7 = .ok (.invokevirtual 52, 3) := by decide +kernel
theorem d_Reader_openParenthesis_10 : decode c_Reader_openParenthesis 10 = .ok (.istore_n 3, 1) := by decide +kernel
theorem d_Reader_openParenthesis_11 : decode c_Reader_openParenthesis 11 = .ok (.aload_n 0, 1) := by decide +kernel
theorem d_Reader_openParenthesis_12 : decode c_Reader_openParenthesis 12 = .ok (.getfield 24, 3) := by decide +kernel
theorem d_Reader_openParenthesis_15 : decode c_Reader_openParenthesis 15 = .ok (.iload_n 1, 1) := by decide +kernel
theorem d_Reader_openParenthesis_16 : decode c_Reader_openParenthesis 16 = .ok (.iconst 1, 1) := by decide +kernel
theorem d_Reader_openParenthesis_17 : decode c_Reader_openParenthesis 17 = .ok (.iadd, 1) := by decide +kernel
theorem d_Reader_openParenthesis_18 : decode c_Reader_openParenthesis 18 = .ok (.iload_n 2, 1) := by decide +kernel
theorem d_Reader_openParenthesis_19 : decode c_Reader_openParenthesis 19 = .ok (.iconst 0, 1) := by decide +kernel
theorem d_Reader_openParenthesis_20 : decode c_Reader_openParenthesis 20 = .ok (.invokevirtual 52, 3) := by decide +kernel
theorem d_Reader_openParenthesis_23 : decode c_Reader_openParenthesis 23 = .ok (.pop, 1) := by decide +kernel
theorem d_Reader_openParenthesis_24 : decode c_Reader_openParenthesis 24 = .ok (.aload_n 0, 1) := by decide +kernel
theorem d_Reader_openParenthesis_25 : decode c_Reader_openParenthesis 25 = .ok (.getfield 11, 3) := by decide +kernel
theorem d_Reader_openParenthesis_28 : decode c_Reader_openParenthesis 28 = .ok (.aload_n 0, 1) := by decide +kernel
theorem d_Reader_openParenthesis_29 : decode c_Reader_openParenthesis 29 = .ok (.getfield 41, 3) := by decide +kernel
theorem d_Reader_openParenthesis_32 : decode c_Reader_openParenthesis 32 = .ok (.iload_n 3, 1) := by decide +kernel
theorem d_Reader_openParenthesis_33 : decode c_Reader_openParenthesis 33 = .ok (.invokestatic 114, 3) := by decide +kernel
theorem d_Reader_openParenthesis_36 : decode c_Reader_openParenthesis 36 = .ok (.aload_n 0, 1) := by decide +kernel
theorem d_Reader_openParenthesis_37 : decode c_Reader_openParenthesis 37 = .ok (.getfield 15, 3) := by decide +kernel
theorem d_Reader_openParenthesis_40 : decode c_Reader_openParenthesis 40 = .ok (.aload_n 0, 1) := by decide +kernel
theorem d_Reader_openParenthesis_41 : decode c_Reader_openParenthesis 41 = .ok (.getfield 41, 3) := by decide +kernel
theorem d_Reader_openParenthesis_44 : decode c_Reader_openParenthesis 44 = .ok (.aload_n 0, 1) := by decide +kernel
theorem d_Reader_openParenthesis_45 : decode c_Reader_openParenthesis 45 = .ok (.getfield 69, 3) := by decide +kernel
theorem d_Reader_openParenthesis_48 : decode c_Reader_openParenthesis 48 = .ok (.invokestatic 114, 3) := by decide +kernel
theorem d_Reader_openParenthesis_51 : decode c_Reader_openParenthesis 51 = .ok (.aload_n 0, 1) := by decide +kernel
theorem d_Reader_openParenthesis_52 : decode c_Reader_openParenthesis 52 = .ok (.getfield 18, 3) := by decide +kernel
theorem d_Reader_openParenthesis_55 : decode c_Reader_openParenthesis 55 = .ok (.aload_n 0, 1) := by decide +kernel
theorem d_Reader_openParenthesis_56 : decode c_Reader_openParenthesis 56 = .ok (.getfield 41, 3) := by decide +kernel
theorem d_Reader_openParenthesis_59 : decode c_Reader_openParenthesis 59 = .ok (.aload_n 0, 1) := by decide +kernel
theorem d_Reader_openParenthesis_60 : decode c_Reader_openParenthesis 60 = .ok (.getfield 102, 3) := by decide +kernel
theorem d_Reader_openParenthesis_63 : decode c_Reader_openParenthesis 63 = .ok (.invokestatic 114, 3) := by decide +kernel
theorem d_Reader_openParenthesis_66 : decode c_Reader_openParenthesis 66 = .ok (.aload_n 0, 1) := by decide +kernel
theorem d_Reader_openParenthesis_67 : decode c_Reader_openParenthesis 67 = .ok (.getfield 21, 3) := by decide +kernel
theorem d_Reader_openParenthesis_70 : decode c_Reader_openParenthesis 70 = .ok (.aload_n 0, 1) := by decide +kernel
theorem d_Reader_openParenthesis_71 : decode c_Reader_openParenthesis 71 = .ok (.getfield 41, 3) := by decide +kernel
theorem d_Reader_openParenthesis_74 : decode c_Reader_openParenthesis 74 = .ok (.aload_n 0, 1) := by decide +kernel
theorem d_Reader_openParenthesis_75 : decode c_Reader_openParenthesis 75 = .ok (.getfield 24, 3) := by decide +kernel
theorem d_Reader_openParenthesis_78 : decode c_Reader_openParenthesis 78 = .ok (.getfield 118, 3) := by decide +kernel
theorem d_Reader_openParenthesis_81 : decode c_Reader_openParenthesis 81 = .ok (.invokestatic 114, 3) := by decide +kernel
theorem d_Reader_openParenthesis_84 : decode c_Reader_openParenthesis 84 = .ok (.aload_n 0, 1) := by decide +kernel
theorem d_Reader_openParenthesis_85 : decode c_Reader_openParenthesis 85 = .ok (.dup, 1) := by decide +kernel
theorem d_Reader_openParenthesis_86 : decode c_Reader_openParenthesis 86 = .ok (.getfield 41, 3) := by decide +kernel
theorem d_Reader_openParenthesis_89 : decode c_Reader_openParenthesis 89 = .ok (.iconst 1, 1) := by decide +kernel
theorem d_Reader_openParenthesis_90 : decode c_Reader_openParenthesis 90 = .ok (.iadd, 1) := by decide +kernel
theorem d_Reader_openParenthesis_91 : decode c_Reader_openParenthesis 91 = .ok (.putfield 41, 3) := by decide +kernel
theorem d_Reader_openParenthesis_94 : decode c_Reader_openParenthesis 94 = .ok (.aload_n 0, 1) := by decide +kernel
theorem d_Reader_openParenthesis_95 : decode c_Reader_openParenthesis 95 = .ok (.invokevirtual 56, 3) := by decide +kernel
theorem d_Reader_openParenthesis_98 : decode c_Reader_openParenthesis 98 = .ok (.aload_n 0, 1) := by decide +kernel
theorem d_Reader_openParenthesis_99 : decode c_Reader_openParenthesis 99 = .ok (.getfield 24, 3) := by decide +kernel
theorem d_Reader_openParenthesis_102 : decode c_Reader_openParenthesis 102 = .ok (.iload_n 3, 1) := by decide +kernel
theorem d_Reader_openParenthesis_103 : decode c_Reader_openParenthesis 103 = .ok (.aload_n 0, 1) := by decide +kernel
theorem d_Reader_openParenthesis_104 : decode c_Reader_openParenthesis 104 = .ok (.getfield 102, 3) := by decide +kernel
theorem d_Reader_openParenthesis_107 : decode c_Reader_openParenthesis 107 = .ok (.invokevirtual 72, 3) := by decide +kernel
theorem d_Reader_openParenthesis_110 : decode c_Reader_openParenthesis 110 = .ok (.return_, 1) := by decide +kernel
theorem d_Reader_readOpening_0 : decode c_Reader_readOpening 0 = .ok (.aload_n 0, 1) := by decide +kernel
theorem d_Reader_readOpening_1 : decode c_Reader_readOpening 1 = .ok (.aload_n 0, 1) := by decide +kernel
theorem d_Reader_readOpening_2 : decode c_Reader_readOpening 2 = .ok (.getfield 35, 3) := by decide +kernel
theorem d_Reader_readOpening_5 : decode c_Reader_readOpening 5 = .ok (.iconst 1, 1) := by decide +kernel
theorem d_Reader_readOpening_6 : decode c_Reader_readOpening 6 = .ok (.iadd, 1) := by decide +kernel
theorem d_Reader_readOpening_7 : decode c_Reader_readOpening 7 = .ok (.invokevirtual 76, 3) := by decide +kernel
theorem d_Reader_readOpening_10 : decode c_Reader_readOpening 10 = .ok (.bipush 63, 2) := by decide +kernel
theorem d_Reader_readOpening_12 : decode c_Reader_readOpening 12 = .ok (.if_icmp .eq 7, 3) := by decide +kernel
theorem d_Reader_readOpening_15 : decode c_Reader_readOpening 15 = .ok (.iconst 1, 1) := by decide +kernel
theorem d_Reader_readOpening_16 : decode c_Reader_readOpening 16 = .ok (.goto 4, 3) := by decide +kernel
theorem d_Reader_readOpening_19 : decode c_Reader_readOpening 19 = .ok (.iconst 0, 1) := by decide +kernel
theorem d_Reader_readOpening_20 : decode c_Reader_readOpening 20 = .ok (.istore_n 1, 1) := by decide +kernel
theorem d_Reader_readOpening_21 : decode c_Reader_readOpening 21 = .ok (.aload_n 0, 1) := by decide +kernel
theorem d_Reader_readOpening_22 : decode c_Reader_readOpening 22 = .ok (.getfield 41, 3) := by decide +kernel
theorem d_Reader_readOpening_25 : decode c_Reader_readOpening 25 = .ok (.bipush 40, 2) := by decide +kernel
theorem d_Reader_readOpening_27 : decode c_Reader_readOpening 27 = .ok (.if_icmp .ge 19, 3) := by decide +kernel
theorem d_Reader_readOpening_30 : decode c_Reader_readOpening 30 = .ok (.iload_n 1, 1) := by decide +kernel
theorem d_Reader_readOpening_31 : decode c_Reader_readOpening 31 = .ok (.ifCond .eq 24, 3) := by decide +kernel
theorem d_Reader_readOpening_34 : decode c_Reader_readOpening 34 = .ok (.aload_n 0, 1) := by decide +kernel
theorem d_Reader_readOpening_35 : decode c_Reader_readOpening 35 = .ok (.getfield 24, 3) := by decide +kernel
theorem d_Reader_readOpening_38 : decode c_Reader_readOpening 38 = .ok (.getfield 118, 3) := by decide +kernel
theorem d_Reader_readOpening_41 : decode c_Reader_readOpening 41 = .ok (.bipush 20, 2) := by decide +kernel
theorem d_Reader_readOpening_43 : decode c_Reader_readOpening 43 = .ok (.if_icmp .lt 12, 3) := by decide +kernel
theorem d_Reader_readOpening_46 : decode c_Reader_readOpening 46 = .ok (.aload_n 0, 1) := by decide +kernel
theorem d_Reader_readOpening_47 : decode c_Reader_readOpening 47 = .ok (.aload_n 0, 1) := by decide +kernel
theorem d_Reader_readOpening_48 : decode c_Reader_readOpening 48 = .ok (.getfield 35, 3) := by decide +kernel
theorem d_Reader_readOpening_51 : decode c_Reader_readOpening 51 = .ok (.putfield 38, 3) := by decide +kernel
theorem d_Reader_readOpening_54 : decode c_Reader_readOpening 54 = .ok (.return_, 1) := by decide +kernel
theorem d_Reader_readOpening_55 : decode c_Reader_readOpening 55 = .ok (.iload_n 1, 1) := by decide +kernel
theorem d_Reader_readOpening_56 : decode c_Reader_readOpening 56 = .ok (.ifCond .eq 42, 3) := by decide +kernel
theorem d_Reader_readOpening_59 : decode c_Reader_readOpening 59 = .ok (.aload_n 0, 1) := by decide +kernel
theorem d_Reader_readOpening_60 : decode c_Reader_readOpening 60 = .ok (.dup, 1) := by decide +kernel
theorem d_Reader_readOpening_61 : decode c_Reader_readOpening 61 = .ok (.getfield 35, 3) := by decide +kernel
theorem d_Reader_readOpening_64 : decode c_Reader_readOpening 64 = .ok (.iconst 1, 1) := by decide +kernel
theorem d_Reader_readOpening_65 : decode c_Reader_readOpening 65 = .ok (.iadd, 1) := by decide +kernel
theorem d_Reader_readOpening_66 : decode c_Reader_readOpening 66 = .ok (.putfield 35, 3) := by decide +kernel
theorem d_Reader_readOpening_69 : decode c_Reader_readOpening 69 = .ok (.aload_n 0, 1) := by decide +kernel
theorem d_Reader_readOpening_70 : decode c_Reader_readOpening 70 = .ok (.bipush 15, 2) := by decide +kernel
theorem d_Reader_readOpening_72 : decode c_Reader_readOpening 72 = .ok (.aload_n 0, 1) := by decide +kernel
theorem d_Reader_readOpening_73 : decode c_Reader_readOpening 73 = .ok (.getfield 24, 3) := by decide +kernel
theorem d_Reader_readOpening_76 : decode c_Reader_readOpening 76 = .ok (.getfield 118, 3) := by decide +kernel
theorem d_Reader_readOpening_79 : decode c_Reader_readOpening 79 = .ok (.iconst 1, 1) := by decide +kernel
theorem d_Reader_readOpening_80 : decode c_Reader_readOpening 80 = .ok (.iadd, 1) := by decide +kernel
theorem d_Reader_readOpening_81 : decode c_Reader_readOpening 81 = .ok (.invokevirtual 121, 3) := by decide +kernel
theorem d_Reader_readOpening_84 : decode c_Reader_readOpening 84 = .ok (.aload_n 0, 1) := by decide +kernel
theorem d_Reader_readOpening_85 : decode c_Reader_readOpening 85 = .ok (.getfield 24, 3) := by decide +kernel
theorem d_Reader_readOpening_88 : decode c_Reader_readOpening 88 = .ok (.dup, 1) := by decide +kernel
theorem d_Reader_readOpening_89 : decode c_Reader_readOpening 89 = .ok (.getfield 118, 3) := by decide +kernel
theorem d_Reader_readOpening_92 : decode c_Reader_readOpening 92 = .ok (.iconst 1, 1) := by decide +kernel
theorem d_Reader_readOpening_93 : decode c_Reader_readOpening 93 = .ok (.iadd, 1) := by decide +kernel
theorem d_Reader_readOpening_94 : decode c_Reader_readOpening 94 = .ok (.putfield 118, 3) := by decide +kernel
theorem d_Reader_readOpening_97 : decode c_Reader_readOpening 97 = .ok (.return_, 1) := by decide +kernel
theorem d_Reader_readOpening_98 : decode c_Reader_readOpening 98 = .ok (.aload_n 0, 1) := by decide +kernel
theorem d_Reader_readOpening_99 : decode c_Reader_readOpening 99 = .ok (.aload_n 0, 1) := by decide +kernel
theorem d_Reader_readOpening_100 : decode c_Reader_readOpening 100 = .ok (.getfield 35, 3) := by decide +kernel
theorem d_Reader_readOpening_103 : decode c_Reader_readOpening 103 = .ok (.iconst 2, 1) := by decide +kernel
theorem d_Reader_readOpening_104 : decode c_Reader_readOpening 104 = .ok (.iadd, 1) := by decide +kernel
theorem d_Reader_readOpening_105 : decode c_Reader_readOpening 105 = .ok (.invokevirtual 76, 3) := by decide +kernel
theorem d_Reader_readOpening_108 : decode c_Reader_readOpening 108 = .ok (.lookupswitch 104 #[(33, 75), (58, 36), (61, 46)], 36) := by decide +kernel
theorem d_Reader_readOpening_144 : decode c_Reader_readOpening 144 = .ok (.aload_n 0, 1) := by decide +kernel
theorem d_Reader_readOpening_145 : decode c_Reader_readOpening 145 = .ok (.bipush 17, 2) := by decide +kernel
theorem d_Reader_readOpening_147 : decode c_Reader_readOpening 147 = .ok (.iconst 0, 1) := by decide +kernel
theorem d_Reader_readOpening_148 : decode c_Reader_readOpening 148 = .ok (.invokevirtual 121, 3) := by decide +kernel
theorem d_Reader_readOpening_151 : decode c_Reader_readOpening 151 = .ok (.goto 72, 3) := by decide +kernel
theorem d_Reader_readOpening_154 : decode c_Reader_readOpening 154 = .ok (.aload_n 0, 1) := by decide +kernel
theorem d_Reader_readOpening_155 : decode c_Reader_readOpening 155 = .ok (.bipush 19, 2) := by decide +kernel
theorem d_Reader_readOpening_157 : decode c_Reader_readOpening 157 = .ok (.aload_n 0, 1) := by decide +kernel
theorem d_Reader_readOpening_158 : decode c_Reader_readOpening 158 = .ok (.getfield 24, 3) := by decide +kernel
theorem d_Reader_readOpening_161 : decode c_Reader_readOpening 161 = .ok (.getfield 124, 3) := by decide +kernel
theorem d_Reader_readOpening_164 : decode c_Reader_readOpening 164 = .ok (.invokevirtual 121, 3) := by decide +kernel
theorem d_Reader_readOpening_167 : decode c_Reader_readOpening 167 = .ok (.aload_n 0, 1) := by decide +kernel
theorem d_Reader_readOpening_168 : decode c_Reader_readOpening 168 = .ok (.getfield 24, 3) := by decide +kernel
theorem d_Reader_readOpening_171 : decode c_Reader_readOpening 171 = .ok (.dup, 1) := by decide +kernel
theorem d_Reader_readOpening_172 : decode c_Reader_readOpening 172 = .ok (.getfield 124, 3) := by decide +kernel
theorem d_Reader_readOpening_175 : decode c_Reader_readOpening 175 = .ok (.iconst 1, 1) := by decide +kernel
theorem d_Reader_readOpening_176 : decode c_Reader_readOpening 176 = .ok (.iadd, 1) := by decide +kernel
theorem d_Reader_readOpening_177 : decode c_Reader_readOpening 177 = .ok (.putfield 124, 3) := by decide +kernel
theorem d_Reader_readOpening_180 : decode c_Reader_readOpening 180 = .ok (.goto 43, 3) := by decide +kernel
theorem d_Reader_readOpening_183 : decode c_Reader_readOpening 183 = .ok (.aload_n 0, 1) := by decide +kernel
theorem d_Reader_readOpening_184 : decode c_Reader_readOpening 184 = .ok (.bipush 21, 2) := by decide +kernel
theorem d_Reader_readOpening_186 : decode c_Reader_readOpening 186 = .ok (.aload_n 0, 1) := by decide +kernel
theorem d_Reader_readOpening_187 : decode c_Reader_readOpening 187 = .ok (.getfield 24, 3) := by decide +kernel
theorem d_Reader_readOpening_190 : decode c_Reader_readOpening 190 = .ok (.getfield 124, 3) := by decide +kernel
theorem d_Reader_readOpening_193 : decode c_Reader_readOpening 193 = .ok (.invokevirtual 121, 3) := by decide +kernel
theorem d_Reader_readOpening_196 : decode c_Reader_readOpening 196 = .ok (.aload_n 0, 1) := by decide +kernel
theorem d_Reader_readOpening_197 : decode c_Reader_readOpening 197 = .ok (.getfield 24, 3) := by decide +kernel
theorem d_Reader_readOpening_200 : decode c_Reader_readOpening 200 = .ok (.dup, 1) := by decide +kernel
theorem d_Reader_readOpening_201 : decode c_Reader_readOpening 201 = .ok (.getfield 124, 3) := by decide +kernel
theorem d_Reader_readOpening_204 : decode c_Reader_readOpening 204 = .ok (.iconst 1, 1) := by decide +kernel
theorem d_Reader_readOpening_205 : decode c_Reader_readOpening 205 = .ok (.iadd, 1) := by decide +kernel
theorem d_Reader_readOpening_206 : decode c_Reader_readOpening 206 = .ok (.putfield 124, 3) := by decide +kernel
theorem d_Reader_readOpening_209 : decode c_Reader_readOpening 209 = .ok (.goto 14, 3) := by decide +kernel
theorem d_Reader_readOpening_212 : decode c_Reader_readOpening 212 = .ok (.aload_n 0, 1) := by decide +kernel
theorem d_Reader_readOpening_213 : decode c_Reader_readOpening 213 = .ok (.aload_n 0, 1) := by decide +kernel
theorem d_Reader_readOpening_214 : decode c_Reader_readOpening 214 = .ok (.getfield 35, 3) := by decide +kernel
theorem d_Reader_readOpening_217 : decode c_Reader_readOpening 217 = .ok (.iconst 2, 1) := by decide +kernel
theorem d_Reader_readOpening_218 : decode c_Reader_readOpening 218 = .ok (.iadd, 1) := by decide +kernel
theorem d_Reader_readOpening_219 : decode c_Reader_readOpening 219 = .ok (.putfield 38, 3) := by decide +kernel
theorem d_Reader_readOpening_222 : decode c_Reader_readOpening 222 = .ok (.return_, 1) := by decide +kernel
theorem d_Reader_readOpening_223 : decode c_Reader_readOpening 223 = .ok (.aload_n 0, 1) := by decide +kernel
theorem d_Reader_readOpening_224 : decode c_Reader_readOpening 224 = .ok (.dup, 1) := by decide +kernel
theorem d_Reader_readOpening_225 : decode c_Reader_readOpening 225 = .ok (.getfield 35, 3) := by decide +kernel
theorem d_Reader_readOpening_228 : decode c_Reader_readOpening 228 = .ok (.iconst 3, 1) := by decide +kernel
theorem d_Reader_readOpening_229 : decode c_Reader_readOpening 229 = .ok (.iadd, 1) := by decide +kernel
theorem d_Reader_readOpening_230 : decode c_Reader_readOpening 230 = .ok (.putfield 35, 3) := by decide +kernel
theorem d_Reader_readOpening_233 : decode c_Reader_readOpening 233 = .ok (.return_, 1) := by decide +kernel
theorem d_Reader_append_0 : decode c_Reader_append 0 = .ok (.aload_n 0, 1) := by decide +kernel
theorem d_Reader_append_1 : decode c_Reader_append 1 = .ok (.getfield 24, 3) := by decide +kernel
theorem d_Reader_append_4 : decode c_Reader_append 4 = .ok (.aload_n 0, 1) := by decide +kernel
theorem d_Reader_append_5 : decode c_Reader_append 5 = .ok (.getfield 69, 3) := by decide +kernel
theorem d_Reader_append_8 : decode c_Reader_append 8 = .ok (.iload_n 1, 1) := by decide +kernel
theorem d_Reader_append_9 : decode c_Reader_append 9 = .ok (.invokevirtual 72, 3) := by decide +kernel
theorem d_Reader_append_12 : decode c_Reader_append 12 = .ok (.aload_n 0, 1) := by decide +kernel
theorem d_Reader_append_13 : decode c_Reader_append 13 = .ok (.iload_n 2, 1) := by decide +kernel
theorem d_Reader_append_14 : decode c_Reader_append 14 = .ok (.putfield 69, 3) := by decide +kernel
theorem d_Reader_append_17 : decode c_Reader_append 17 = .ok (.return_, 1) := by decide +kernel
theorem d_Reader_holdAtom_0 : decode c_Reader_holdAtom 0 = .ok (.aload_n 0, 1) := by decide +kernel
theorem d_Reader_holdAtom_1 : decode c_Reader_holdAtom 1 = .ok (.iload_n 1, 1) := by decide +kernel
theorem d_Reader_holdAtom_2 : decode c_Reader_holdAtom 2 = .ok (.putfield 46, 3) := by decide +kernel
theorem d_Reader_holdAtom_5 : decode c_Reader_holdAtom 5 = .ok (.aload_n 0, 1) := by decide +kernel
theorem d_Reader_holdAtom_6 : decode c_Reader_holdAtom 6 = .ok (.iload_n 2, 1) := by decide +kernel
theorem d_Reader_holdAtom_7 : decode c_Reader_holdAtom 7 = .ok (.putfield 136, 3) := by decide +kernel
theorem d_Reader_holdAtom_10 : decode c_Reader_holdAtom 10 = .ok (.aload_n 0, 1) := by decide +kernel
theorem d_Reader_holdAtom_11 : decode c_Reader_holdAtom 11 = .ok (.iload_n 3, 1) := by decide +kernel
theorem d_Reader_holdAtom_12 : decode c_Reader_holdAtom 12 = .ok (.putfield 139, 3) := by decide +kernel
theorem d_Reader_holdAtom_15 : decode c_Reader_holdAtom 15 = .ok (.return_, 1) := by decide +kernel
theorem d_Reader_readClosing_0 : decode c_Reader_readClosing 0 = .ok (.aload_n 0, 1) := by decide +kernel
theorem d_Reader_readClosing_1 : decode c_Reader_readClosing 1 = .ok (.getfield 41, 3) := by decide +kernel
theorem d_Reader_readClosing_4 : decode c_Reader_readClosing 4 = .ok (.ifCond .ne 12, 3) := by decide +kernel
theorem d_Reader_readClosing_7 : decode c_Reader_readClosing 7 = .ok (.aload_n 0, 1) := by decide +kernel
theorem d_Reader_readClosing_8 : decode c_Reader_readClosing 8 = .ok (.aload_n 0, 1) := by decide +kernel
theorem d_Reader_readClosing_9 : decode c_Reader_readClosing 9 = .ok (.getfield 35, 3) := by decide +kernel
theorem d_Reader_readClosing_12 : decode c_Reader_readClosing 12 = .ok (.putfield 38, 3) := by decide +kernel
theorem d_Reader_readClosing_15 : decode c_Reader_readClosing 15 = .ok (.return_, 1) := by decide +kernel
theorem d_Reader_readClosing_16 : decode c_Reader_readClosing 16 = .ok (.aload_n 0, 1) := by decide +kernel
theorem d_Reader_readClosing_17 : decode c_Reader_readClosing 17 = .ok (.dup, 1) := by decide +kernel
theorem d_Reader_readClosing_18 : decode c_Reader_readClosing 18 = .ok (.getfield 41, 3) := by decide +kernel
theorem d_Reader_readClosing_21 : decode c_Reader_readClosing 21 = .ok (.iconst 1, 1) := by decide +kernel
theorem d_Reader_readClosing_22 : decode c_Reader_readClosing 22 = .ok (.isub, 1) := by decide +kernel
theorem d_Reader_readClosing_23 : decode c_Reader_readClosing 23 = .ok (.putfield 41, 3) := by decide +kernel
theorem d_Reader_readClosing_26 : decode c_Reader_readClosing 26 = .ok (.aload_n 0, 1) := by decide +kernel
theorem d_Reader_readClosing_27 : decode c_Reader_readClosing 27 = .ok (.getfield 11, 3) := by decide +kernel
theorem d_Reader_readClosing_30 : decode c_Reader_readClosing 30 = .ok (.aload_n 0, 1) := by decide +kernel
theorem d_Reader_readClosing_31 : decode c_Reader_readClosing 31 = .ok (.getfield 41, 3) := by decide +kernel
theorem d_Reader_readClosing_34 : decode c_Reader_readClosing 34 = .ok (.invokestatic 105, 3) := by decide +kernel
theorem d_Reader_readClosing_37 : decode c_Reader_readClosing 37 = .ok (.istore_n 1, 1) := by decide +kernel
theorem d_Reader_readClosing_38 : decode c_Reader_readClosing 38 = .ok (.aload_n 0, 1) := by decide +kernel
theorem d_Reader_readClosing_39 : decode c_Reader_readClosing 39 = .ok (.getfield 24, 3) := by decide +kernel
theorem d_Reader_readClosing_42 : decode c_Reader_readClosing 42 = .ok (.aload_n 0, 1) := by decide +kernel
theorem d_Reader_readClosing_43 : decode c_Reader_readClosing 43 = .ok (.getfield 69, 3) := by decide +kernel
theorem d_Reader_readClosing_46 : decode c_Reader_readClosing 46 = .ok (.iload_n 1, 1) := by decide +kernel
theorem d_Reader_readClosing_47 : decode c_Reader_readClosing 47 = .ok (.iconst 1, 1) := by decide +kernel
theorem d_Reader_readClosing_48 : decode c_Reader_readClosing 48 = .ok (.iadd, 1) := by decide +kernel
theorem d_Reader_readClosing_49 : decode c_Reader_readClosing 49 = .ok (.invokevirtual 72, 3) := by decide +kernel
theorem d_Reader_readClosing_52 : decode c_Reader_readClosing 52 = .ok (.aload_n 0, 1) := by decide +kernel
theorem d_Reader_readClosing_53 : decode c_Reader_readClosing 53 = .ok (.aload_n 0, 1) := by decide +kernel
theorem d_Reader_readClosing_54 : decode c_Reader_readClosing 54 = .ok (.getfield 15, 3) := by decide +kernel
theorem d_Reader_readClosing_57 : decode c_Reader_readClosing 57 = .ok (.aload_n 0, 1) := by decide +kernel
theorem d_Reader_readClosing_58 : decode c_Reader_readClosing 58 = .ok (.getfield 41, 3) := by decide +kernel
theorem d_Reader_readClosing_61 : decode c_Reader_readClosing 61 = .ok (.invokestatic 105, 3) := by decide +kernel
theorem d_Reader_readClosing_64 : decode c_Reader_readClosing 64 = .ok (.putfield 69, 3) := by decide +kernel
theorem d_Reader_readClosing_67 : decode c_Reader_readClosing 67 = .ok (.aload_n 0, 1) := by decide +kernel
theorem d_Reader_readClosing_68 : decode c_Reader_readClosing 68 = .ok (.aload_n 0, 1) := by decide +kernel
theorem d_Reader_readClosing_69 : decode c_Reader_readClosing 69 = .ok (.getfield 18, 3) := by decide +kernel
theorem d_Reader_readClosing_72 : decode c_Reader_readClosing 72 = .ok (.aload_n 0, 1) := by decide +kernel
theorem d_Reader_readClosing_73 : decode c_Reader_readClosing 73 = .ok (.getfield 41, 3) := by decide +kernel
theorem d_Reader_readClosing_76 : decode c_Reader_readClosing 76 = .ok (.invokestatic 105, 3) := by decide +kernel
theorem d_Reader_readClosing_79 : decode c_Reader_readClosing 79 = .ok (.putfield 102, 3) := by decide +kernel
theorem d_Reader_readClosing_82 : decode c_Reader_readClosing 82 = .ok (.aload_n 0, 1) := by decide +kernel
theorem d_Reader_readClosing_83 : decode c_Reader_readClosing 83 = .ok (.dup, 1) := by decide +kernel
theorem d_Reader_readClosing_84 : decode c_Reader_readClosing 84 = .ok (.getfield 35, 3) := by decide +kernel
theorem d_Reader_readClosing_87 : decode c_Reader_readClosing 87 = .ok (.iconst 1, 1) := by decide +kernel
theorem d_Reader_readClosing_88 : decode c_Reader_readClosing 88 = .ok (.iadd, 1) := by decide +kernel
theorem d_Reader_readClosing_89 : decode c_Reader_readClosing 89 = .ok (.putfield 35, 3) := by decide +kernel
theorem d_Reader_readClosing_92 : decode c_Reader_readClosing 92 = .ok (.aload_n 0, 1) := by decide +kernel
theorem d_Reader_readClosing_93 : decode c_Reader_readClosing 93 = .ok (.getfield 24, 3) := by decide +kernel
theorem d_Reader_readClosing_96 : decode c_Reader_readClosing 96 = .ok (.getfield 127, 3) := by decide +kernel
theorem d_Reader_readClosing_99 : decode c_Reader_readClosing 99 = .ok (.iload_n 1, 1) := by decide +kernel
theorem d_Reader_readClosing_100 : decode c_Reader_readClosing 100 = .ok (.invokestatic 105, 3) := by decide +kernel
theorem d_Reader_readClosing_103 : decode c_Reader_readClosing 103 = .ok (.istore_n 2, 1) := by decide +kernel
theorem d_Reader_readClosing_104 : decode c_Reader_readClosing 104 = .ok (.iload_n 2, 1) := by decide +kernel
theorem d_Reader_readClosing_105 : decode c_Reader_readClosing 105 = .ok (.bipush 19, 2) := by decide +kernel
theorem d_Reader_readClosing_107 : decode c_Reader_readClosing 107 = .ok (.if_icmp .eq 9, 3) := by decide +kernel
theorem d_Reader_readClosing_110 : decode c_Reader_readClosing 110 = .ok (.iload_n 2, 1) := by decide +kernel
theorem d_Reader_readClosing_111 : decode c_Reader_readClosing 111 = .ok (.bipush 21, 2) := by decide +kernel
theorem d_Reader_readClosing_113 : decode c_Reader_readClosing 113 = .ok (.if_icmp .ne 14, 3) := by decide +kernel
theorem d_Reader_readClosing_116 : decode c_Reader_readClosing 116 = .ok (.aload_n 0, 1) := by decide +kernel
theorem d_Reader_readClosing_117 : decode c_Reader_readClosing 117 = .ok (.iload_n 1, 1) := by decide +kernel
theorem d_Reader_readClosing_118 : decode c_Reader_readClosing 118 = .ok (.iload_n 1, 1) := by decide +kernel
theorem d_Reader_readClosing_119 : decode c_Reader_readClosing 119 = .ok (.iconst 1, 1) := by decide +kernel
theorem d_Reader_readClosing_120 : decode c_Reader_readClosing 120 = .ok (.iadd, 1) := by decide +kernel
theorem d_Reader_readClosing_121 : decode c_Reader_readClosing 121 = .ok (.invokevirtual 130, 3) := by decide +kernel
theorem d_Reader_readClosing_124 : decode c_Reader_readClosing 124 = .ok (.goto 22, 3) := by decide +kernel
theorem d_Reader_readClosing_127 : decode c_Reader_readClosing 127 = .ok (.aload_n 0, 1) := by decide +kernel
theorem d_Reader_readClosing_128 : decode c_Reader_readClosing 128 = .ok (.iload_n 1, 1) := by decide +kernel
theorem d_Reader_readClosing_129 : decode c_Reader_readClosing 129 = .ok (.iload_n 1, 1) := by decide +kernel
theorem d_Reader_readClosing_130 : decode c_Reader_readClosing 130 = .ok (.iconst 1, 1) := by decide +kernel
theorem d_Reader_readClosing_131 : decode c_Reader_readClosing 131 = .ok (.iadd, 1) := by decide +kernel
theorem d_Reader_readClosing_132 : decode c_Reader_readClosing 132 = .ok (.aload_n 0, 1) := by decide +kernel
theorem d_Reader_readClosing_133 : decode c_Reader_readClosing 133 = .ok (.getfield 21, 3) := by decide +kernel
theorem d_Reader_readClosing_136 : decode c_Reader_readClosing 136 = .ok (.aload_n 0, 1) := by decide +kernel
theorem d_Reader_readClosing_137 : decode c_Reader_readClosing 137 = .ok (.getfield 41, 3) := by decide +kernel
theorem d_Reader_readClosing_140 : decode c_Reader_readClosing 140 = .ok (.invokestatic 105, 3) := by decide +kernel
theorem d_Reader_readClosing_143 : decode c_Reader_readClosing 143 = .ok (.invokevirtual 133, 3) := by decide +kernel
theorem d_Reader_readClosing_146 : decode c_Reader_readClosing 146 = .ok (.return_, 1) := by decide +kernel
theorem d_Reader_readZero_0 : decode c_Reader_readZero 0 = .ok (.aload_n 0, 1) := by decide +kernel
theorem d_Reader_readZero_1 : decode c_Reader_readZero 1 = .ok (.aload_n 0, 1) := by decide +kernel
theorem d_Reader_readZero_2 : decode c_Reader_readZero 2 = .ok (.getfield 35, 3) := by decide +kernel
theorem d_Reader_readZero_5 : decode c_Reader_readZero 5 = .ok (.invokevirtual 76, 3) := by decide +kernel
theorem d_Reader_readZero_8 : decode c_Reader_readZero 8 = .ok (.invokestatic 189, 3) := by decide +kernel
theorem d_Reader_readZero_11 : decode c_Reader_readZero 11 = .ok (.ifCond .eq 11, 3) := by decide +kernel
theorem d_Reader_readZero_14 : decode c_Reader_readZero 14 = .ok (.aload_n 0, 1) := by decide +kernel
theorem d_Reader_readZero_15 : decode c_Reader_readZero 15 = .ok (.aload_n 0, 1) := by decide +kernel
theorem d_Reader_readZero_16 : decode c_Reader_readZero 16 = .ok (.getfield 35, 3) := by decide +kernel
theorem d_Reader_readZero_19 : decode c_Reader_readZero 19 = .ok (.putfield 38, 3) := by decide +kernel
theorem d_Reader_readZero_22 : decode c_Reader_readZero 22 = .ok (.iconst 0, 1) := by decide +kernel
theorem d_Reader_readZero_23 : decode c_Reader_readZero 23 = .ok (.ireturn, 1) := by decide +kernel
theorem d_Reader_readControl_0 : decode c_Reader_readControl 0 = .ok (.aload_n 0, 1) := by decide +kernel
theorem d_Reader_readControl_1 : decode c_Reader_readControl 1 = .ok (.aload_n 0, 1) := by decide +kernel
theorem d_Reader_readControl_2 : decode c_Reader_readControl 2 = .ok (.getfield 35, 3) := by decide +kernel
theorem d_Reader_readControl_5 : decode c_Reader_readControl 5 = .ok (.invokevirtual 76, 3) := by decide +kernel
theorem d_Reader_readControl_8 : decode c_Reader_readControl 8 = .ok (.istore_n 1, 1) := by decide +kernel
theorem d_Reader_readControl_9 : decode c_Reader_readControl 9 = .ok (.iload_n 1, 1) := by decide +kernel
theorem d_Reader_readControl_10 : decode c_Reader_readControl 10 = .ok (.invokestatic 220, 3) := by decide +kernel
theorem d_Reader_readControl_13 : decode c_Reader_readControl 13 = .ok (.ifCond .ne 13, 3) := by decide +kernel
theorem d_Reader_readControl_16 : decode c_Reader_readControl 16 = .ok (.aload_n 0, 1) := by decide +kernel
theorem d_Reader_readControl_17 : decode c_Reader_readControl 17 = .ok (.aload_n 0, 1) := by decide +kernel
theorem d_Reader_readControl_18 : decode c_Reader_readControl 18 = .ok (.getfield 35, 3) := by decide +kernel
theorem d_Reader_readControl_21 : decode c_Reader_readControl 21 = .ok (.putfield 38, 3) := by decide +kernel
theorem d_Reader_readControl_24 : decode c_Reader_readControl 24 = .ok (.iconst 0, 1) := by decide +kernel
theorem d_Reader_readControl_25 : decode c_Reader_readControl 25 = .ok (.ireturn, 1) := by decide +kernel
theorem d_Reader_readControl_26 : decode c_Reader_readControl 26 = .ok (.aload_n 0, 1) := by decide +kernel
theorem d_Reader_readControl_27 : decode c_Reader_readControl 27 = .ok (.dup, 1) := by decide +kernel
theorem d_Reader_readControl_28 : decode c_Reader_readControl 28 = .ok (.getfield 35, 3) := by decide +kernel
theorem d_Reader_readControl_31 : decode c_Reader_readControl 31 = .ok (.iconst 1, 1) := by decide +kernel
theorem d_Reader_readControl_32 : decode c_Reader_readControl 32 = .ok (.iadd, 1) := by decide +kernel
theorem d_Reader_readControl_33 : decode c_Reader_readControl 33 = .ok (.putfield 35, 3) := by decide +kernel
theorem d_Reader_readControl_36 : decode c_Reader_readControl 36 = .ok (.iload_n 1, 1) := by decide +kernel
theorem d_Reader_readControl_37 : decode c_Reader_readControl 37 = .ok (.bipush 31, 2) := by decide +kernel
theorem d_Reader_readControl_39 : decode c_Reader_readControl 39 = .ok (.iand, 1) := by decide +kernel
theorem d_Reader_readControl_40 : decode c_Reader_readControl 40 = .ok (.ireturn, 1) := by decide +kernel
theorem d_Reader_readSixteenths_0 : decode c_Reader_readSixteenths 0 = .ok (.iconst 0, 1) := by decide +kernel
theorem d_Reader_readSixteenths_1 : decode c_Reader_readSixteenths 1 = .ok (.istore_n 2, 1) := by decide +kernel
theorem d_Reader_readSixteenths_2 : decode c_Reader_readSixteenths 2 = .ok (.iconst 0, 1) := by decide +kernel
theorem d_Reader_readSixteenths_3 : decode c_Reader_readSixteenths 3 = .ok (.istore_n 3, 1) := by decide +kernel
theorem d_Reader_readSixteenths_4 : decode c_Reader_readSixteenths 4 = .ok (.iload_n 3, 1) := by decide +kernel
theorem d_Reader_readSixteenths_5 : decode c_Reader_readSixteenths 5 = .ok (.iload_n 1, 1) := by decide +kernel
theorem d_Reader_readSixteenths_6 : decode c_Reader_readSixteenths 6 = .ok (.if_icmp .ge 55, 3) := by decide +kernel
theorem d_Reader_readSixteenths_9 : decode c_Reader_readSixteenths 9 = .ok (.aload_n 0, 1) := by decide +kernel
theorem d_Reader_readSixteenths_10 : decode c_Reader_readSixteenths 10 = .ok (.aload_n 0, 1) := by decide +kernel
theorem d_Reader_readSixteenths_11 : decode c_Reader_readSixteenths 11 = .ok (.getfield 35, 3) := by decide +kernel
theorem d_Reader_readSixteenths_14 : decode c_Reader_readSixteenths 14 = .ok (.invokevirtual 76, 3) := by decide +kernel
theorem d_Reader_readSixteenths_17 : decode c_Reader_readSixteenths 17 = .ok (.invokestatic 223, 3) := by decide +kernel
theorem d_Reader_readSixteenths_20 : decode c_Reader_readSixteenths 20 = .ok (.istore 4, 2) := by decide +kernel
theorem d_Reader_readSixteenths_22 : decode c_Reader_readSixteenths 22 = .ok (.iload 4, 2) := by decide +kernel
theorem d_Reader_readSixteenths_24 : decode c_Reader_readSixteenths 24 = .ok (.ifCond .ge 13, 3) := by decide +kernel
theorem d_Reader_readSixteenths_27 : decode c_Reader_readSixteenths 27 = .ok (.aload_n 0, 1) := by decide +kernel
theorem d_Reader_readSixteenths_28 : decode c_Reader_readSixteenths 28 = .ok (.aload_n 0, 1) := by decide +kernel
theorem d_Reader_readSixteenths_29 : decode c_Reader_readSixteenths 29 = .ok (.getfield 35, 3) := by decide +kernel
theorem d_Reader_readSixteenths_32 : decode c_Reader_readSixteenths 32 = .ok (.putfield 38, 3) := by decide +kernel
theorem d_Reader_readSixteenths_35 : decode c_Reader_readSixteenths 35 = .ok (.iconst 0, 1) := by decide +kernel
theorem d_Reader_readSixteenths_36 : decode c_Reader_readSixteenths 36 = .ok (.ireturn, 1) := by decide +kernel
theorem d_Reader_readSixteenths_37 : decode c_Reader_readSixteenths 37 = .ok (.iload_n 2, 1) := by decide +kernel
theorem d_Reader_readSixteenths_38 : decode c_Reader_readSixteenths 38 = .ok (.bipush 16, 2) := by decide +kernel
theorem d_Reader_readSixteenths_40 : decode c_Reader_readSixteenths 40 = .ok (.imul, 1) := by decide +kernel
theorem d_Reader_readSixteenths_41 : decode c_Reader_readSixteenths 41 = .ok (.iload 4, 2) := by decide +kernel
theorem d_Reader_readSixteenths_43 : decode c_Reader_readSixteenths 43 = .ok (.iadd, 1) := by decide +kernel
theorem d_Reader_readSixteenths_44 : decode c_Reader_readSixteenths 44 = .ok (.istore_n 2, 1) := by decide +kernel
theorem d_Reader_readSixteenths_45 : decode c_Reader_readSixteenths 45 = .ok (.aload_n 0, 1) := by decide +kernel
theorem d_Reader_readSixteenths_46 : decode c_Reader_readSixteenths 46 = .ok (.dup, 1) := by decide +kernel
theorem d_Reader_readSixteenths_47 : decode c_Reader_readSixteenths 47 = .ok (.getfield 35, 3) := by decide +kernel
theorem d_Reader_readSixteenths_50 : decode c_Reader_readSixteenths 50 = .ok (.iconst 1, 1) := by decide +kernel
theorem d_Reader_readSixteenths_51 : decode c_Reader_readSixteenths 51 = .ok (.iadd, 1) := by decide +kernel
theorem d_Reader_readSixteenths_52 : decode c_Reader_readSixteenths 52 = .ok (.putfield 35, 3) := by decide +kernel
theorem d_Reader_readSixteenths_55 : decode c_Reader_readSixteenths 55 = .ok (.iinc 3 1, 3) := by decide +kernel
theorem d_Reader_readSixteenths_58 : decode c_Reader_readSixteenths 58 = .ok (.goto (-54), 3) := by decide +kernel
theorem d_Reader_readSixteenths_61 : decode c_Reader_readSixteenths 61 = .ok (.iload_n 2, 1) := by decide +kernel
theorem d_Reader_readSixteenths_62 : decode c_Reader_readSixteenths 62 = .ok (.ireturn, 1) := by decide +kernel
def Reader_unitAt_b31 (N : Nat) (s0 : Int32) (σ : g_S) : Option (Int32 × g_S) := some (s0, σ)
theorem Reader_unitAt_p31 (ao aa : Nat → Nat) {X : g_X} (hC : gC X c_Reader_unitAt R_Reader 0 0 2 (some .int)) (N : Nat) (s0 : Int32) (σ : g_S) (r : Int32) (σe : g_S) (hf : Reader_unitAt_b31 N s0 σ = some (r, σe)) : gw X (.inl (some (.int r))) (LC ao aa X.2.2.1 σe) (LC ao aa X.2.2.1 σ) [(0, .ref (ao 2))] 31 [.int s0] := by
  unfold Reader_unitAt_b31 at hf
  cases hf
  exact gw_iret hC d_Reader_unitAt_31
def Reader_unitAt_b30 (N : Nat) (σ : g_S) : Option (Int32 × g_S) := Reader_unitAt_b31 N (-1) σ
theorem Reader_unitAt_p30 (ao aa : Nat → Nat) {X : g_X} (hC : gC X c_Reader_unitAt R_Reader 0 0 2 (some .int)) (N : Nat) (σ : g_S) (r : Int32) (σe : g_S) (hf : Reader_unitAt_b30 N σ = some (r, σe)) : gw X (.inl (some (.int r))) (LC ao aa X.2.2.1 σe) (LC ao aa X.2.2.1 σ) [(0, .ref (ao 2))] 30 [] := by
  unfold Reader_unitAt_b30 at hf
  refine gw_iconst hC (-1) d_Reader_unitAt_30 (by decide) ?_
  exact Reader_unitAt_p31 ao aa hC N _ _ _ _ hf
def Reader_unitAt_b21 (N : Nat) (x1 : Int32) (σ : g_S) : Option (Int32 × g_S) := if gIn x1 600 = true then Reader_unitAt_b31 N (σ.2 0 (x1).toNatClampNeg) σ else none
theorem Reader_unitAt_p21 (ao aa : Nat → Nat) {X : g_X} (hC : gC X c_Reader_unitAt R_Reader 0 0 2 (some .int)) (N : Nat) (x1 : Int32) (σ : g_S) (r : Int32) (σe : g_S) (hf : Reader_unitAt_b21 N x1 σ = some (r, σe)) : gw X (.inl (some (.int r))) (LC ao aa X.2.2.1 σe) (LC ao aa X.2.2.1 σ) [(0, .ref (ao 2)), (1, .int x1)] 21 [] := by
  unfold Reader_unitAt_b21 at hf
  refine gw_aload_n hC 0 d_Reader_unitAt_21 rfl rfl ?_
  refine Cr_Reader_units hC kf_Reader_28 d_Reader_unitAt_22 ?_
  refine gw_iload_n hC 1 d_Reader_unitAt_25 rfl rfl ?_
  obtain ⟨hg26, hf⟩ := g_guard hf
  refine Cald (j := 0) hC (by decide) hg26 d_Reader_unitAt_26 (σ.2 0 (x1).toNatClampNeg) rfl ?_
  refine gw_goto hC 31 d_Reader_unitAt_27 (by decide) ?_
  refine gw_lv [0] rfl ?_
  exact Reader_unitAt_p31 ao aa hC N _ _ _ _ hf
def Reader_unitAt_b12 (N : Nat) (x1 : Int32) (σ : g_S) : Option (Int32 × g_S) := if (Int32.ofNat (lenC 0)) ≤ x1 then Reader_unitAt_b30 N σ else Reader_unitAt_b21 N x1 σ
theorem Reader_unitAt_p12 (ao aa : Nat → Nat) {X : g_X} (hC : gC X c_Reader_unitAt R_Reader 0 0 2 (some .int)) (N : Nat) (x1 : Int32) (σ : g_S) (r : Int32) (σe : g_S) (hf : Reader_unitAt_b12 N x1 σ = some (r, σe)) : gw X (.inl (some (.int r))) (LC ao aa X.2.2.1 σe) (LC ao aa X.2.2.1 σ) [(0, .ref (ao 2)), (1, .int x1)] 12 [] := by
  unfold Reader_unitAt_b12 at hf
  refine gw_iload_n hC 1 d_Reader_unitAt_12 rfl rfl ?_
  refine gw_aload_n hC 0 d_Reader_unitAt_13 rfl rfl ?_
  refine Cr_Reader_units hC kf_Reader_28 d_Reader_unitAt_14 ?_
  refine Calen (j := 0) hC (by decide) d_Reader_unitAt_17 ?_
  refine gw_icmp_ge hC 30 d_Reader_unitAt_18 (by decide) (fun hh => ?_) (fun hh => ?_)
  · rw [if_pos hh] at hf
    refine gw_lv [0] rfl ?_
    exact Reader_unitAt_p30 ao aa hC N _ _ _ hf
  · rw [if_neg hh] at hf
    exact Reader_unitAt_p21 ao aa hC N _ _ _ _ hf
def Reader_unitAt_b4 (N : Nat) (x1 : Int32) (σ : g_S) : Option (Int32 × g_S) := if (σ.1 11) ≤ x1 then Reader_unitAt_b30 N σ else Reader_unitAt_b12 N x1 σ
theorem Reader_unitAt_p4 (ao aa : Nat → Nat) {X : g_X} (hC : gC X c_Reader_unitAt R_Reader 0 0 2 (some .int)) (N : Nat) (x1 : Int32) (σ : g_S) (r : Int32) (σe : g_S) (hf : Reader_unitAt_b4 N x1 σ = some (r, σe)) : gw X (.inl (some (.int r))) (LC ao aa X.2.2.1 σe) (LC ao aa X.2.2.1 σ) [(0, .ref (ao 2)), (1, .int x1)] 4 [] := by
  unfold Reader_unitAt_b4 at hf
  refine gw_iload_n hC 1 d_Reader_unitAt_4 rfl rfl ?_
  refine gw_aload_n hC 0 d_Reader_unitAt_5 rfl rfl ?_
  refine Cg11 hC kf_Reader_31 d_Reader_unitAt_6 (σ.1 11) rfl ?_
  refine gw_icmp_ge hC 30 d_Reader_unitAt_9 (by decide) (fun hh => ?_) (fun hh => ?_)
  · rw [if_pos hh] at hf
    refine gw_lv [0] rfl ?_
    exact Reader_unitAt_p30 ao aa hC N _ _ _ hf
  · rw [if_neg hh] at hf
    exact Reader_unitAt_p12 ao aa hC N _ _ _ _ hf
def Reader_unitAt_b0 (N : Nat) (x1 : Int32) (σ : g_S) : Option (Int32 × g_S) := if x1 < 0 then Reader_unitAt_b30 N σ else Reader_unitAt_b4 N x1 σ
theorem Reader_unitAt_p0 (ao aa : Nat → Nat) {X : g_X} (hC : gC X c_Reader_unitAt R_Reader 0 0 2 (some .int)) (N : Nat) (x1 : Int32) (σ : g_S) (r : Int32) (σe : g_S) (hf : Reader_unitAt_b0 N x1 σ = some (r, σe)) : gw X (.inl (some (.int r))) (LC ao aa X.2.2.1 σe) (LC ao aa X.2.2.1 σ) [(0, .ref (ao 2)), (1, .int x1)] 0 [] := by
  unfold Reader_unitAt_b0 at hf
  refine gw_iload_n hC 1 d_Reader_unitAt_0 rfl rfl ?_
  refine gw_if_lt hC 30 d_Reader_unitAt_1 (by decide) (fun hh => ?_) (fun hh => ?_)
  · rw [if_pos hh] at hf
    refine gw_lv [0] rfl ?_
    exact Reader_unitAt_p30 ao aa hC N _ _ _ hf
  · rw [if_neg hh] at hf
    exact Reader_unitAt_p4 ao aa hC N _ _ _ _ hf
def Reader_unitAt (N : Nat) (x1 : Int32) (σ : g_S) : Option (Int32 × g_S) := Reader_unitAt_b0 N x1 σ
theorem Reader_unitAt_m (l : Launch) (D : va_G) (cA : ClassId) (ao aa : Nat → Nat) (N : Nat) (x1 : Int32) (σ : g_S) (r : Int32) (σe : g_S) (hf : Reader_unitAt N x1 σ = some (r, σe)) : Mt l D cA y_Reader_unitAt c_Reader_unitAt 2 (some .int) 0 0 [.ref (ao 2), .int x1] (LC ao aa cA σ) (some (.int r)) (LC ao aa cA σe) := by
  refine g_met (by decide +kernel) (by simp [lg_sl, Value.category]) (fun X e1 e2 e3 hC => ?_)
  subst e1 e2 e3
  refine gw_lv [0, 1] rfl ?_
  exact Reader_unitAt_p0 ao aa hC N _ _ (r) _ hf
def Reader_readBar_b26 (N : Nat) (s0 : Int32) (σ : g_S) : Option (Int32 × g_S) := (Program_link N (σ.1 16) s0 σ).bind fun q36 => (Reader_beginAlternative N q36.2).bind fun q45 => (Rows_write N 3 (q36.2.1 15) (q45.2.1 15) q45.2).bind fun q60 => some (0, (gF q60.2 12 ((q60.2.1 12) + 1)))
theorem Reader_readBar_p26 (ao aa : Nat → Nat) {X : g_X} (hC : gC X c_Reader_readBar R_Reader 2 44 3 none) (N : Nat) (s0 : Int32) (σ : g_S) (r : Int32) (σe : g_S) (hf : Reader_readBar_b26 N s0 σ = some (r, σe)) : gw X (.inl none) (LC ao aa X.2.2.1 σe) (LC ao aa X.2.2.1 σ) [(0, .ref (ao 2))] 26 [.int s0] := by
  unfold Reader_readBar_b26 at hf
  refine gw_istore_n hC [(1, .int s0), (0, .ref (ao 2))] d_Reader_readBar_26 rfl (by decide) rfl ?_
  refine gw_aload_n hC 1 d_Reader_readBar_27 rfl rfl ?_
  refine Cr_Reader_program hC kf_Reader_24 d_Reader_readBar_28 ?_
  refine gw_aload_n hC 1 d_Reader_readBar_31 rfl rfl ?_
  refine Cg16 hC kf_Reader_69 d_Reader_readBar_32 (σ.1 16) rfl ?_
  refine gw_iload_n hC 0 d_Reader_readBar_35 rfl rfl ?_
  obtain ⟨q36, hq36, hf⟩ := g_bind hf
  refine gw_callV hC [.int (σ.1 16), .int s0] [] (Program_link_m _ _ _ ao aa N _ _ _ _ _ hq36) kc_Reader_72 1 (g_lay_obj rfl) rfl rfl ⟨by decide, by decide⟩ (Nat.le_of_ble_eq_true rfl) [.int s0, .int (σ.1 16), .ref (ao 1)] [] rfl rfl d_Reader_readBar_36 ?_
  refine gw_aload_n hC 1 d_Reader_readBar_39 rfl rfl ?_
  refine Cg15 hC kf_Reader_102 d_Reader_readBar_40 (q36.2.1 15) rfl ?_
  refine gw_istore_n hC [(2, .int (q36.2.1 15)), (1, .int s0), (0, .ref (ao 2))] d_Reader_readBar_43 rfl (by decide) rfl ?_
  refine gw_aload_n hC 2 d_Reader_readBar_44 rfl rfl ?_
  obtain ⟨q45, hq45, hf⟩ := g_bind hf
  refine gw_callV hC [] [] (Reader_beginAlternative_m _ _ _ ao aa N _ _ _ hq45) kc_Reader_56 2 (g_lay_obj rfl) rfl rfl ⟨by decide, by decide⟩ (Nat.le_of_ble_eq_true rfl) [.ref (ao 2)] [] rfl rfl d_Reader_readBar_45 ?_
  refine gw_aload_n hC 2 d_Reader_readBar_48 rfl rfl ?_
  refine Cr_Reader_program hC kf_Reader_24 d_Reader_readBar_49 ?_
  refine Cr_Program_first hC kf_Reader_111 d_Reader_readBar_52 ?_
  refine gw_iload_n hC 0 d_Reader_readBar_55 rfl rfl ?_
  refine gw_aload_n hC 2 d_Reader_readBar_56 rfl rfl ?_
  refine Cg15 hC kf_Reader_102 d_Reader_readBar_57 (q45.2.1 15) rfl ?_
  obtain ⟨q60, hq60, hf⟩ := g_bind hf
  refine gw_callS hC [.ref (aa 3), .int (q36.2.1 15), .int (q45.2.1 15)] [] (Rows_write_m _ _ _ ao aa N _ _ _ _ _ _ hq60) kc_Reader_114 ⟨by decide, by decide⟩ (Nat.le_of_ble_eq_true rfl) [.int (q45.2.1 15), .int (q36.2.1 15), .ref (aa 3)] [] rfl rfl d_Reader_readBar_60 ?_
  refine gw_aload_n hC 2 d_Reader_readBar_63 rfl rfl ?_
  refine gw_dup hC d_Reader_readBar_64 rfl ?_
  refine Cg12 hC kf_Reader_35 d_Reader_readBar_65 (q60.2.1 12) rfl ?_
  refine gw_iconst hC 1 d_Reader_readBar_68 (by decide) ?_
  refine gw_iadd hC d_Reader_readBar_69 ?_
  refine Cp12 hC kf_Reader_35 d_Reader_readBar_70 ?_
  cases hf
  exact gw_vret hC d_Reader_readBar_73
def Reader_readBar_b25 (N : Nat) (σ : g_S) : Option (Int32 × g_S) := Reader_readBar_b26 N 0 σ
theorem Reader_readBar_p25 (ao aa : Nat → Nat) {X : g_X} (hC : gC X c_Reader_readBar R_Reader 2 44 3 none) (N : Nat) (σ : g_S) (r : Int32) (σe : g_S) (hf : Reader_readBar_b25 N σ = some (r, σe)) : gw X (.inl none) (LC ao aa X.2.2.1 σe) (LC ao aa X.2.2.1 σ) [(0, .ref (ao 2))] 25 [] := by
  unfold Reader_readBar_b25 at hf
  refine gw_iconst hC 0 d_Reader_readBar_25 (by decide) ?_
  exact Reader_readBar_p26 ao aa hC N _ _ _ _ hf
def Reader_readBar_b7 (N : Nat) (σ : g_S) : Option (Int32 × g_S) := (Rows_read N 13 ((σ.1 14) - 1) σ).bind fun q17 => Reader_readBar_b26 N (q17.1 + 1) q17.2
theorem Reader_readBar_p7 (ao aa : Nat → Nat) {X : g_X} (hC : gC X c_Reader_readBar R_Reader 2 44 3 none) (N : Nat) (σ : g_S) (r : Int32) (σe : g_S) (hf : Reader_readBar_b7 N σ = some (r, σe)) : gw X (.inl none) (LC ao aa X.2.2.1 σe) (LC ao aa X.2.2.1 σ) [(0, .ref (ao 2))] 7 [] := by
  unfold Reader_readBar_b7 at hf
  refine gw_aload_n hC 0 d_Reader_readBar_7 rfl rfl ?_
  refine Cr_Reader_openNode hC kf_Reader_11 d_Reader_readBar_8 ?_
  refine gw_aload_n hC 0 d_Reader_readBar_11 rfl rfl ?_
  refine Cg14 hC kf_Reader_41 d_Reader_readBar_12 (σ.1 14) rfl ?_
  refine gw_iconst hC 1 d_Reader_readBar_15 (by decide) ?_
  refine gw_isub hC d_Reader_readBar_16 ?_
  obtain ⟨q17, hq17, hf⟩ := g_bind hf
  refine gw_callS hC [.ref (aa 13), .int ((σ.1 14) - 1)] [] (Rows_read_m _ _ _ ao aa N _ _ _ _ _ hq17) kc_Reader_105 ⟨by decide, by decide⟩ (Nat.le_of_ble_eq_true rfl) [.int ((σ.1 14) - 1), .ref (aa 13)] [.int q17.1] rfl rfl d_Reader_readBar_17 ?_
  refine gw_iconst hC 1 d_Reader_readBar_20 (by decide) ?_
  refine gw_iadd hC d_Reader_readBar_21 ?_
  refine gw_goto hC 26 d_Reader_readBar_22 (by decide) ?_
  exact Reader_readBar_p26 ao aa hC N _ _ _ _ hf
def Reader_readBar_b0 (N : Nat) (σ : g_S) : Option (Int32 × g_S) := if (σ.1 14) ≤ 0 then Reader_readBar_b25 N σ else Reader_readBar_b7 N σ
theorem Reader_readBar_p0 (ao aa : Nat → Nat) {X : g_X} (hC : gC X c_Reader_readBar R_Reader 2 44 3 none) (N : Nat) (σ : g_S) (r : Int32) (σe : g_S) (hf : Reader_readBar_b0 N σ = some (r, σe)) : gw X (.inl none) (LC ao aa X.2.2.1 σe) (LC ao aa X.2.2.1 σ) [(0, .ref (ao 2))] 0 [] := by
  unfold Reader_readBar_b0 at hf
  refine gw_aload_n hC 0 d_Reader_readBar_0 rfl rfl ?_
  refine Cg14 hC kf_Reader_41 d_Reader_readBar_1 (σ.1 14) rfl ?_
  refine gw_if_le hC 25 d_Reader_readBar_4 (by decide) (fun hh => ?_) (fun hh => ?_)
  · rw [if_pos hh] at hf
    exact Reader_readBar_p25 ao aa hC N _ _ _ hf
  · rw [if_neg hh] at hf
    exact Reader_readBar_p7 ao aa hC N _ _ _ hf
def Reader_readBar (N : Nat) (σ : g_S) : Option (Int32 × g_S) := Reader_readBar_b0 N  σ
theorem Reader_readBar_m (l : Launch) (D : va_G) (cA : ClassId) (ao aa : Nat → Nat) (N : Nat) (σ : g_S) (r : Int32) (σe : g_S) (hf : Reader_readBar N σ = some (r, σe)) : Mt l D cA y_Reader_readBar c_Reader_readBar 3 none 2 44 [.ref (ao 2)] (LC ao aa cA σ) none (LC ao aa cA σe) := by
  refine g_met (by decide +kernel) (by simp [lg_sl, Value.category]) (fun X e1 e2 e3 hC => ?_)
  subst e1 e2 e3
  refine gw_lv [0] rfl ?_
  exact Reader_readBar_p0 ao aa hC N _ (r) _ hf
def Reader_openParenthesis_b0 (N : Nat) (x1 : Int32) (x2 : Int32) (σ : g_S) : Option (Int32 × g_S) := (Program_addNode N x1 x2 0 σ).bind fun q7 => (Program_addNode N (x1 + 1) x2 0 q7.2).bind fun q20 => (Rows_write N 13 (q20.2.1 14) q7.1 q20.2).bind fun q33 => (Rows_write N 14 (q33.2.1 14) (q33.2.1 16) q33.2).bind fun q48 => (Rows_write N 15 (q48.2.1 14) (q48.2.1 15) q48.2).bind fun q63 => (Rows_write N 16 (q63.2.1 14) (q63.2.1 8) q63.2).bind fun q81 => (Reader_beginAlternative N (gF q81.2 14 ((q81.2.1 14) + 1))).bind fun q95 => (Program_link N q7.1 (q95.2.1 15) q95.2).bind fun q107 => some (0, q107.2)
theorem Reader_openParenthesis_p0 (ao aa : Nat → Nat) {X : g_X} (hC : gC X c_Reader_openParenthesis R_Reader 2 44 4 none) (N : Nat) (x1 : Int32) (x2 : Int32) (σ : g_S) (r : Int32) (σe : g_S) (hf : Reader_openParenthesis_b0 N x1 x2 σ = some (r, σe)) : gw X (.inl none) (LC ao aa X.2.2.1 σe) (LC ao aa X.2.2.1 σ) [(0, .ref (ao 2)), (1, .int x1), (2, .int x2)] 0 [] := by
  unfold Reader_openParenthesis_b0 at hf
  refine gw_aload_n hC 0 d_Reader_openParenthesis_0 rfl rfl ?_
  refine Cr_Reader_program hC kf_Reader_24 d_Reader_openParenthesis_1 ?_
  refine gw_iload_n hC 1 d_Reader_openParenthesis_4 rfl rfl ?_
  refine gw_iload_n hC 2 d_Reader_openParenthesis_5 rfl rfl ?_
  refine gw_iconst hC 0 d_Reader_openParenthesis_6 (by decide) ?_
  obtain ⟨q7, hq7, hf⟩ := g_bind hf
  refine gw_callV hC [.int x1, .int x2, .int 0] [] (Program_addNode_m _ _ _ ao aa N _ _ _ _ _ _ hq7) kc_Reader_52 1 (g_lay_obj rfl) rfl rfl ⟨by decide, by decide⟩ (Nat.le_of_ble_eq_true rfl) [.int 0, .int x2, .int x1, .ref (ao 1)] [.int q7.1] rfl rfl d_Reader_openParenthesis_7 ?_
  refine gw_istore_n hC [(3, .int q7.1), (0, .ref (ao 2)), (1, .int x1), (2, .int x2)] d_Reader_openParenthesis_10 rfl (by decide) rfl ?_
  refine gw_aload_n hC 1 d_Reader_openParenthesis_11 rfl rfl ?_
  refine Cr_Reader_program hC kf_Reader_24 d_Reader_openParenthesis_12 ?_
  refine gw_iload_n hC 2 d_Reader_openParenthesis_15 rfl rfl ?_
  refine gw_iconst hC 1 d_Reader_openParenthesis_16 (by decide) ?_
  refine gw_iadd hC d_Reader_openParenthesis_17 ?_
  refine gw_iload_n hC 3 d_Reader_openParenthesis_18 rfl rfl ?_
  refine gw_iconst hC 0 d_Reader_openParenthesis_19 (by decide) ?_
  obtain ⟨q20, hq20, hf⟩ := g_bind hf
  refine gw_callV hC [.int (x1 + 1), .int x2, .int 0] [] (Program_addNode_m _ _ _ ao aa N _ _ _ _ _ _ hq20) kc_Reader_52 1 (g_lay_obj rfl) rfl rfl ⟨by decide, by decide⟩ (Nat.le_of_ble_eq_true rfl) [.int 0, .int x2, .int (x1 + 1), .ref (ao 1)] [.int q20.1] rfl rfl d_Reader_openParenthesis_20 ?_
  refine gw_pop hC d_Reader_openParenthesis_23 rfl ?_
  refine gw_aload_n hC 1 d_Reader_openParenthesis_24 rfl rfl ?_
  refine Cr_Reader_openNode hC kf_Reader_11 d_Reader_openParenthesis_25 ?_
  refine gw_aload_n hC 1 d_Reader_openParenthesis_28 rfl rfl ?_
  refine Cg14 hC kf_Reader_41 d_Reader_openParenthesis_29 (q20.2.1 14) rfl ?_
  refine gw_iload_n hC 0 d_Reader_openParenthesis_32 rfl rfl ?_
  obtain ⟨q33, hq33, hf⟩ := g_bind hf
  refine gw_callS hC [.ref (aa 13), .int (q20.2.1 14), .int q7.1] [] (Rows_write_m _ _ _ ao aa N _ _ _ _ _ _ hq33) kc_Reader_114 ⟨by decide, by decide⟩ (Nat.le_of_ble_eq_true rfl) [.int q7.1, .int (q20.2.1 14), .ref (aa 13)] [] rfl rfl d_Reader_openParenthesis_33 ?_
  refine gw_aload_n hC 1 d_Reader_openParenthesis_36 rfl rfl ?_
  refine Cr_Reader_outerTail hC kf_Reader_15 d_Reader_openParenthesis_37 ?_
  refine gw_aload_n hC 1 d_Reader_openParenthesis_40 rfl rfl ?_
  refine Cg14 hC kf_Reader_41 d_Reader_openParenthesis_41 (q33.2.1 14) rfl ?_
  refine gw_aload_n hC 1 d_Reader_openParenthesis_44 rfl rfl ?_
  refine Cg16 hC kf_Reader_69 d_Reader_openParenthesis_45 (q33.2.1 16) rfl ?_
  obtain ⟨q48, hq48, hf⟩ := g_bind hf
  refine gw_callS hC [.ref (aa 14), .int (q33.2.1 14), .int (q33.2.1 16)] [] (Rows_write_m _ _ _ ao aa N _ _ _ _ _ _ hq48) kc_Reader_114 ⟨by decide, by decide⟩ (Nat.le_of_ble_eq_true rfl) [.int (q33.2.1 16), .int (q33.2.1 14), .ref (aa 14)] [] rfl rfl d_Reader_openParenthesis_48 ?_
  refine gw_aload_n hC 1 d_Reader_openParenthesis_51 rfl rfl ?_
  refine Cr_Reader_outerAlternative hC kf_Reader_18 d_Reader_openParenthesis_52 ?_
  refine gw_aload_n hC 1 d_Reader_openParenthesis_55 rfl rfl ?_
  refine Cg14 hC kf_Reader_41 d_Reader_openParenthesis_56 (q48.2.1 14) rfl ?_
  refine gw_aload_n hC 1 d_Reader_openParenthesis_59 rfl rfl ?_
  refine Cg15 hC kf_Reader_102 d_Reader_openParenthesis_60 (q48.2.1 15) rfl ?_
  obtain ⟨q63, hq63, hf⟩ := g_bind hf
  refine gw_callS hC [.ref (aa 15), .int (q48.2.1 14), .int (q48.2.1 15)] [] (Rows_write_m _ _ _ ao aa N _ _ _ _ _ _ hq63) kc_Reader_114 ⟨by decide, by decide⟩ (Nat.le_of_ble_eq_true rfl) [.int (q48.2.1 15), .int (q48.2.1 14), .ref (aa 15)] [] rfl rfl d_Reader_openParenthesis_63 ?_
  refine gw_aload_n hC 1 d_Reader_openParenthesis_66 rfl rfl ?_
  refine Cr_Reader_outerGroups hC kf_Reader_21 d_Reader_openParenthesis_67 ?_
  refine gw_aload_n hC 1 d_Reader_openParenthesis_70 rfl rfl ?_
  refine Cg14 hC kf_Reader_41 d_Reader_openParenthesis_71 (q63.2.1 14) rfl ?_
  refine gw_aload_n hC 1 d_Reader_openParenthesis_74 rfl rfl ?_
  refine Cr_Reader_program hC kf_Reader_24 d_Reader_openParenthesis_75 ?_
  refine Cg8 hC kf_Reader_118 d_Reader_openParenthesis_78 (q63.2.1 8) rfl ?_
  obtain ⟨q81, hq81, hf⟩ := g_bind hf
  refine gw_callS hC [.ref (aa 16), .int (q63.2.1 14), .int (q63.2.1 8)] [] (Rows_write_m _ _ _ ao aa N _ _ _ _ _ _ hq81) kc_Reader_114 ⟨by decide, by decide⟩ (Nat.le_of_ble_eq_true rfl) [.int (q63.2.1 8), .int (q63.2.1 14), .ref (aa 16)] [] rfl rfl d_Reader_openParenthesis_81 ?_
  refine gw_aload_n hC 1 d_Reader_openParenthesis_84 rfl rfl ?_
  refine gw_dup hC d_Reader_openParenthesis_85 rfl ?_
  refine Cg14 hC kf_Reader_41 d_Reader_openParenthesis_86 (q81.2.1 14) rfl ?_
  refine gw_iconst hC 1 d_Reader_openParenthesis_89 (by decide) ?_
  refine gw_iadd hC d_Reader_openParenthesis_90 ?_
  refine Cp14 hC kf_Reader_41 d_Reader_openParenthesis_91 ?_
  refine gw_aload_n hC 1 d_Reader_openParenthesis_94 rfl rfl ?_
  obtain ⟨q95, hq95, hf⟩ := g_bind hf
  refine gw_callV hC [] [] (Reader_beginAlternative_m _ _ _ ao aa N _ _ _ hq95) kc_Reader_56 2 (g_lay_obj rfl) rfl rfl ⟨by decide, by decide⟩ (Nat.le_of_ble_eq_true rfl) [.ref (ao 2)] [] rfl rfl d_Reader_openParenthesis_95 ?_
  refine gw_aload_n hC 1 d_Reader_openParenthesis_98 rfl rfl ?_
  refine Cr_Reader_program hC kf_Reader_24 d_Reader_openParenthesis_99 ?_
  refine gw_iload_n hC 0 d_Reader_openParenthesis_102 rfl rfl ?_
  refine gw_aload_n hC 1 d_Reader_openParenthesis_103 rfl rfl ?_
  refine Cg15 hC kf_Reader_102 d_Reader_openParenthesis_104 (q95.2.1 15) rfl ?_
  obtain ⟨q107, hq107, hf⟩ := g_bind hf
  refine gw_callV hC [.int q7.1, .int (q95.2.1 15)] [] (Program_link_m _ _ _ ao aa N _ _ _ _ _ hq107) kc_Reader_72 1 (g_lay_obj rfl) rfl rfl ⟨by decide, by decide⟩ (Nat.le_of_ble_eq_true rfl) [.int (q95.2.1 15), .int q7.1, .ref (ao 1)] [] rfl rfl d_Reader_openParenthesis_107 ?_
  cases hf
  exact gw_vret hC d_Reader_openParenthesis_110
def Reader_openParenthesis (N : Nat) (x1 : Int32) (x2 : Int32) (σ : g_S) : Option (Int32 × g_S) := Reader_openParenthesis_b0 N x1 x2 σ
theorem Reader_openParenthesis_m (l : Launch) (D : va_G) (cA : ClassId) (ao aa : Nat → Nat) (N : Nat) (x1 : Int32) (x2 : Int32) (σ : g_S) (r : Int32) (σe : g_S) (hf : Reader_openParenthesis N x1 x2 σ = some (r, σe)) : Mt l D cA y_Reader_openParenthesis c_Reader_openParenthesis 4 none 2 44 [.ref (ao 2), .int x1, .int x2] (LC ao aa cA σ) none (LC ao aa cA σe) := by
  refine g_met (by decide +kernel) (by simp [lg_sl, Value.category]) (fun X e1 e2 e3 hC => ?_)
  subst e1 e2 e3
  refine gw_lv [0, 1, 2] rfl ?_
  exact Reader_openParenthesis_p0 ao aa hC N _ _ _ (r) _ hf
def Reader_readOpening_b46 (N : Nat) (σ : g_S) : Option (Int32 × g_S) := some (0, (gF σ 13 (σ.1 12)))
theorem Reader_readOpening_p46 (ao aa : Nat → Nat) {X : g_X} (hC : gC X c_Reader_readOpening R_Reader 3 67 2 none) (N : Nat) (σ : g_S) (r : Int32) (σe : g_S) (hf : Reader_readOpening_b46 N σ = some (r, σe)) : gw X (.inl none) (LC ao aa X.2.2.1 σe) (LC ao aa X.2.2.1 σ) [(0, .ref (ao 2))] 46 [] := by
  unfold Reader_readOpening_b46 at hf
  refine gw_aload_n hC 0 d_Reader_readOpening_46 rfl rfl ?_
  refine gw_aload_n hC 0 d_Reader_readOpening_47 rfl rfl ?_
  refine Cg12 hC kf_Reader_35 d_Reader_readOpening_48 (σ.1 12) rfl ?_
  refine Cp13 hC kf_Reader_38 d_Reader_readOpening_51 ?_
  cases hf
  exact gw_vret hC d_Reader_readOpening_54
def Reader_readOpening_b223 (N : Nat) (σ : g_S) : Option (Int32 × g_S) := some (0, (gF σ 12 ((σ.1 12) + 3)))
theorem Reader_readOpening_p223 (ao aa : Nat → Nat) {X : g_X} (hC : gC X c_Reader_readOpening R_Reader 3 67 2 none) (N : Nat) (σ : g_S) (r : Int32) (σe : g_S) (hf : Reader_readOpening_b223 N σ = some (r, σe)) : gw X (.inl none) (LC ao aa X.2.2.1 σe) (LC ao aa X.2.2.1 σ) [(0, .ref (ao 2))] 223 [] := by
  unfold Reader_readOpening_b223 at hf
  refine gw_aload_n hC 0 d_Reader_readOpening_223 rfl rfl ?_
  refine gw_dup hC d_Reader_readOpening_224 rfl ?_
  refine Cg12 hC kf_Reader_35 d_Reader_readOpening_225 (σ.1 12) rfl ?_
  refine gw_iconst hC 3 d_Reader_readOpening_228 (by decide) ?_
  refine gw_iadd hC d_Reader_readOpening_229 ?_
  refine Cp12 hC kf_Reader_35 d_Reader_readOpening_230 ?_
  cases hf
  exact gw_vret hC d_Reader_readOpening_233
def Reader_readOpening_b183 (N : Nat) (σ : g_S) : Option (Int32 × g_S) := (Reader_openParenthesis N 21 (σ.1 7) σ).bind fun q193 => Reader_readOpening_b223 N (gF q193.2 7 ((q193.2.1 7) + 1))
theorem Reader_readOpening_p183 (ao aa : Nat → Nat) {X : g_X} (hC : gC X c_Reader_readOpening R_Reader 3 67 2 none) (N : Nat) (σ : g_S) (r : Int32) (σe : g_S) (hf : Reader_readOpening_b183 N σ = some (r, σe)) : gw X (.inl none) (LC ao aa X.2.2.1 σe) (LC ao aa X.2.2.1 σ) [(0, .ref (ao 2))] 183 [] := by
  unfold Reader_readOpening_b183 at hf
  refine gw_aload_n hC 0 d_Reader_readOpening_183 rfl rfl ?_
  refine gw_bipush hC 21 d_Reader_readOpening_184 (by decide) ?_
  refine gw_aload_n hC 0 d_Reader_readOpening_186 rfl rfl ?_
  refine Cr_Reader_program hC kf_Reader_24 d_Reader_readOpening_187 ?_
  refine Cg7 hC kf_Reader_124 d_Reader_readOpening_190 (σ.1 7) rfl ?_
  obtain ⟨q193, hq193, hf⟩ := g_bind hf
  refine gw_callV hC [.int 21, .int (σ.1 7)] [] (Reader_openParenthesis_m _ _ _ ao aa N _ _ _ _ _ hq193) kc_Reader_121 2 (g_lay_obj rfl) rfl rfl ⟨by decide, by decide⟩ (Nat.le_of_ble_eq_true rfl) [.int (σ.1 7), .int 21, .ref (ao 2)] [] rfl rfl d_Reader_readOpening_193 ?_
  refine gw_aload_n hC 0 d_Reader_readOpening_196 rfl rfl ?_
  refine Cr_Reader_program hC kf_Reader_24 d_Reader_readOpening_197 ?_
  refine gw_dup hC d_Reader_readOpening_200 rfl ?_
  refine Cg7 hC kf_Reader_124 d_Reader_readOpening_201 (q193.2.1 7) rfl ?_
  refine gw_iconst hC 1 d_Reader_readOpening_204 (by decide) ?_
  refine gw_iadd hC d_Reader_readOpening_205 ?_
  refine Cp7 hC kf_Reader_124 d_Reader_readOpening_206 ?_
  refine gw_goto hC 223 d_Reader_readOpening_209 (by decide) ?_
  exact Reader_readOpening_p223 ao aa hC N _ _ _ hf
def Reader_readOpening_b144 (N : Nat) (σ : g_S) : Option (Int32 × g_S) := (Reader_openParenthesis N 17 0 σ).bind fun q148 => Reader_readOpening_b223 N q148.2
theorem Reader_readOpening_p144 (ao aa : Nat → Nat) {X : g_X} (hC : gC X c_Reader_readOpening R_Reader 3 67 2 none) (N : Nat) (σ : g_S) (r : Int32) (σe : g_S) (hf : Reader_readOpening_b144 N σ = some (r, σe)) : gw X (.inl none) (LC ao aa X.2.2.1 σe) (LC ao aa X.2.2.1 σ) [(0, .ref (ao 2))] 144 [] := by
  unfold Reader_readOpening_b144 at hf
  refine gw_aload_n hC 0 d_Reader_readOpening_144 rfl rfl ?_
  refine gw_bipush hC 17 d_Reader_readOpening_145 (by decide) ?_
  refine gw_iconst hC 0 d_Reader_readOpening_147 (by decide) ?_
  obtain ⟨q148, hq148, hf⟩ := g_bind hf
  refine gw_callV hC [.int 17, .int 0] [] (Reader_openParenthesis_m _ _ _ ao aa N _ _ _ _ _ hq148) kc_Reader_121 2 (g_lay_obj rfl) rfl rfl ⟨by decide, by decide⟩ (Nat.le_of_ble_eq_true rfl) [.int 0, .int 17, .ref (ao 2)] [] rfl rfl d_Reader_readOpening_148 ?_
  refine gw_goto hC 223 d_Reader_readOpening_151 (by decide) ?_
  exact Reader_readOpening_p223 ao aa hC N _ _ _ hf
def Reader_readOpening_b154 (N : Nat) (σ : g_S) : Option (Int32 × g_S) := (Reader_openParenthesis N 19 (σ.1 7) σ).bind fun q164 => Reader_readOpening_b223 N (gF q164.2 7 ((q164.2.1 7) + 1))
theorem Reader_readOpening_p154 (ao aa : Nat → Nat) {X : g_X} (hC : gC X c_Reader_readOpening R_Reader 3 67 2 none) (N : Nat) (σ : g_S) (r : Int32) (σe : g_S) (hf : Reader_readOpening_b154 N σ = some (r, σe)) : gw X (.inl none) (LC ao aa X.2.2.1 σe) (LC ao aa X.2.2.1 σ) [(0, .ref (ao 2))] 154 [] := by
  unfold Reader_readOpening_b154 at hf
  refine gw_aload_n hC 0 d_Reader_readOpening_154 rfl rfl ?_
  refine gw_bipush hC 19 d_Reader_readOpening_155 (by decide) ?_
  refine gw_aload_n hC 0 d_Reader_readOpening_157 rfl rfl ?_
  refine Cr_Reader_program hC kf_Reader_24 d_Reader_readOpening_158 ?_
  refine Cg7 hC kf_Reader_124 d_Reader_readOpening_161 (σ.1 7) rfl ?_
  obtain ⟨q164, hq164, hf⟩ := g_bind hf
  refine gw_callV hC [.int 19, .int (σ.1 7)] [] (Reader_openParenthesis_m _ _ _ ao aa N _ _ _ _ _ hq164) kc_Reader_121 2 (g_lay_obj rfl) rfl rfl ⟨by decide, by decide⟩ (Nat.le_of_ble_eq_true rfl) [.int (σ.1 7), .int 19, .ref (ao 2)] [] rfl rfl d_Reader_readOpening_164 ?_
  refine gw_aload_n hC 0 d_Reader_readOpening_167 rfl rfl ?_
  refine Cr_Reader_program hC kf_Reader_24 d_Reader_readOpening_168 ?_
  refine gw_dup hC d_Reader_readOpening_171 rfl ?_
  refine Cg7 hC kf_Reader_124 d_Reader_readOpening_172 (q164.2.1 7) rfl ?_
  refine gw_iconst hC 1 d_Reader_readOpening_175 (by decide) ?_
  refine gw_iadd hC d_Reader_readOpening_176 ?_
  refine Cp7 hC kf_Reader_124 d_Reader_readOpening_177 ?_
  refine gw_goto hC 223 d_Reader_readOpening_180 (by decide) ?_
  exact Reader_readOpening_p223 ao aa hC N _ _ _ hf
def Reader_readOpening_b212 (N : Nat) (σ : g_S) : Option (Int32 × g_S) := some (0, (gF σ 13 ((σ.1 12) + 2)))
theorem Reader_readOpening_p212 (ao aa : Nat → Nat) {X : g_X} (hC : gC X c_Reader_readOpening R_Reader 3 67 2 none) (N : Nat) (σ : g_S) (r : Int32) (σe : g_S) (hf : Reader_readOpening_b212 N σ = some (r, σe)) : gw X (.inl none) (LC ao aa X.2.2.1 σe) (LC ao aa X.2.2.1 σ) [(0, .ref (ao 2))] 212 [] := by
  unfold Reader_readOpening_b212 at hf
  refine gw_aload_n hC 0 d_Reader_readOpening_212 rfl rfl ?_
  refine gw_aload_n hC 0 d_Reader_readOpening_213 rfl rfl ?_
  refine Cg12 hC kf_Reader_35 d_Reader_readOpening_214 (σ.1 12) rfl ?_
  refine gw_iconst hC 2 d_Reader_readOpening_217 (by decide) ?_
  refine gw_iadd hC d_Reader_readOpening_218 ?_
  refine Cp13 hC kf_Reader_38 d_Reader_readOpening_219 ?_
  cases hf
  exact gw_vret hC d_Reader_readOpening_222
def Reader_readOpening_b98 (N : Nat) (σ : g_S) : Option (Int32 × g_S) := (Reader_unitAt N ((σ.1 12) + 2) σ).bind fun q105 => if q105.1 = 33 then Reader_readOpening_b183 N q105.2 else if q105.1 = 58 then Reader_readOpening_b144 N q105.2 else if q105.1 = 61 then Reader_readOpening_b154 N q105.2 else Reader_readOpening_b212 N q105.2
theorem Reader_readOpening_p98 (ao aa : Nat → Nat) {X : g_X} (hC : gC X c_Reader_readOpening R_Reader 3 67 2 none) (N : Nat) (σ : g_S) (r : Int32) (σe : g_S) (hf : Reader_readOpening_b98 N σ = some (r, σe)) : gw X (.inl none) (LC ao aa X.2.2.1 σe) (LC ao aa X.2.2.1 σ) [(0, .ref (ao 2))] 98 [] := by
  unfold Reader_readOpening_b98 at hf
  refine gw_aload_n hC 0 d_Reader_readOpening_98 rfl rfl ?_
  refine gw_aload_n hC 0 d_Reader_readOpening_99 rfl rfl ?_
  refine Cg12 hC kf_Reader_35 d_Reader_readOpening_100 (σ.1 12) rfl ?_
  refine gw_iconst hC 2 d_Reader_readOpening_103 (by decide) ?_
  refine gw_iadd hC d_Reader_readOpening_104 ?_
  obtain ⟨q105, hq105, hf⟩ := g_bind hf
  refine gw_callV hC [.int ((σ.1 12) + 2)] [] (Reader_unitAt_m _ _ _ ao aa N _ _ _ _ hq105) kc_Reader_76 2 (g_lay_obj rfl) rfl rfl ⟨by decide, by decide⟩ (Nat.le_of_ble_eq_true rfl) [.int ((σ.1 12) + 2), .ref (ao 2)] [.int q105.1] rfl rfl d_Reader_readOpening_105 ?_
  by_cases hh0 : q105.1 = 33
  · rw [if_pos hh0] at hf
    refine gw_lookup hC 75 183 d_Reader_readOpening_108 (by decide) (by rw [hh0]; decide +kernel) (by decide) ?_
    exact Reader_readOpening_p183 ao aa hC N _ _ _ hf
  · rw [if_neg hh0] at hf
    by_cases hh1 : q105.1 = 58
    · rw [if_pos hh1] at hf
      refine gw_lookup hC 36 144 d_Reader_readOpening_108 (by decide) (by rw [hh1]; decide +kernel) (by decide) ?_
      exact Reader_readOpening_p144 ao aa hC N _ _ _ hf
    · rw [if_neg hh1] at hf
      by_cases hh2 : q105.1 = 61
      · rw [if_pos hh2] at hf
        refine gw_lookup hC 46 154 d_Reader_readOpening_108 (by decide) (by rw [hh2]; decide +kernel) (by decide) ?_
        exact Reader_readOpening_p154 ao aa hC N _ _ _ hf
      · rw [if_neg hh2] at hf
        refine gw_lookup hC 104 212 d_Reader_readOpening_108 (by decide) (g_lk hh0 (by decide) (g_lk hh1 (by decide) (g_lk hh2 (by decide) rfl))) (by decide) ?_
        exact Reader_readOpening_p212 ao aa hC N _ _ _ hf
def Reader_readOpening_b59 (N : Nat) (σ : g_S) : Option (Int32 × g_S) := (Reader_openParenthesis N 15 ((σ.1 8) + 1) (gF σ 12 ((σ.1 12) + 1))).bind fun q81 => some (0, (gF q81.2 8 ((q81.2.1 8) + 1)))
theorem Reader_readOpening_p59 (ao aa : Nat → Nat) {X : g_X} (hC : gC X c_Reader_readOpening R_Reader 3 67 2 none) (N : Nat) (σ : g_S) (r : Int32) (σe : g_S) (hf : Reader_readOpening_b59 N σ = some (r, σe)) : gw X (.inl none) (LC ao aa X.2.2.1 σe) (LC ao aa X.2.2.1 σ) [(0, .ref (ao 2))] 59 [] := by
  unfold Reader_readOpening_b59 at hf
  refine gw_aload_n hC 0 d_Reader_readOpening_59 rfl rfl ?_
  refine gw_dup hC d_Reader_readOpening_60 rfl ?_
  refine Cg12 hC kf_Reader_35 d_Reader_readOpening_61 (σ.1 12) rfl ?_
  refine gw_iconst hC 1 d_Reader_readOpening_64 (by decide) ?_
  refine gw_iadd hC d_Reader_readOpening_65 ?_
  refine Cp12 hC kf_Reader_35 d_Reader_readOpening_66 ?_
  refine gw_aload_n hC 0 d_Reader_readOpening_69 rfl rfl ?_
  refine gw_bipush hC 15 d_Reader_readOpening_70 (by decide) ?_
  refine gw_aload_n hC 0 d_Reader_readOpening_72 rfl rfl ?_
  refine Cr_Reader_program hC kf_Reader_24 d_Reader_readOpening_73 ?_
  refine Cg8 hC kf_Reader_118 d_Reader_readOpening_76 (σ.1 8) rfl ?_
  refine gw_iconst hC 1 d_Reader_readOpening_79 (by decide) ?_
  refine gw_iadd hC d_Reader_readOpening_80 ?_
  obtain ⟨q81, hq81, hf⟩ := g_bind hf
  refine gw_callV hC [.int 15, .int ((σ.1 8) + 1)] [] (Reader_openParenthesis_m _ _ _ ao aa N _ _ _ _ _ hq81) kc_Reader_121 2 (g_lay_obj rfl) rfl rfl ⟨by decide, by decide⟩ (Nat.le_of_ble_eq_true rfl) [.int ((σ.1 8) + 1), .int 15, .ref (ao 2)] [] rfl rfl d_Reader_readOpening_81 ?_
  refine gw_aload_n hC 0 d_Reader_readOpening_84 rfl rfl ?_
  refine Cr_Reader_program hC kf_Reader_24 d_Reader_readOpening_85 ?_
  refine gw_dup hC d_Reader_readOpening_88 rfl ?_
  refine Cg8 hC kf_Reader_118 d_Reader_readOpening_89 (q81.2.1 8) rfl ?_
  refine gw_iconst hC 1 d_Reader_readOpening_92 (by decide) ?_
  refine gw_iadd hC d_Reader_readOpening_93 ?_
  refine Cp8 hC kf_Reader_118 d_Reader_readOpening_94 ?_
  cases hf
  exact gw_vret hC d_Reader_readOpening_97
def Reader_readOpening_b55 (N : Nat) (x1 : Int32) (σ : g_S) : Option (Int32 × g_S) := if x1 = 0 then Reader_readOpening_b98 N σ else Reader_readOpening_b59 N σ
theorem Reader_readOpening_p55 (ao aa : Nat → Nat) {X : g_X} (hC : gC X c_Reader_readOpening R_Reader 3 67 2 none) (N : Nat) (x1 : Int32) (σ : g_S) (r : Int32) (σe : g_S) (hf : Reader_readOpening_b55 N x1 σ = some (r, σe)) : gw X (.inl none) (LC ao aa X.2.2.1 σe) (LC ao aa X.2.2.1 σ) [(0, .ref (ao 2)), (1, .int x1)] 55 [] := by
  unfold Reader_readOpening_b55 at hf
  refine gw_iload_n hC 1 d_Reader_readOpening_55 rfl rfl ?_
  refine gw_if_eq hC 98 d_Reader_readOpening_56 (by decide) (fun hh => ?_) (fun hh => ?_)
  · rw [if_pos hh] at hf
    refine gw_lv [0] rfl ?_
    exact Reader_readOpening_p98 ao aa hC N _ _ _ hf
  · rw [if_neg hh] at hf
    refine gw_lv [0] rfl ?_
    exact Reader_readOpening_p59 ao aa hC N _ _ _ hf
def Reader_readOpening_b34 (N : Nat) (x1 : Int32) (σ : g_S) : Option (Int32 × g_S) := if (σ.1 8) < 20 then Reader_readOpening_b55 N x1 σ else Reader_readOpening_b46 N σ
theorem Reader_readOpening_p34 (ao aa : Nat → Nat) {X : g_X} (hC : gC X c_Reader_readOpening R_Reader 3 67 2 none) (N : Nat) (x1 : Int32) (σ : g_S) (r : Int32) (σe : g_S) (hf : Reader_readOpening_b34 N x1 σ = some (r, σe)) : gw X (.inl none) (LC ao aa X.2.2.1 σe) (LC ao aa X.2.2.1 σ) [(0, .ref (ao 2)), (1, .int x1)] 34 [] := by
  unfold Reader_readOpening_b34 at hf
  refine gw_aload_n hC 0 d_Reader_readOpening_34 rfl rfl ?_
  refine Cr_Reader_program hC kf_Reader_24 d_Reader_readOpening_35 ?_
  refine Cg8 hC kf_Reader_118 d_Reader_readOpening_38 (σ.1 8) rfl ?_
  refine gw_bipush hC 20 d_Reader_readOpening_41 (by decide) ?_
  refine gw_icmp_lt hC 55 d_Reader_readOpening_43 (by decide) (fun hh => ?_) (fun hh => ?_)
  · rw [if_pos hh] at hf
    exact Reader_readOpening_p55 ao aa hC N _ _ _ _ hf
  · rw [if_neg hh] at hf
    refine gw_lv [0] rfl ?_
    exact Reader_readOpening_p46 ao aa hC N _ _ _ hf
def Reader_readOpening_b30 (N : Nat) (x1 : Int32) (σ : g_S) : Option (Int32 × g_S) := if x1 = 0 then Reader_readOpening_b55 N x1 σ else Reader_readOpening_b34 N x1 σ
theorem Reader_readOpening_p30 (ao aa : Nat → Nat) {X : g_X} (hC : gC X c_Reader_readOpening R_Reader 3 67 2 none) (N : Nat) (x1 : Int32) (σ : g_S) (r : Int32) (σe : g_S) (hf : Reader_readOpening_b30 N x1 σ = some (r, σe)) : gw X (.inl none) (LC ao aa X.2.2.1 σe) (LC ao aa X.2.2.1 σ) [(0, .ref (ao 2)), (1, .int x1)] 30 [] := by
  unfold Reader_readOpening_b30 at hf
  refine gw_iload_n hC 1 d_Reader_readOpening_30 rfl rfl ?_
  refine gw_if_eq hC 55 d_Reader_readOpening_31 (by decide) (fun hh => ?_) (fun hh => ?_)
  · rw [if_pos hh] at hf
    exact Reader_readOpening_p55 ao aa hC N _ _ _ _ hf
  · rw [if_neg hh] at hf
    exact Reader_readOpening_p34 ao aa hC N _ _ _ _ hf
def Reader_readOpening_b20 (N : Nat) (s0 : Int32) (σ : g_S) : Option (Int32 × g_S) := if 40 ≤ (σ.1 14) then Reader_readOpening_b46 N σ else Reader_readOpening_b30 N s0 σ
theorem Reader_readOpening_p20 (ao aa : Nat → Nat) {X : g_X} (hC : gC X c_Reader_readOpening R_Reader 3 67 2 none) (N : Nat) (s0 : Int32) (σ : g_S) (r : Int32) (σe : g_S) (hf : Reader_readOpening_b20 N s0 σ = some (r, σe)) : gw X (.inl none) (LC ao aa X.2.2.1 σe) (LC ao aa X.2.2.1 σ) [(0, .ref (ao 2))] 20 [.int s0] := by
  unfold Reader_readOpening_b20 at hf
  refine gw_istore_n hC [(1, .int s0), (0, .ref (ao 2))] d_Reader_readOpening_20 rfl (by decide) rfl ?_
  refine gw_aload_n hC 1 d_Reader_readOpening_21 rfl rfl ?_
  refine Cg14 hC kf_Reader_41 d_Reader_readOpening_22 (σ.1 14) rfl ?_
  refine gw_bipush hC 40 d_Reader_readOpening_25 (by decide) ?_
  refine gw_icmp_ge hC 46 d_Reader_readOpening_27 (by decide) (fun hh => ?_) (fun hh => ?_)
  · rw [if_pos hh] at hf
    refine gw_lv [1] rfl ?_
    exact Reader_readOpening_p46 ao aa hC N _ _ _ hf
  · rw [if_neg hh] at hf
    refine gw_lv [1, 0] rfl ?_
    exact Reader_readOpening_p30 ao aa hC N _ _ _ _ hf
def Reader_readOpening_b19 (N : Nat) (σ : g_S) : Option (Int32 × g_S) := Reader_readOpening_b20 N 0 σ
theorem Reader_readOpening_p19 (ao aa : Nat → Nat) {X : g_X} (hC : gC X c_Reader_readOpening R_Reader 3 67 2 none) (N : Nat) (σ : g_S) (r : Int32) (σe : g_S) (hf : Reader_readOpening_b19 N σ = some (r, σe)) : gw X (.inl none) (LC ao aa X.2.2.1 σe) (LC ao aa X.2.2.1 σ) [(0, .ref (ao 2))] 19 [] := by
  unfold Reader_readOpening_b19 at hf
  refine gw_iconst hC 0 d_Reader_readOpening_19 (by decide) ?_
  exact Reader_readOpening_p20 ao aa hC N _ _ _ _ hf
def Reader_readOpening_b15 (N : Nat) (σ : g_S) : Option (Int32 × g_S) := Reader_readOpening_b20 N 1 σ
theorem Reader_readOpening_p15 (ao aa : Nat → Nat) {X : g_X} (hC : gC X c_Reader_readOpening R_Reader 3 67 2 none) (N : Nat) (σ : g_S) (r : Int32) (σe : g_S) (hf : Reader_readOpening_b15 N σ = some (r, σe)) : gw X (.inl none) (LC ao aa X.2.2.1 σe) (LC ao aa X.2.2.1 σ) [(0, .ref (ao 2))] 15 [] := by
  unfold Reader_readOpening_b15 at hf
  refine gw_iconst hC 1 d_Reader_readOpening_15 (by decide) ?_
  refine gw_goto hC 20 d_Reader_readOpening_16 (by decide) ?_
  exact Reader_readOpening_p20 ao aa hC N _ _ _ _ hf
def Reader_readOpening_b0 (N : Nat) (σ : g_S) : Option (Int32 × g_S) := (Reader_unitAt N ((σ.1 12) + 1) σ).bind fun q7 => if q7.1 = 63 then Reader_readOpening_b19 N q7.2 else Reader_readOpening_b15 N q7.2
theorem Reader_readOpening_p0 (ao aa : Nat → Nat) {X : g_X} (hC : gC X c_Reader_readOpening R_Reader 3 67 2 none) (N : Nat) (σ : g_S) (r : Int32) (σe : g_S) (hf : Reader_readOpening_b0 N σ = some (r, σe)) : gw X (.inl none) (LC ao aa X.2.2.1 σe) (LC ao aa X.2.2.1 σ) [(0, .ref (ao 2))] 0 [] := by
  unfold Reader_readOpening_b0 at hf
  refine gw_aload_n hC 0 d_Reader_readOpening_0 rfl rfl ?_
  refine gw_aload_n hC 0 d_Reader_readOpening_1 rfl rfl ?_
  refine Cg12 hC kf_Reader_35 d_Reader_readOpening_2 (σ.1 12) rfl ?_
  refine gw_iconst hC 1 d_Reader_readOpening_5 (by decide) ?_
  refine gw_iadd hC d_Reader_readOpening_6 ?_
  obtain ⟨q7, hq7, hf⟩ := g_bind hf
  refine gw_callV hC [.int ((σ.1 12) + 1)] [] (Reader_unitAt_m _ _ _ ao aa N _ _ _ _ hq7) kc_Reader_76 2 (g_lay_obj rfl) rfl rfl ⟨by decide, by decide⟩ (Nat.le_of_ble_eq_true rfl) [.int ((σ.1 12) + 1), .ref (ao 2)] [.int q7.1] rfl rfl d_Reader_readOpening_7 ?_
  refine gw_bipush hC 63 d_Reader_readOpening_10 (by decide) ?_
  refine gw_icmp_eq hC 19 d_Reader_readOpening_12 (by decide) (fun hh => ?_) (fun hh => ?_)
  · rw [if_pos hh] at hf
    exact Reader_readOpening_p19 ao aa hC N _ _ _ hf
  · rw [if_neg hh] at hf
    exact Reader_readOpening_p15 ao aa hC N _ _ _ hf
def Reader_readOpening (N : Nat) (σ : g_S) : Option (Int32 × g_S) := Reader_readOpening_b0 N  σ
theorem Reader_readOpening_m (l : Launch) (D : va_G) (cA : ClassId) (ao aa : Nat → Nat) (N : Nat) (σ : g_S) (r : Int32) (σe : g_S) (hf : Reader_readOpening N σ = some (r, σe)) : Mt l D cA y_Reader_readOpening c_Reader_readOpening 2 none 3 67 [.ref (ao 2)] (LC ao aa cA σ) none (LC ao aa cA σe) := by
  refine g_met (by decide +kernel) (by simp [lg_sl, Value.category]) (fun X e1 e2 e3 hC => ?_)
  subst e1 e2 e3
  refine gw_lv [0] rfl ?_
  exact Reader_readOpening_p0 ao aa hC N _ (r) _ hf
def Reader_append_b0 (N : Nat) (x1 : Int32) (x2 : Int32) (σ : g_S) : Option (Int32 × g_S) := (Program_link N (σ.1 16) x1 σ).bind fun q9 => some (0, (gF q9.2 16 x2))
theorem Reader_append_p0 (ao aa : Nat → Nat) {X : g_X} (hC : gC X c_Reader_append R_Reader 2 44 3 none) (N : Nat) (x1 : Int32) (x2 : Int32) (σ : g_S) (r : Int32) (σe : g_S) (hf : Reader_append_b0 N x1 x2 σ = some (r, σe)) : gw X (.inl none) (LC ao aa X.2.2.1 σe) (LC ao aa X.2.2.1 σ) [(0, .ref (ao 2)), (1, .int x1), (2, .int x2)] 0 [] := by
  unfold Reader_append_b0 at hf
  refine gw_aload_n hC 0 d_Reader_append_0 rfl rfl ?_
  refine Cr_Reader_program hC kf_Reader_24 d_Reader_append_1 ?_
  refine gw_aload_n hC 0 d_Reader_append_4 rfl rfl ?_
  refine Cg16 hC kf_Reader_69 d_Reader_append_5 (σ.1 16) rfl ?_
  refine gw_iload_n hC 1 d_Reader_append_8 rfl rfl ?_
  obtain ⟨q9, hq9, hf⟩ := g_bind hf
  refine gw_callV hC [.int (σ.1 16), .int x1] [] (Program_link_m _ _ _ ao aa N _ _ _ _ _ hq9) kc_Reader_72 1 (g_lay_obj rfl) rfl rfl ⟨by decide, by decide⟩ (Nat.le_of_ble_eq_true rfl) [.int x1, .int (σ.1 16), .ref (ao 1)] [] rfl rfl d_Reader_append_9 ?_
  refine gw_aload_n hC 0 d_Reader_append_12 rfl rfl ?_
  refine gw_iload_n hC 2 d_Reader_append_13 rfl rfl ?_
  refine Cp16 hC kf_Reader_69 d_Reader_append_14 ?_
  cases hf
  exact gw_vret hC d_Reader_append_17
def Reader_append (N : Nat) (x1 : Int32) (x2 : Int32) (σ : g_S) : Option (Int32 × g_S) := Reader_append_b0 N x1 x2 σ
theorem Reader_append_m (l : Launch) (D : va_G) (cA : ClassId) (ao aa : Nat → Nat) (N : Nat) (x1 : Int32) (x2 : Int32) (σ : g_S) (r : Int32) (σe : g_S) (hf : Reader_append N x1 x2 σ = some (r, σe)) : Mt l D cA y_Reader_append c_Reader_append 3 none 2 44 [.ref (ao 2), .int x1, .int x2] (LC ao aa cA σ) none (LC ao aa cA σe) := by
  refine g_met (by decide +kernel) (by simp [lg_sl, Value.category]) (fun X e1 e2 e3 hC => ?_)
  subst e1 e2 e3
  refine gw_lv [0, 1, 2] rfl ?_
  exact Reader_append_p0 ao aa hC N _ _ _ (r) _ hf
def Reader_holdAtom_b0 (N : Nat) (x1 : Int32) (x2 : Int32) (x3 : Int32) (σ : g_S) : Option (Int32 × g_S) := some (0, (gF (gF (gF σ 19 x1) 20 x2) 21 x3))
theorem Reader_holdAtom_p0 (ao aa : Nat → Nat) {X : g_X} (hC : gC X c_Reader_holdAtom R_Reader 0 0 4 none) (N : Nat) (x1 : Int32) (x2 : Int32) (x3 : Int32) (σ : g_S) (r : Int32) (σe : g_S) (hf : Reader_holdAtom_b0 N x1 x2 x3 σ = some (r, σe)) : gw X (.inl none) (LC ao aa X.2.2.1 σe) (LC ao aa X.2.2.1 σ) [(0, .ref (ao 2)), (1, .int x1), (2, .int x2), (3, .int x3)] 0 [] := by
  unfold Reader_holdAtom_b0 at hf
  refine gw_aload_n hC 0 d_Reader_holdAtom_0 rfl rfl ?_
  refine gw_iload_n hC 1 d_Reader_holdAtom_1 rfl rfl ?_
  refine Cp19 hC kf_Reader_46 d_Reader_holdAtom_2 ?_
  refine gw_aload_n hC 0 d_Reader_holdAtom_5 rfl rfl ?_
  refine gw_iload_n hC 2 d_Reader_holdAtom_6 rfl rfl ?_
  refine Cp20 hC kf_Reader_136 d_Reader_holdAtom_7 ?_
  refine gw_aload_n hC 0 d_Reader_holdAtom_10 rfl rfl ?_
  refine gw_iload_n hC 3 d_Reader_holdAtom_11 rfl rfl ?_
  refine Cp21 hC kf_Reader_139 d_Reader_holdAtom_12 ?_
  cases hf
  exact gw_vret hC d_Reader_holdAtom_15
def Reader_holdAtom (N : Nat) (x1 : Int32) (x2 : Int32) (x3 : Int32) (σ : g_S) : Option (Int32 × g_S) := Reader_holdAtom_b0 N x1 x2 x3 σ
theorem Reader_holdAtom_m (l : Launch) (D : va_G) (cA : ClassId) (ao aa : Nat → Nat) (N : Nat) (x1 : Int32) (x2 : Int32) (x3 : Int32) (σ : g_S) (r : Int32) (σe : g_S) (hf : Reader_holdAtom N x1 x2 x3 σ = some (r, σe)) : Mt l D cA y_Reader_holdAtom c_Reader_holdAtom 4 none 0 0 [.ref (ao 2), .int x1, .int x2, .int x3] (LC ao aa cA σ) none (LC ao aa cA σe) := by
  refine g_met (by decide +kernel) (by simp [lg_sl, Value.category]) (fun X e1 e2 e3 hC => ?_)
  subst e1 e2 e3
  refine gw_lv [0, 1, 2, 3] rfl ?_
  exact Reader_holdAtom_p0 ao aa hC N _ _ _ _ (r) _ hf
def Reader_readClosing_b146 (N : Nat) (σ : g_S) : Option (Int32 × g_S) := some (0, σ)
theorem Reader_readClosing_p146 (ao aa : Nat → Nat) {X : g_X} (hC : gC X c_Reader_readClosing R_Reader 3 66 3 none) (N : Nat) (σ : g_S) (r : Int32) (σe : g_S) (hf : Reader_readClosing_b146 N σ = some (r, σe)) : gw X (.inl none) (LC ao aa X.2.2.1 σe) (LC ao aa X.2.2.1 σ) [(0, .ref (ao 2))] 146 [] := by
  unfold Reader_readClosing_b146 at hf
  cases hf
  exact gw_vret hC d_Reader_readClosing_146
def Reader_readClosing_b116 (N : Nat) (x1 : Int32) (σ : g_S) : Option (Int32 × g_S) := (Reader_append N x1 (x1 + 1) σ).bind fun q121 => Reader_readClosing_b146 N q121.2
theorem Reader_readClosing_p116 (ao aa : Nat → Nat) {X : g_X} (hC : gC X c_Reader_readClosing R_Reader 3 66 3 none) (N : Nat) (x1 : Int32) (σ : g_S) (r : Int32) (σe : g_S) (hf : Reader_readClosing_b116 N x1 σ = some (r, σe)) : gw X (.inl none) (LC ao aa X.2.2.1 σe) (LC ao aa X.2.2.1 σ) [(0, .ref (ao 2)), (1, .int x1)] 116 [] := by
  unfold Reader_readClosing_b116 at hf
  refine gw_aload_n hC 0 d_Reader_readClosing_116 rfl rfl ?_
  refine gw_iload_n hC 1 d_Reader_readClosing_117 rfl rfl ?_
  refine gw_iload_n hC 1 d_Reader_readClosing_118 rfl rfl ?_
  refine gw_iconst hC 1 d_Reader_readClosing_119 (by decide) ?_
  refine gw_iadd hC d_Reader_readClosing_120 ?_
  obtain ⟨q121, hq121, hf⟩ := g_bind hf
  refine gw_callV hC [.int x1, .int (x1 + 1)] [] (Reader_append_m _ _ _ ao aa N _ _ _ _ _ hq121) kc_Reader_130 2 (g_lay_obj rfl) rfl rfl ⟨by decide, by decide⟩ (Nat.le_of_ble_eq_true rfl) [.int (x1 + 1), .int x1, .ref (ao 2)] [] rfl rfl d_Reader_readClosing_121 ?_
  refine gw_goto hC 146 d_Reader_readClosing_124 (by decide) ?_
  refine gw_lv [0] rfl ?_
  exact Reader_readClosing_p146 ao aa hC N _ _ _ hf
def Reader_readClosing_b127 (N : Nat) (x1 : Int32) (σ : g_S) : Option (Int32 × g_S) := (Rows_read N 16 (σ.1 14) σ).bind fun q140 => (Reader_holdAtom N x1 (x1 + 1) q140.1 q140.2).bind fun q143 => Reader_readClosing_b146 N q143.2
theorem Reader_readClosing_p127 (ao aa : Nat → Nat) {X : g_X} (hC : gC X c_Reader_readClosing R_Reader 3 66 3 none) (N : Nat) (x1 : Int32) (σ : g_S) (r : Int32) (σe : g_S) (hf : Reader_readClosing_b127 N x1 σ = some (r, σe)) : gw X (.inl none) (LC ao aa X.2.2.1 σe) (LC ao aa X.2.2.1 σ) [(0, .ref (ao 2)), (1, .int x1)] 127 [] := by
  unfold Reader_readClosing_b127 at hf
  refine gw_aload_n hC 0 d_Reader_readClosing_127 rfl rfl ?_
  refine gw_iload_n hC 1 d_Reader_readClosing_128 rfl rfl ?_
  refine gw_iload_n hC 1 d_Reader_readClosing_129 rfl rfl ?_
  refine gw_iconst hC 1 d_Reader_readClosing_130 (by decide) ?_
  refine gw_iadd hC d_Reader_readClosing_131 ?_
  refine gw_aload_n hC 0 d_Reader_readClosing_132 rfl rfl ?_
  refine Cr_Reader_outerGroups hC kf_Reader_21 d_Reader_readClosing_133 ?_
  refine gw_aload_n hC 0 d_Reader_readClosing_136 rfl rfl ?_
  refine Cg14 hC kf_Reader_41 d_Reader_readClosing_137 (σ.1 14) rfl ?_
  obtain ⟨q140, hq140, hf⟩ := g_bind hf
  refine gw_callS hC [.ref (aa 16), .int (σ.1 14)] [.int (x1 + 1), .int x1, .ref (ao 2)] (Rows_read_m _ _ _ ao aa N _ _ _ _ _ hq140) kc_Reader_105 ⟨by decide, by decide⟩ (Nat.le_of_ble_eq_true rfl) [.int (σ.1 14), .ref (aa 16), .int (x1 + 1), .int x1, .ref (ao 2)] [.int q140.1, .int (x1 + 1), .int x1, .ref (ao 2)] rfl rfl d_Reader_readClosing_140 ?_
  obtain ⟨q143, hq143, hf⟩ := g_bind hf
  refine gw_callV hC [.int x1, .int (x1 + 1), .int q140.1] [] (Reader_holdAtom_m _ _ _ ao aa N _ _ _ _ _ _ hq143) kc_Reader_133 2 (g_lay_obj rfl) rfl rfl ⟨by decide, by decide⟩ (Nat.le_of_ble_eq_true rfl) [.int q140.1, .int (x1 + 1), .int x1, .ref (ao 2)] [] rfl rfl d_Reader_readClosing_143 ?_
  refine gw_lv [0] rfl ?_
  exact Reader_readClosing_p146 ao aa hC N _ _ _ hf
def Reader_readClosing_b110 (N : Nat) (x1 : Int32) (x2 : Int32) (σ : g_S) : Option (Int32 × g_S) := if x2 = 21 then Reader_readClosing_b116 N x1 σ else Reader_readClosing_b127 N x1 σ
theorem Reader_readClosing_p110 (ao aa : Nat → Nat) {X : g_X} (hC : gC X c_Reader_readClosing R_Reader 3 66 3 none) (N : Nat) (x1 : Int32) (x2 : Int32) (σ : g_S) (r : Int32) (σe : g_S) (hf : Reader_readClosing_b110 N x1 x2 σ = some (r, σe)) : gw X (.inl none) (LC ao aa X.2.2.1 σe) (LC ao aa X.2.2.1 σ) [(0, .ref (ao 2)), (1, .int x1), (2, .int x2)] 110 [] := by
  unfold Reader_readClosing_b110 at hf
  refine gw_iload_n hC 2 d_Reader_readClosing_110 rfl rfl ?_
  refine gw_bipush hC 21 d_Reader_readClosing_111 (by decide) ?_
  refine gw_icmp_ne hC 127 d_Reader_readClosing_113 (by decide) (fun hh => ?_) (fun hh => ?_)
  · rw [if_neg hh] at hf
    refine gw_lv [0, 1] rfl ?_
    exact Reader_readClosing_p127 ao aa hC N _ _ _ _ hf
  · rw [if_pos hh] at hf
    refine gw_lv [0, 1] rfl ?_
    exact Reader_readClosing_p116 ao aa hC N _ _ _ _ hf
def Reader_readClosing_b16 (N : Nat) (σ : g_S) : Option (Int32 × g_S) := (Rows_read N 13 ((σ.1 14) - 1) (gF σ 14 ((σ.1 14) - 1))).bind fun q34 => (Program_link N (q34.2.1 16) (q34.1 + 1) q34.2).bind fun q49 => (Rows_read N 14 (q49.2.1 14) q49.2).bind fun q61 => (Rows_read N 15 (q61.2.1 14) (gF q61.2 16 q61.1)).bind fun q76 => (Rows_read N 1 q34.1 (gF (gF q76.2 15 q76.1) 12 ((q76.2.1 12) + 1))).bind fun q100 => if q100.1 = 19 then Reader_readClosing_b116 N q34.1 q100.2 else Reader_readClosing_b110 N q34.1 q100.1 q100.2
theorem Reader_readClosing_p16 (ao aa : Nat → Nat) {X : g_X} (hC : gC X c_Reader_readClosing R_Reader 3 66 3 none) (N : Nat) (σ : g_S) (r : Int32) (σe : g_S) (hf : Reader_readClosing_b16 N σ = some (r, σe)) : gw X (.inl none) (LC ao aa X.2.2.1 σe) (LC ao aa X.2.2.1 σ) [(0, .ref (ao 2))] 16 [] := by
  unfold Reader_readClosing_b16 at hf
  refine gw_aload_n hC 0 d_Reader_readClosing_16 rfl rfl ?_
  refine gw_dup hC d_Reader_readClosing_17 rfl ?_
  refine Cg14 hC kf_Reader_41 d_Reader_readClosing_18 (σ.1 14) rfl ?_
  refine gw_iconst hC 1 d_Reader_readClosing_21 (by decide) ?_
  refine gw_isub hC d_Reader_readClosing_22 ?_
  refine Cp14 hC kf_Reader_41 d_Reader_readClosing_23 ?_
  refine gw_aload_n hC 0 d_Reader_readClosing_26 rfl rfl ?_
  refine Cr_Reader_openNode hC kf_Reader_11 d_Reader_readClosing_27 ?_
  refine gw_aload_n hC 0 d_Reader_readClosing_30 rfl rfl ?_
  refine Cg14 hC kf_Reader_41 d_Reader_readClosing_31 ((σ.1 14) - 1) rfl ?_
  obtain ⟨q34, hq34, hf⟩ := g_bind hf
  refine gw_callS hC [.ref (aa 13), .int ((σ.1 14) - 1)] [] (Rows_read_m _ _ _ ao aa N _ _ _ _ _ hq34) kc_Reader_105 ⟨by decide, by decide⟩ (Nat.le_of_ble_eq_true rfl) [.int ((σ.1 14) - 1), .ref (aa 13)] [.int q34.1] rfl rfl d_Reader_readClosing_34 ?_
  refine gw_istore_n hC [(1, .int q34.1), (0, .ref (ao 2))] d_Reader_readClosing_37 rfl (by decide) rfl ?_
  refine gw_aload_n hC 1 d_Reader_readClosing_38 rfl rfl ?_
  refine Cr_Reader_program hC kf_Reader_24 d_Reader_readClosing_39 ?_
  refine gw_aload_n hC 1 d_Reader_readClosing_42 rfl rfl ?_
  refine Cg16 hC kf_Reader_69 d_Reader_readClosing_43 (q34.2.1 16) rfl ?_
  refine gw_iload_n hC 0 d_Reader_readClosing_46 rfl rfl ?_
  refine gw_iconst hC 1 d_Reader_readClosing_47 (by decide) ?_
  refine gw_iadd hC d_Reader_readClosing_48 ?_
  obtain ⟨q49, hq49, hf⟩ := g_bind hf
  refine gw_callV hC [.int (q34.2.1 16), .int (q34.1 + 1)] [] (Program_link_m _ _ _ ao aa N _ _ _ _ _ hq49) kc_Reader_72 1 (g_lay_obj rfl) rfl rfl ⟨by decide, by decide⟩ (Nat.le_of_ble_eq_true rfl) [.int (q34.1 + 1), .int (q34.2.1 16), .ref (ao 1)] [] rfl rfl d_Reader_readClosing_49 ?_
  refine gw_aload_n hC 1 d_Reader_readClosing_52 rfl rfl ?_
  refine gw_aload_n hC 1 d_Reader_readClosing_53 rfl rfl ?_
  refine Cr_Reader_outerTail hC kf_Reader_15 d_Reader_readClosing_54 ?_
  refine gw_aload_n hC 1 d_Reader_readClosing_57 rfl rfl ?_
  refine Cg14 hC kf_Reader_41 d_Reader_readClosing_58 (q49.2.1 14) rfl ?_
  obtain ⟨q61, hq61, hf⟩ := g_bind hf
  refine gw_callS hC [.ref (aa 14), .int (q49.2.1 14)] [.ref (ao 2)] (Rows_read_m _ _ _ ao aa N _ _ _ _ _ hq61) kc_Reader_105 ⟨by decide, by decide⟩ (Nat.le_of_ble_eq_true rfl) [.int (q49.2.1 14), .ref (aa 14), .ref (ao 2)] [.int q61.1, .ref (ao 2)] rfl rfl d_Reader_readClosing_61 ?_
  refine Cp16 hC kf_Reader_69 d_Reader_readClosing_64 ?_
  refine gw_aload_n hC 1 d_Reader_readClosing_67 rfl rfl ?_
  refine gw_aload_n hC 1 d_Reader_readClosing_68 rfl rfl ?_
  refine Cr_Reader_outerAlternative hC kf_Reader_18 d_Reader_readClosing_69 ?_
  refine gw_aload_n hC 1 d_Reader_readClosing_72 rfl rfl ?_
  refine Cg14 hC kf_Reader_41 d_Reader_readClosing_73 (q61.2.1 14) rfl ?_
  obtain ⟨q76, hq76, hf⟩ := g_bind hf
  refine gw_callS hC [.ref (aa 15), .int (q61.2.1 14)] [.ref (ao 2)] (Rows_read_m _ _ _ ao aa N _ _ _ _ _ hq76) kc_Reader_105 ⟨by decide, by decide⟩ (Nat.le_of_ble_eq_true rfl) [.int (q61.2.1 14), .ref (aa 15), .ref (ao 2)] [.int q76.1, .ref (ao 2)] rfl rfl d_Reader_readClosing_76 ?_
  refine Cp15 hC kf_Reader_102 d_Reader_readClosing_79 ?_
  refine gw_aload_n hC 1 d_Reader_readClosing_82 rfl rfl ?_
  refine gw_dup hC d_Reader_readClosing_83 rfl ?_
  refine Cg12 hC kf_Reader_35 d_Reader_readClosing_84 (q76.2.1 12) rfl ?_
  refine gw_iconst hC 1 d_Reader_readClosing_87 (by decide) ?_
  refine gw_iadd hC d_Reader_readClosing_88 ?_
  refine Cp12 hC kf_Reader_35 d_Reader_readClosing_89 ?_
  refine gw_aload_n hC 1 d_Reader_readClosing_92 rfl rfl ?_
  refine Cr_Reader_program hC kf_Reader_24 d_Reader_readClosing_93 ?_
  refine Cr_Program_kind hC kf_Reader_127 d_Reader_readClosing_96 ?_
  refine gw_iload_n hC 0 d_Reader_readClosing_99 rfl rfl ?_
  obtain ⟨q100, hq100, hf⟩ := g_bind hf
  refine gw_callS hC [.ref (aa 1), .int q34.1] [] (Rows_read_m _ _ _ ao aa N _ _ _ _ _ hq100) kc_Reader_105 ⟨by decide, by decide⟩ (Nat.le_of_ble_eq_true rfl) [.int q34.1, .ref (aa 1)] [.int q100.1] rfl rfl d_Reader_readClosing_100 ?_
  refine gw_istore_n hC [(2, .int q100.1), (1, .int q34.1), (0, .ref (ao 2))] d_Reader_readClosing_103 rfl (by decide) rfl ?_
  refine gw_iload_n hC 0 d_Reader_readClosing_104 rfl rfl ?_
  refine gw_bipush hC 19 d_Reader_readClosing_105 (by decide) ?_
  refine gw_icmp_eq hC 116 d_Reader_readClosing_107 (by decide) (fun hh => ?_) (fun hh => ?_)
  · rw [if_pos hh] at hf
    refine gw_lv [2, 1] rfl ?_
    exact Reader_readClosing_p116 ao aa hC N _ _ _ _ hf
  · rw [if_neg hh] at hf
    refine gw_lv [2, 1, 0] rfl ?_
    exact Reader_readClosing_p110 ao aa hC N _ _ _ _ _ hf
def Reader_readClosing_b7 (N : Nat) (σ : g_S) : Option (Int32 × g_S) := some (0, (gF σ 13 (σ.1 12)))
theorem Reader_readClosing_p7 (ao aa : Nat → Nat) {X : g_X} (hC : gC X c_Reader_readClosing R_Reader 3 66 3 none) (N : Nat) (σ : g_S) (r : Int32) (σe : g_S) (hf : Reader_readClosing_b7 N σ = some (r, σe)) : gw X (.inl none) (LC ao aa X.2.2.1 σe) (LC ao aa X.2.2.1 σ) [(0, .ref (ao 2))] 7 [] := by
  unfold Reader_readClosing_b7 at hf
  refine gw_aload_n hC 0 d_Reader_readClosing_7 rfl rfl ?_
  refine gw_aload_n hC 0 d_Reader_readClosing_8 rfl rfl ?_
  refine Cg12 hC kf_Reader_35 d_Reader_readClosing_9 (σ.1 12) rfl ?_
  refine Cp13 hC kf_Reader_38 d_Reader_readClosing_12 ?_
  cases hf
  exact gw_vret hC d_Reader_readClosing_15
def Reader_readClosing_b0 (N : Nat) (σ : g_S) : Option (Int32 × g_S) := if (σ.1 14) = 0 then Reader_readClosing_b7 N σ else Reader_readClosing_b16 N σ
theorem Reader_readClosing_p0 (ao aa : Nat → Nat) {X : g_X} (hC : gC X c_Reader_readClosing R_Reader 3 66 3 none) (N : Nat) (σ : g_S) (r : Int32) (σe : g_S) (hf : Reader_readClosing_b0 N σ = some (r, σe)) : gw X (.inl none) (LC ao aa X.2.2.1 σe) (LC ao aa X.2.2.1 σ) [(0, .ref (ao 2))] 0 [] := by
  unfold Reader_readClosing_b0 at hf
  refine gw_aload_n hC 0 d_Reader_readClosing_0 rfl rfl ?_
  refine Cg14 hC kf_Reader_41 d_Reader_readClosing_1 (σ.1 14) rfl ?_
  refine gw_if_ne hC 16 d_Reader_readClosing_4 (by decide) (fun hh => ?_) (fun hh => ?_)
  · rw [if_neg hh] at hf
    exact Reader_readClosing_p16 ao aa hC N _ _ _ hf
  · rw [if_pos hh] at hf
    exact Reader_readClosing_p7 ao aa hC N _ _ _ hf
def Reader_readClosing (N : Nat) (σ : g_S) : Option (Int32 × g_S) := Reader_readClosing_b0 N  σ
theorem Reader_readClosing_m (l : Launch) (D : va_G) (cA : ClassId) (ao aa : Nat → Nat) (N : Nat) (σ : g_S) (r : Int32) (σe : g_S) (hf : Reader_readClosing N σ = some (r, σe)) : Mt l D cA y_Reader_readClosing c_Reader_readClosing 3 none 3 66 [.ref (ao 2)] (LC ao aa cA σ) none (LC ao aa cA σe) := by
  refine g_met (by decide +kernel) (by simp [lg_sl, Value.category]) (fun X e1 e2 e3 hC => ?_)
  subst e1 e2 e3
  refine gw_lv [0] rfl ?_
  exact Reader_readClosing_p0 ao aa hC N _ (r) _ hf
def Reader_readZero_b22 (N : Nat) (σ : g_S) : Option (Int32 × g_S) := some (0, σ)
theorem Reader_readZero_p22 (ao aa : Nat → Nat) {X : g_X} (hC : gC X c_Reader_readZero R_Reader 1 21 1 (some .int)) (N : Nat) (σ : g_S) (r : Int32) (σe : g_S) (hf : Reader_readZero_b22 N σ = some (r, σe)) : gw X (.inl (some (.int r))) (LC ao aa X.2.2.1 σe) (LC ao aa X.2.2.1 σ) [(0, .ref (ao 2))] 22 [] := by
  unfold Reader_readZero_b22 at hf
  refine gw_iconst hC 0 d_Reader_readZero_22 (by decide) ?_
  cases hf
  exact gw_iret hC d_Reader_readZero_23
def Reader_readZero_b14 (N : Nat) (σ : g_S) : Option (Int32 × g_S) := Reader_readZero_b22 N (gF σ 13 (σ.1 12))
theorem Reader_readZero_p14 (ao aa : Nat → Nat) {X : g_X} (hC : gC X c_Reader_readZero R_Reader 1 21 1 (some .int)) (N : Nat) (σ : g_S) (r : Int32) (σe : g_S) (hf : Reader_readZero_b14 N σ = some (r, σe)) : gw X (.inl (some (.int r))) (LC ao aa X.2.2.1 σe) (LC ao aa X.2.2.1 σ) [(0, .ref (ao 2))] 14 [] := by
  unfold Reader_readZero_b14 at hf
  refine gw_aload_n hC 0 d_Reader_readZero_14 rfl rfl ?_
  refine gw_aload_n hC 0 d_Reader_readZero_15 rfl rfl ?_
  refine Cg12 hC kf_Reader_35 d_Reader_readZero_16 (σ.1 12) rfl ?_
  refine Cp13 hC kf_Reader_38 d_Reader_readZero_19 ?_
  exact Reader_readZero_p22 ao aa hC N _ _ _ hf
def Reader_readZero_b0 (N : Nat) (σ : g_S) : Option (Int32 × g_S) := (Reader_unitAt N (σ.1 12) σ).bind fun q5 => (Units_isDigit N q5.1 q5.2).bind fun q8 => if q8.1 = 0 then Reader_readZero_b22 N q8.2 else Reader_readZero_b14 N q8.2
theorem Reader_readZero_p0 (ao aa : Nat → Nat) {X : g_X} (hC : gC X c_Reader_readZero R_Reader 1 21 1 (some .int)) (N : Nat) (σ : g_S) (r : Int32) (σe : g_S) (hf : Reader_readZero_b0 N σ = some (r, σe)) : gw X (.inl (some (.int r))) (LC ao aa X.2.2.1 σe) (LC ao aa X.2.2.1 σ) [(0, .ref (ao 2))] 0 [] := by
  unfold Reader_readZero_b0 at hf
  refine gw_aload_n hC 0 d_Reader_readZero_0 rfl rfl ?_
  refine gw_aload_n hC 0 d_Reader_readZero_1 rfl rfl ?_
  refine Cg12 hC kf_Reader_35 d_Reader_readZero_2 (σ.1 12) rfl ?_
  obtain ⟨q5, hq5, hf⟩ := g_bind hf
  refine gw_callV hC [.int (σ.1 12)] [] (Reader_unitAt_m _ _ _ ao aa N _ _ _ _ hq5) kc_Reader_76 2 (g_lay_obj rfl) rfl rfl ⟨by decide, by decide⟩ (Nat.le_of_ble_eq_true rfl) [.int (σ.1 12), .ref (ao 2)] [.int q5.1] rfl rfl d_Reader_readZero_5 ?_
  obtain ⟨q8, hq8, hf⟩ := g_bind hf
  refine gw_callS hC [.int q5.1] [] (Units_isDigit_m _ _ _ ao aa N _ _ _ _ hq8) kc_Reader_189 ⟨by decide, by decide⟩ (Nat.le_of_ble_eq_true rfl) [.int q5.1] [.int q8.1] rfl rfl d_Reader_readZero_8 ?_
  refine gw_if_eq hC 22 d_Reader_readZero_11 (by decide) (fun hh => ?_) (fun hh => ?_)
  · rw [if_pos hh] at hf
    exact Reader_readZero_p22 ao aa hC N _ _ _ hf
  · rw [if_neg hh] at hf
    exact Reader_readZero_p14 ao aa hC N _ _ _ hf
def Reader_readZero (N : Nat) (σ : g_S) : Option (Int32 × g_S) := Reader_readZero_b0 N  σ
theorem Reader_readZero_m (l : Launch) (D : va_G) (cA : ClassId) (ao aa : Nat → Nat) (N : Nat) (σ : g_S) (r : Int32) (σe : g_S) (hf : Reader_readZero N σ = some (r, σe)) : Mt l D cA y_Reader_readZero c_Reader_readZero 1 (some .int) 1 21 [.ref (ao 2)] (LC ao aa cA σ) (some (.int r)) (LC ao aa cA σe) := by
  refine g_met (by decide +kernel) (by simp [lg_sl, Value.category]) (fun X e1 e2 e3 hC => ?_)
  subst e1 e2 e3
  refine gw_lv [0] rfl ?_
  exact Reader_readZero_p0 ao aa hC N _ (r) _ hf
def Reader_readControl_b26 (N : Nat) (x1 : Int32) (σ : g_S) : Option (Int32 × g_S) := some ((x1 &&& 31), (gF σ 12 ((σ.1 12) + 1)))
theorem Reader_readControl_p26 (ao aa : Nat → Nat) {X : g_X} (hC : gC X c_Reader_readControl R_Reader 1 21 2 (some .int)) (N : Nat) (x1 : Int32) (σ : g_S) (r : Int32) (σe : g_S) (hf : Reader_readControl_b26 N x1 σ = some (r, σe)) : gw X (.inl (some (.int r))) (LC ao aa X.2.2.1 σe) (LC ao aa X.2.2.1 σ) [(0, .ref (ao 2)), (1, .int x1)] 26 [] := by
  unfold Reader_readControl_b26 at hf
  refine gw_aload_n hC 0 d_Reader_readControl_26 rfl rfl ?_
  refine gw_dup hC d_Reader_readControl_27 rfl ?_
  refine Cg12 hC kf_Reader_35 d_Reader_readControl_28 (σ.1 12) rfl ?_
  refine gw_iconst hC 1 d_Reader_readControl_31 (by decide) ?_
  refine gw_iadd hC d_Reader_readControl_32 ?_
  refine Cp12 hC kf_Reader_35 d_Reader_readControl_33 ?_
  refine gw_iload_n hC 1 d_Reader_readControl_36 rfl rfl ?_
  refine gw_bipush hC 31 d_Reader_readControl_37 (by decide) ?_
  refine gw_iand hC d_Reader_readControl_39 ?_
  cases hf
  exact gw_iret hC d_Reader_readControl_40
def Reader_readControl_b16 (N : Nat) (σ : g_S) : Option (Int32 × g_S) := some (0, (gF σ 13 (σ.1 12)))
theorem Reader_readControl_p16 (ao aa : Nat → Nat) {X : g_X} (hC : gC X c_Reader_readControl R_Reader 1 21 2 (some .int)) (N : Nat) (σ : g_S) (r : Int32) (σe : g_S) (hf : Reader_readControl_b16 N σ = some (r, σe)) : gw X (.inl (some (.int r))) (LC ao aa X.2.2.1 σe) (LC ao aa X.2.2.1 σ) [(0, .ref (ao 2))] 16 [] := by
  unfold Reader_readControl_b16 at hf
  refine gw_aload_n hC 0 d_Reader_readControl_16 rfl rfl ?_
  refine gw_aload_n hC 0 d_Reader_readControl_17 rfl rfl ?_
  refine Cg12 hC kf_Reader_35 d_Reader_readControl_18 (σ.1 12) rfl ?_
  refine Cp13 hC kf_Reader_38 d_Reader_readControl_21 ?_
  refine gw_iconst hC 0 d_Reader_readControl_24 (by decide) ?_
  cases hf
  exact gw_iret hC d_Reader_readControl_25
def Reader_readControl_b0 (N : Nat) (σ : g_S) : Option (Int32 × g_S) := (Reader_unitAt N (σ.1 12) σ).bind fun q5 => (Units_isLetter N q5.1 q5.2).bind fun q10 => if q10.1 = 0 then Reader_readControl_b16 N q10.2 else Reader_readControl_b26 N q5.1 q10.2
theorem Reader_readControl_p0 (ao aa : Nat → Nat) {X : g_X} (hC : gC X c_Reader_readControl R_Reader 1 21 2 (some .int)) (N : Nat) (σ : g_S) (r : Int32) (σe : g_S) (hf : Reader_readControl_b0 N σ = some (r, σe)) : gw X (.inl (some (.int r))) (LC ao aa X.2.2.1 σe) (LC ao aa X.2.2.1 σ) [(0, .ref (ao 2))] 0 [] := by
  unfold Reader_readControl_b0 at hf
  refine gw_aload_n hC 0 d_Reader_readControl_0 rfl rfl ?_
  refine gw_aload_n hC 0 d_Reader_readControl_1 rfl rfl ?_
  refine Cg12 hC kf_Reader_35 d_Reader_readControl_2 (σ.1 12) rfl ?_
  obtain ⟨q5, hq5, hf⟩ := g_bind hf
  refine gw_callV hC [.int (σ.1 12)] [] (Reader_unitAt_m _ _ _ ao aa N _ _ _ _ hq5) kc_Reader_76 2 (g_lay_obj rfl) rfl rfl ⟨by decide, by decide⟩ (Nat.le_of_ble_eq_true rfl) [.int (σ.1 12), .ref (ao 2)] [.int q5.1] rfl rfl d_Reader_readControl_5 ?_
  refine gw_istore_n hC [(1, .int q5.1), (0, .ref (ao 2))] d_Reader_readControl_8 rfl (by decide) rfl ?_
  refine gw_iload_n hC 0 d_Reader_readControl_9 rfl rfl ?_
  obtain ⟨q10, hq10, hf⟩ := g_bind hf
  refine gw_callS hC [.int q5.1] [] (Units_isLetter_m _ _ _ ao aa N _ _ _ _ hq10) kc_Reader_220 ⟨by decide, by decide⟩ (Nat.le_of_ble_eq_true rfl) [.int q5.1] [.int q10.1] rfl rfl d_Reader_readControl_10 ?_
  refine gw_if_ne hC 26 d_Reader_readControl_13 (by decide) (fun hh => ?_) (fun hh => ?_)
  · rw [if_neg hh] at hf
    refine gw_lv [1, 0] rfl ?_
    exact Reader_readControl_p26 ao aa hC N _ _ _ _ hf
  · rw [if_pos hh] at hf
    refine gw_lv [1] rfl ?_
    exact Reader_readControl_p16 ao aa hC N _ _ _ hf
def Reader_readControl (N : Nat) (σ : g_S) : Option (Int32 × g_S) := Reader_readControl_b0 N  σ
theorem Reader_readControl_m (l : Launch) (D : va_G) (cA : ClassId) (ao aa : Nat → Nat) (N : Nat) (σ : g_S) (r : Int32) (σe : g_S) (hf : Reader_readControl N σ = some (r, σe)) : Mt l D cA y_Reader_readControl c_Reader_readControl 2 (some .int) 1 21 [.ref (ao 2)] (LC ao aa cA σ) (some (.int r)) (LC ao aa cA σe) := by
  refine g_met (by decide +kernel) (by simp [lg_sl, Value.category]) (fun X e1 e2 e3 hC => ?_)
  subst e1 e2 e3
  refine gw_lv [0] rfl ?_
  exact Reader_readControl_p0 ao aa hC N _ (r) _ hf
def Reader_readSixteenths_b61 (N : Nat) (x2 : Int32) (σ : g_S) : Option (Int32 × g_S) := some (x2, σ)
theorem Reader_readSixteenths_p61 (ao aa : Nat → Nat) {X : g_X} (hC : gC X c_Reader_readSixteenths R_Reader 1 21 5 (some .int)) (N : Nat) (x2 : Int32) (σ : g_S) (r : Int32) (σe : g_S) (hf : Reader_readSixteenths_b61 N x2 σ = some (r, σe)) : gw X (.inl (some (.int r))) (LC ao aa X.2.2.1 σe) (LC ao aa X.2.2.1 σ) [(0, .ref (ao 2)), (2, .int x2)] 61 [] := by
  unfold Reader_readSixteenths_b61 at hf
  refine gw_iload_n hC 1 d_Reader_readSixteenths_61 rfl rfl ?_
  cases hf
  exact gw_iret hC d_Reader_readSixteenths_62
def Reader_readSixteenths_b37 (N : Nat) (k4 : Int32 → Int32 → Int32 → g_S → Option (Int32 × g_S)) (x1 : Int32) (x2 : Int32) (x3 : Int32) (x4 : Int32) (σ : g_S) : Option (Int32 × g_S) := k4 x1 ((x2 * 16) + x4) (x3 + 1) (gF σ 12 ((σ.1 12) + 1))
theorem Reader_readSixteenths_p37 (ao aa : Nat → Nat) {X : g_X} (hC : gC X c_Reader_readSixteenths R_Reader 1 21 5 (some .int)) (N : Nat) (k4 : Int32 → Int32 → Int32 → g_S → Option (Int32 × g_S)) (hk4 : ∀ (x1 : Int32) (x2 : Int32) (x3 : Int32) (σ : g_S) (r : Int32) (σe : g_S), k4 x1 x2 x3 σ = some (r, σe) → gw X (.inl (some (.int r))) (LC ao aa X.2.2.1 σe) (LC ao aa X.2.2.1 σ) [(0, .ref (ao 2)), (1, .int x1), (2, .int x2), (3, .int x3)] 4 []) (x1 : Int32) (x2 : Int32) (x3 : Int32) (x4 : Int32) (σ : g_S) (r : Int32) (σe : g_S) (hf : Reader_readSixteenths_b37 N k4 x1 x2 x3 x4 σ = some (r, σe)) : gw X (.inl (some (.int r))) (LC ao aa X.2.2.1 σe) (LC ao aa X.2.2.1 σ) [(0, .ref (ao 2)), (1, .int x1), (2, .int x2), (3, .int x3), (4, .int x4)] 37 [] := by
  unfold Reader_readSixteenths_b37 at hf
  refine gw_iload_n hC 2 d_Reader_readSixteenths_37 rfl rfl ?_
  refine gw_bipush hC 16 d_Reader_readSixteenths_38 (by decide) ?_
  refine gw_imul hC d_Reader_readSixteenths_40 ?_
  refine gw_iload hC 4 d_Reader_readSixteenths_41 rfl ?_
  refine gw_iadd hC d_Reader_readSixteenths_43 ?_
  refine gw_istore_n hC [(2, .int ((x2 * 16) + x4)), (0, .ref (ao 2)), (1, .int x1), (3, .int x3), (4, .int x4)] d_Reader_readSixteenths_44 rfl (by decide) rfl ?_
  refine gw_aload_n hC 1 d_Reader_readSixteenths_45 rfl rfl ?_
  refine gw_dup hC d_Reader_readSixteenths_46 rfl ?_
  refine Cg12 hC kf_Reader_35 d_Reader_readSixteenths_47 (σ.1 12) rfl ?_
  refine gw_iconst hC 1 d_Reader_readSixteenths_50 (by decide) ?_
  refine gw_iadd hC d_Reader_readSixteenths_51 ?_
  refine Cp12 hC kf_Reader_35 d_Reader_readSixteenths_52 ?_
  refine gw_iinc hC (x3 + 1) 3 [(3, .int (x3 + 1)), (2, .int ((x2 * 16) + x4)), (0, .ref (ao 2)), (1, .int x1), (4, .int x4)] d_Reader_readSixteenths_55 rfl rfl (by decide) rfl ?_
  refine gw_goto hC 4 d_Reader_readSixteenths_58 (by decide) ?_
  refine gw_lv [2, 3, 1, 0] rfl ?_
  exact hk4 _ _ _ _ _ _ hf
def Reader_readSixteenths_b27 (N : Nat) (σ : g_S) : Option (Int32 × g_S) := some (0, (gF σ 13 (σ.1 12)))
theorem Reader_readSixteenths_p27 (ao aa : Nat → Nat) {X : g_X} (hC : gC X c_Reader_readSixteenths R_Reader 1 21 5 (some .int)) (N : Nat) (σ : g_S) (r : Int32) (σe : g_S) (hf : Reader_readSixteenths_b27 N σ = some (r, σe)) : gw X (.inl (some (.int r))) (LC ao aa X.2.2.1 σe) (LC ao aa X.2.2.1 σ) [(0, .ref (ao 2))] 27 [] := by
  unfold Reader_readSixteenths_b27 at hf
  refine gw_aload_n hC 0 d_Reader_readSixteenths_27 rfl rfl ?_
  refine gw_aload_n hC 0 d_Reader_readSixteenths_28 rfl rfl ?_
  refine Cg12 hC kf_Reader_35 d_Reader_readSixteenths_29 (σ.1 12) rfl ?_
  refine Cp13 hC kf_Reader_38 d_Reader_readSixteenths_32 ?_
  refine gw_iconst hC 0 d_Reader_readSixteenths_35 (by decide) ?_
  cases hf
  exact gw_iret hC d_Reader_readSixteenths_36
def Reader_readSixteenths_b9 (N : Nat) (k4 : Int32 → Int32 → Int32 → g_S → Option (Int32 × g_S)) (x1 : Int32) (x2 : Int32) (x3 : Int32) (σ : g_S) : Option (Int32 × g_S) := (Reader_unitAt N (σ.1 12) σ).bind fun q14 => (Units_sixteenth N q14.1 q14.2).bind fun q17 => if 0 ≤ q17.1 then Reader_readSixteenths_b37 N k4 x1 x2 x3 q17.1 q17.2 else Reader_readSixteenths_b27 N q17.2
theorem Reader_readSixteenths_p9 (ao aa : Nat → Nat) {X : g_X} (hC : gC X c_Reader_readSixteenths R_Reader 1 21 5 (some .int)) (N : Nat) (k4 : Int32 → Int32 → Int32 → g_S → Option (Int32 × g_S)) (hk4 : ∀ (x1 : Int32) (x2 : Int32) (x3 : Int32) (σ : g_S) (r : Int32) (σe : g_S), k4 x1 x2 x3 σ = some (r, σe) → gw X (.inl (some (.int r))) (LC ao aa X.2.2.1 σe) (LC ao aa X.2.2.1 σ) [(0, .ref (ao 2)), (1, .int x1), (2, .int x2), (3, .int x3)] 4 []) (x1 : Int32) (x2 : Int32) (x3 : Int32) (σ : g_S) (r : Int32) (σe : g_S) (hf : Reader_readSixteenths_b9 N k4 x1 x2 x3 σ = some (r, σe)) : gw X (.inl (some (.int r))) (LC ao aa X.2.2.1 σe) (LC ao aa X.2.2.1 σ) [(0, .ref (ao 2)), (1, .int x1), (2, .int x2), (3, .int x3)] 9 [] := by
  unfold Reader_readSixteenths_b9 at hf
  refine gw_aload_n hC 0 d_Reader_readSixteenths_9 rfl rfl ?_
  refine gw_aload_n hC 0 d_Reader_readSixteenths_10 rfl rfl ?_
  refine Cg12 hC kf_Reader_35 d_Reader_readSixteenths_11 (σ.1 12) rfl ?_
  obtain ⟨q14, hq14, hf⟩ := g_bind hf
  refine gw_callV hC [.int (σ.1 12)] [] (Reader_unitAt_m _ _ _ ao aa N _ _ _ _ hq14) kc_Reader_76 2 (g_lay_obj rfl) rfl rfl ⟨by decide, by decide⟩ (Nat.le_of_ble_eq_true rfl) [.int (σ.1 12), .ref (ao 2)] [.int q14.1] rfl rfl d_Reader_readSixteenths_14 ?_
  obtain ⟨q17, hq17, hf⟩ := g_bind hf
  refine gw_callS hC [.int q14.1] [] (Units_sixteenth_m _ _ _ ao aa N _ _ _ _ hq17) kc_Reader_223 ⟨by decide, by decide⟩ (Nat.le_of_ble_eq_true rfl) [.int q14.1] [.int q17.1] rfl rfl d_Reader_readSixteenths_17 ?_
  refine gw_istore hC [(4, .int q17.1), (0, .ref (ao 2)), (1, .int x1), (2, .int x2), (3, .int x3)] d_Reader_readSixteenths_20 (by decide) rfl ?_
  refine gw_iload hC 0 d_Reader_readSixteenths_22 rfl ?_
  refine gw_if_ge hC 37 d_Reader_readSixteenths_24 (by decide) (fun hh => ?_) (fun hh => ?_)
  · rw [if_pos hh] at hf
    refine gw_lv [1, 2, 3, 4, 0] rfl ?_
    exact Reader_readSixteenths_p37 ao aa hC N _ hk4 _ _ _ _ _ _ _ hf
  · rw [if_neg hh] at hf
    refine gw_lv [1] rfl ?_
    exact Reader_readSixteenths_p27 ao aa hC N _ _ _ hf
def Reader_readSixteenths_b4 (N : Nat) (k4 : Int32 → Int32 → Int32 → g_S → Option (Int32 × g_S)) (x1 : Int32) (x2 : Int32) (x3 : Int32) (σ : g_S) : Option (Int32 × g_S) := if x1 ≤ x3 then Reader_readSixteenths_b61 N x2 σ else Reader_readSixteenths_b9 N k4 x1 x2 x3 σ
theorem Reader_readSixteenths_p4 (ao aa : Nat → Nat) {X : g_X} (hC : gC X c_Reader_readSixteenths R_Reader 1 21 5 (some .int)) (N : Nat) (k4 : Int32 → Int32 → Int32 → g_S → Option (Int32 × g_S)) (hk4 : ∀ (x1 : Int32) (x2 : Int32) (x3 : Int32) (σ : g_S) (r : Int32) (σe : g_S), k4 x1 x2 x3 σ = some (r, σe) → gw X (.inl (some (.int r))) (LC ao aa X.2.2.1 σe) (LC ao aa X.2.2.1 σ) [(0, .ref (ao 2)), (1, .int x1), (2, .int x2), (3, .int x3)] 4 []) (x1 : Int32) (x2 : Int32) (x3 : Int32) (σ : g_S) (r : Int32) (σe : g_S) (hf : Reader_readSixteenths_b4 N k4 x1 x2 x3 σ = some (r, σe)) : gw X (.inl (some (.int r))) (LC ao aa X.2.2.1 σe) (LC ao aa X.2.2.1 σ) [(0, .ref (ao 2)), (1, .int x1), (2, .int x2), (3, .int x3)] 4 [] := by
  unfold Reader_readSixteenths_b4 at hf
  refine gw_iload_n hC 3 d_Reader_readSixteenths_4 rfl rfl ?_
  refine gw_iload_n hC 1 d_Reader_readSixteenths_5 rfl rfl ?_
  refine gw_icmp_ge hC 61 d_Reader_readSixteenths_6 (by decide) (fun hh => ?_) (fun hh => ?_)
  · rw [if_pos hh] at hf
    refine gw_lv [0, 2] rfl ?_
    exact Reader_readSixteenths_p61 ao aa hC N _ _ _ _ hf
  · rw [if_neg hh] at hf
    exact Reader_readSixteenths_p9 ao aa hC N _ hk4 _ _ _ _ _ _ hf
def Reader_readSixteenths_l4 (N : Nat) : Nat → Int32 → Int32 → Int32 → g_S → Option (Int32 × g_S)
  | 0 => fun _ _ _ _ => none
  | n + 1 => fun x1 x2 x3 σ => Reader_readSixteenths_b4 N (Reader_readSixteenths_l4 N n) x1 x2 x3 σ
theorem Reader_readSixteenths_q4 (ao aa : Nat → Nat) {X : g_X} (hC : gC X c_Reader_readSixteenths R_Reader 1 21 5 (some .int)) (N : Nat) (n : Nat) : ∀ (x1 : Int32) (x2 : Int32) (x3 : Int32) (σ : g_S) (r : Int32) (σe : g_S), Reader_readSixteenths_l4 N n x1 x2 x3 σ = some (r, σe) → gw X (.inl (some (.int r))) (LC ao aa X.2.2.1 σe) (LC ao aa X.2.2.1 σ) [(0, .ref (ao 2)), (1, .int x1), (2, .int x2), (3, .int x3)] 4 [] := by
  induction n with
  | zero => intro x1 x2 x3 σ r σe hf; cases hf
  | succ n ih => intro x1 x2 x3 σ r σe hf; exact Reader_readSixteenths_p4 ao aa hC N _ (fun x1 x2 x3 σ r2 σ2 h2 => ih x1 x2 x3 σ r2 σ2 h2) x1 x2 x3 σ r σe hf
def Reader_readSixteenths_b0 (N : Nat) (x1 : Int32) (σ : g_S) : Option (Int32 × g_S) := Reader_readSixteenths_l4 N N x1 0 0 σ
theorem Reader_readSixteenths_p0 (ao aa : Nat → Nat) {X : g_X} (hC : gC X c_Reader_readSixteenths R_Reader 1 21 5 (some .int)) (N : Nat) (x1 : Int32) (σ : g_S) (r : Int32) (σe : g_S) (hf : Reader_readSixteenths_b0 N x1 σ = some (r, σe)) : gw X (.inl (some (.int r))) (LC ao aa X.2.2.1 σe) (LC ao aa X.2.2.1 σ) [(0, .ref (ao 2)), (1, .int x1)] 0 [] := by
  unfold Reader_readSixteenths_b0 at hf
  refine gw_iconst hC 0 d_Reader_readSixteenths_0 (by decide) ?_
  refine gw_istore_n hC [(2, .int 0), (0, .ref (ao 2)), (1, .int x1)] d_Reader_readSixteenths_1 rfl (by decide) rfl ?_
  refine gw_iconst hC 0 d_Reader_readSixteenths_2 (by decide) ?_
  refine gw_istore_n hC [(3, .int 0), (2, .int 0), (0, .ref (ao 2)), (1, .int x1)] d_Reader_readSixteenths_3 rfl (by decide) rfl ?_
  refine gw_lv [2, 3, 1, 0] rfl ?_
  exact Reader_readSixteenths_q4 ao aa hC N N _ _ _ _ _ _ hf
def Reader_readSixteenths (N : Nat) (x1 : Int32) (σ : g_S) : Option (Int32 × g_S) := Reader_readSixteenths_b0 N x1 σ
theorem Reader_readSixteenths_m (l : Launch) (D : va_G) (cA : ClassId) (ao aa : Nat → Nat) (N : Nat) (x1 : Int32) (σ : g_S) (r : Int32) (σe : g_S) (hf : Reader_readSixteenths N x1 σ = some (r, σe)) : Mt l D cA y_Reader_readSixteenths c_Reader_readSixteenths 5 (some .int) 1 21 [.ref (ao 2), .int x1] (LC ao aa cA σ) (some (.int r)) (LC ao aa cA σe) := by
  refine g_met (by decide +kernel) (by simp [lg_sl, Value.category]) (fun X e1 e2 e3 hC => ?_)
  subst e1 e2 e3
  refine gw_lv [0, 1] rfl ?_
  exact Reader_readSixteenths_p0 ao aa hC N _ _ (r) _ hf
