theorem kc_Reader_65 : g_okV R_Reader 65 y_Reader_tooGreatReference c_Reader_tooGreatReference 2 (some .int) 0 := ⟨g_mem (List.mem_append_right _ (List.mem_append_right _ (List.mem_append_right _ (List.mem_append_left _ (List.mem_of_getElem? (i := 49) rfl))))) rfl, g_mem (List.mem_append_right _ (List.mem_append_left _ (List.mem_of_getElem? (i := 3) (by decide +kernel)))) rfl, g_mem (List.mem_append_right _ (List.mem_append_right _ (List.mem_append_right _ (List.mem_append_left _ (List.mem_of_getElem? (i := 46) (by decide +kernel)))))) rfl, g_mem (List.mem_append_right _ (List.mem_append_right _ (List.mem_append_right _ (List.mem_append_left _ (List.mem_of_getElem? (i := 48) (by decide +kernel)))))) rfl, g_mem (List.mem_append_left _ (List.mem_of_getElem? (i := 27) (by decide +kernel))) rfl, by decide +kernel, by decide +kernel, by decide +kernel⟩
theorem kc_Reader_62 : g_okV R_Reader 62 y_Reader_appendAtom c_Reader_appendAtom 1 none 0 := ⟨g_mem (List.mem_append_right _ (List.mem_append_right _ (List.mem_append_right _ (List.mem_append_left _ (List.mem_of_getElem? (i := 22) rfl))))) rfl, g_mem (List.mem_append_right _ (List.mem_append_left _ (List.mem_of_getElem? (i := 3) (by decide +kernel)))) rfl, g_mem (List.mem_append_right _ (List.mem_append_right _ (List.mem_append_right _ (List.mem_append_left _ (List.mem_of_getElem? (i := 19) (by decide +kernel)))))) rfl, g_mem (List.mem_append_right _ (List.mem_append_right _ (List.mem_append_right _ (List.mem_append_left _ (List.mem_of_getElem? (i := 21) (by decide +kernel)))))) rfl, g_mem (List.mem_append_left _ (List.mem_of_getElem? (i := 21) (by decide +kernel))) rfl, by decide +kernel, by decide +kernel, by decide +kernel⟩
theorem kc_Reader_59 : g_okV R_Reader 59 y_Reader_readTerm c_Reader_readTerm 2 none 0 := ⟨g_mem (List.mem_append_right _ (List.mem_append_right _ (List.mem_append_left _ (List.mem_of_getElem? (i := 156) rfl)))) rfl, g_mem (List.mem_append_right _ (List.mem_append_left _ (List.mem_of_getElem? (i := 3) (by decide +kernel)))) rfl, g_mem (List.mem_append_right _ (List.mem_append_right _ (List.mem_append_left _ (List.mem_of_getElem? (i := 153) (by decide +kernel))))) rfl, g_mem (List.mem_append_right _ (List.mem_append_right _ (List.mem_append_left _ (List.mem_of_getElem? (i := 155) (by decide +kernel))))) rfl, g_mem (List.mem_append_left _ (List.mem_of_getElem? (i := 2) (by decide +kernel))) rfl, by decide +kernel, by decide +kernel, by decide +kernel⟩
theorem kc_Reader_49 : g_okV R_Reader 49 y_Program_clear c_Program_clear 1 none 0 := ⟨g_mem (List.mem_append_right _ (List.mem_append_right _ (List.mem_append_left _ (List.mem_of_getElem? (i := 144) rfl)))) rfl, g_mem (List.mem_append_right _ (List.mem_append_left _ (List.mem_of_getElem? (i := 2) (by decide +kernel)))) rfl, g_mem (List.mem_append_right _ (List.mem_append_right _ (List.mem_append_left _ (List.mem_of_getElem? (i := 141) (by decide +kernel))))) rfl, g_mem (List.mem_append_right _ (List.mem_append_right _ (List.mem_append_left _ (List.mem_of_getElem? (i := 142) (by decide +kernel))))) rfl, g_mem (List.mem_append_right _ (List.mem_append_right _ (List.mem_append_left _ (List.mem_of_getElem? (i := 143) (by decide +kernel))))) rfl, by decide +kernel, by decide +kernel, by decide +kernel⟩
theorem kf_Machine_57 : Cond.fieldLink R_Machine 57 "PatternDesk$Machine" "fuel" "I" ∈ g_TB := g_mem (List.mem_append_right _ (List.mem_append_left _ (List.mem_of_getElem? (i := 193) (by decide +kernel)))) rfl
theorem kf_Machine_60 : Cond.fieldLink R_Machine 60 "PatternDesk$Machine" "taken" "I" ∈ g_TB := g_mem (List.mem_append_right _ (List.mem_append_left _ (List.mem_of_getElem? (i := 196) (by decide +kernel)))) rfl
theorem kf_Machine_17 : Cond.fieldLink R_Machine 17 "PatternDesk$Machine" "cells" "[I" ∈ g_TB := g_mem (List.mem_append_right _ (List.mem_append_left _ (List.mem_of_getElem? (i := 183) (by decide +kernel)))) rfl
theorem kc_Machine_63 : g_okV R_Machine 63 y_Machine_groupBegin c_Machine_groupBegin 2 (some .int) 1 := ⟨g_mem (List.mem_append_right _ (List.mem_append_right _ (List.mem_append_right _ (List.mem_append_left _ (List.mem_of_getElem? (i := 185) rfl))))) rfl, g_mem (List.mem_append_right _ (List.mem_append_left _ (List.mem_of_getElem? (i := 4) (by decide +kernel)))) rfl, g_mem (List.mem_append_right _ (List.mem_append_right _ (List.mem_append_right _ (List.mem_append_left _ (List.mem_of_getElem? (i := 182) (by decide +kernel)))))) rfl, g_mem (List.mem_append_right _ (List.mem_append_right _ (List.mem_append_right _ (List.mem_append_left _ (List.mem_of_getElem? (i := 183) (by decide +kernel)))))) rfl, g_mem (List.mem_append_right _ (List.mem_append_right _ (List.mem_append_right _ (List.mem_append_left _ (List.mem_of_getElem? (i := 184) (by decide +kernel)))))) rfl, by decide +kernel, by decide +kernel, by decide +kernel⟩
theorem kc_Machine_180 : g_okS R_Machine 180 y_Units_upper c_Units_upper 1 (some .int) 1 := ⟨g_mem (List.mem_append_right _ (List.mem_append_right _ (List.mem_append_right _ (List.mem_append_left _ (List.mem_of_getElem? (i := 96) rfl))))) rfl, g_mem (List.mem_append_right _ (List.mem_append_left _ (List.mem_of_getElem? (i := 12) (by decide +kernel)))) rfl, g_mem (List.mem_append_right _ (List.mem_append_right _ (List.mem_append_right _ (List.mem_append_left _ (List.mem_of_getElem? (i := 94) (by decide +kernel)))))) rfl, g_mem (List.mem_append_right _ (List.mem_append_right _ (List.mem_append_right _ (List.mem_append_left _ (List.mem_of_getElem? (i := 95) (by decide +kernel)))))) rfl, by decide +kernel, by decide +kernel, by decide +kernel⟩
theorem kf_Machine_39 : Cond.fieldLink R_Machine 39 "PatternDesk$Machine" "program" "LPatternDesk$Program;" ∈ g_TB := g_mem (List.mem_append_right _ (List.mem_append_left _ (List.mem_of_getElem? (i := 181) (by decide +kernel)))) rfl
theorem kf_Machine_177 : Cond.fieldLink R_Machine 177 "PatternDesk$Program" "ignoring" "Z" ∈ g_TB := g_mem (List.mem_append_right _ (List.mem_append_left _ (List.mem_of_getElem? (i := 73) (by decide +kernel)))) rfl
theorem kc_Machine_168 : g_okS R_Machine 168 y_Units_inSet c_Units_inSet 2 (some .boolean) 2 := ⟨g_mem (List.mem_append_right _ (List.mem_append_right _ (List.mem_append_right _ (List.mem_append_left _ (List.mem_of_getElem? (i := 102) rfl))))) rfl, g_mem (List.mem_append_right _ (List.mem_append_left _ (List.mem_of_getElem? (i := 12) (by decide +kernel)))) rfl, g_mem (List.mem_append_right _ (List.mem_append_right _ (List.mem_append_right _ (List.mem_append_left _ (List.mem_of_getElem? (i := 100) (by decide +kernel)))))) rfl, g_mem (List.mem_append_right _ (List.mem_append_right _ (List.mem_append_right _ (List.mem_append_left _ (List.mem_of_getElem? (i := 101) (by decide +kernel)))))) rfl, by decide +kernel, by decide +kernel, by decide +kernel⟩
theorem kf_Machine_186 : Cond.fieldLink R_Machine 186 "PatternDesk$Program" "low" "[I" ∈ g_TB := g_mem (List.mem_append_right _ (List.mem_append_left _ (List.mem_of_getElem? (i := 40) (by decide +kernel)))) rfl
theorem kf_Machine_189 : Cond.fieldLink R_Machine 189 "PatternDesk$Program" "high" "[I" ∈ g_TB := g_mem (List.mem_append_right _ (List.mem_append_left _ (List.mem_of_getElem? (i := 42) (by decide +kernel)))) rfl
theorem kn_Machine_192 : Cond.constant R_Machine 192 65536 ∈ g_TB := g_mem (List.mem_append_right _ (List.mem_append_right _ (List.mem_append_right _ (List.mem_append_left _ (List.mem_of_getElem? (i := 119) (by decide +kernel)))))) rfl
theorem kc_Machine_183 : g_okS R_Machine 183 y_Units_twin c_Units_twin 2 (some .int) 1 := ⟨g_mem (List.mem_append_right _ (List.mem_append_right _ (List.mem_append_right _ (List.mem_append_left _ (List.mem_of_getElem? (i := 117) rfl))))) rfl, g_mem (List.mem_append_right _ (List.mem_append_left _ (List.mem_of_getElem? (i := 12) (by decide +kernel)))) rfl, g_mem (List.mem_append_right _ (List.mem_append_right _ (List.mem_append_right _ (List.mem_append_left _ (List.mem_of_getElem? (i := 115) (by decide +kernel)))))) rfl, g_mem (List.mem_append_right _ (List.mem_append_right _ (List.mem_append_right _ (List.mem_append_left _ (List.mem_of_getElem? (i := 116) (by decide +kernel)))))) rfl, by decide +kernel, by decide +kernel, by decide +kernel⟩
theorem kc_Machine_165 : g_okV R_Machine 165 y_Machine_isSame c_Machine_isSame 3 (some .boolean) 2 := ⟨g_mem (List.mem_append_right _ (List.mem_append_right _ (List.mem_append_right _ (List.mem_append_left _ (List.mem_of_getElem? (i := 93) rfl))))) rfl, g_mem (List.mem_append_right _ (List.mem_append_left _ (List.mem_of_getElem? (i := 4) (by decide +kernel)))) rfl, g_mem (List.mem_append_right _ (List.mem_append_right _ (List.mem_append_right _ (List.mem_append_left _ (List.mem_of_getElem? (i := 90) (by decide +kernel)))))) rfl, g_mem (List.mem_append_right _ (List.mem_append_right _ (List.mem_append_right _ (List.mem_append_left _ (List.mem_of_getElem? (i := 92) (by decide +kernel)))))) rfl, g_mem (List.mem_append_left _ (List.mem_of_getElem? (i := 33) (by decide +kernel))) rfl, by decide +kernel, by decide +kernel, by decide +kernel⟩
theorem kc_Machine_153 : g_okS R_Machine 153 y_Units_isLineEnd c_Units_isLineEnd 1 (some .boolean) 1 := ⟨g_mem (List.mem_append_right _ (List.mem_append_right _ (List.mem_append_right _ (List.mem_append_left _ (List.mem_of_getElem? (i := 99) rfl))))) rfl, g_mem (List.mem_append_right _ (List.mem_append_left _ (List.mem_of_getElem? (i := 12) (by decide +kernel)))) rfl, g_mem (List.mem_append_right _ (List.mem_append_right _ (List.mem_append_right _ (List.mem_append_left _ (List.mem_of_getElem? (i := 97) (by decide +kernel)))))) rfl, g_mem (List.mem_append_right _ (List.mem_append_right _ (List.mem_append_right _ (List.mem_append_left _ (List.mem_of_getElem? (i := 98) (by decide +kernel)))))) rfl, by decide +kernel, by decide +kernel, by decide +kernel⟩
theorem kf_Machine_171 : Cond.fieldLink R_Machine 171 "PatternDesk$Program" "second" "[I" ∈ g_TB := g_mem (List.mem_append_right _ (List.mem_append_left _ (List.mem_of_getElem? (i := 37) (by decide +kernel)))) rfl
theorem kc_Machine_174 : g_okV R_Machine 174 y_Machine_hasMember c_Machine_hasMember 9 (some .boolean) 3 := ⟨g_mem (List.mem_append_right _ (List.mem_append_right _ (List.mem_append_right _ (List.mem_append_left _ (List.mem_of_getElem? (i := 114) rfl))))) rfl, g_mem (List.mem_append_right _ (List.mem_append_left _ (List.mem_of_getElem? (i := 4) (by decide +kernel)))) rfl, g_mem (List.mem_append_right _ (List.mem_append_right _ (List.mem_append_right _ (List.mem_append_left _ (List.mem_of_getElem? (i := 111) (by decide +kernel)))))) rfl, g_mem (List.mem_append_right _ (List.mem_append_right _ (List.mem_append_right _ (List.mem_append_left _ (List.mem_of_getElem? (i := 113) (by decide +kernel)))))) rfl, g_mem (List.mem_append_left _ (List.mem_of_getElem? (i := 34) (by decide +kernel))) rfl, by decide +kernel, by decide +kernel, by decide +kernel⟩
theorem kf_Machine_67 : Cond.fieldLink R_Machine 67 "PatternDesk$Machine" "at" "I" ∈ g_TB := g_mem (List.mem_append_right _ (List.mem_append_left _ (List.mem_of_getElem? (i := 192) (by decide +kernel)))) rfl
theorem kc_Machine_150 : g_okV R_Machine 150 y_Machine_unitAt c_Machine_unitAt 2 (some .int) 1 := ⟨g_mem (List.mem_append_right _ (List.mem_append_right _ (List.mem_append_right _ (List.mem_append_left _ (List.mem_of_getElem? (i := 89) rfl))))) rfl, g_mem (List.mem_append_right _ (List.mem_append_left _ (List.mem_of_getElem? (i := 4) (by decide +kernel)))) rfl, g_mem (List.mem_append_right _ (List.mem_append_right _ (List.mem_append_right _ (List.mem_append_left _ (List.mem_of_getElem? (i := 86) (by decide +kernel)))))) rfl, g_mem (List.mem_append_right _ (List.mem_append_right _ (List.mem_append_right _ (List.mem_append_left _ (List.mem_of_getElem? (i := 88) (by decide +kernel)))))) rfl, g_mem (List.mem_append_left _ (List.mem_of_getElem? (i := 32) (by decide +kernel))) rfl, by decide +kernel, by decide +kernel, by decide +kernel⟩
theorem kf_Machine_146 : Cond.fieldLink R_Machine 146 "PatternDesk$Program" "lines" "Z" ∈ g_TB := g_mem (List.mem_append_right _ (List.mem_append_left _ (List.mem_of_getElem? (i := 75) (by decide +kernel)))) rfl
theorem kc_Machine_159 : g_okS R_Machine 159 y_Units_isWord c_Units_isWord 1 (some .boolean) 1 := ⟨g_mem (List.mem_append_right _ (List.mem_append_right _ (List.mem_append_right _ (List.mem_append_left _ (List.mem_of_getElem? (i := 110) rfl))))) rfl, g_mem (List.mem_append_right _ (List.mem_append_left _ (List.mem_of_getElem? (i := 12) (by decide +kernel)))) rfl, g_mem (List.mem_append_right _ (List.mem_append_right _ (List.mem_append_right _ (List.mem_append_left _ (List.mem_of_getElem? (i := 124) (by decide +kernel)))))) rfl, g_mem (List.mem_append_right _ (List.mem_append_right _ (List.mem_append_right _ (List.mem_append_left _ (List.mem_of_getElem? (i := 109) (by decide +kernel)))))) rfl, by decide +kernel, by decide +kernel, by decide +kernel⟩
theorem kc_Machine_162 : g_okV R_Machine 162 y_Machine_takesGroupAgain c_Machine_takesGroupAgain 5 (some .boolean) 1 := ⟨g_mem (List.mem_append_right _ (List.mem_append_right _ (List.mem_append_right _ (List.mem_append_left _ (List.mem_of_getElem? (i := 128) rfl))))) rfl, g_mem (List.mem_append_right _ (List.mem_append_left _ (List.mem_of_getElem? (i := 4) (by decide +kernel)))) rfl, g_mem (List.mem_append_right _ (List.mem_append_right _ (List.mem_append_right _ (List.mem_append_left _ (List.mem_of_getElem? (i := 125) (by decide +kernel)))))) rfl, g_mem (List.mem_append_right _ (List.mem_append_right _ (List.mem_append_right _ (List.mem_append_left _ (List.mem_of_getElem? (i := 127) (by decide +kernel)))))) rfl, g_mem (List.mem_append_left _ (List.mem_of_getElem? (i := 36) (by decide +kernel))) rfl, by decide +kernel, by decide +kernel, by decide +kernel⟩
theorem d_Reader_readPattern_0 : decode c_Reader_readPattern 0 = .ok (.aload_n 0, 1) := by decide +kernel
theorem d_Reader_readPattern_1 : decode c_Reader_readPattern 1 = .ok (.iload_n 1, 1) := by decide +kernel
theorem d_Reader_readPattern_2 : decode c_Reader_readPattern 2 = .ok (.putfield 31, 3) := by decide +kernel
theorem d_Reader_readPattern_5 : decode c_Reader_readPattern 5 = .ok (.aload_n 0, 1) := by decide +kernel
theorem d_Reader_readPattern_6 : decode c_Reader_readPattern 6 = .ok (.iconst 0, 1) := by decide +kernel
theorem d_Reader_readPattern_7 : decode c_Reader_readPattern 7 = .ok (.putfield 35, 3) := by decide +kernel
theorem d_Reader_readPattern_10 : decode c_Reader_readPattern 10 = .ok (.aload_n 0, 1) := by decide +kernel
theorem d_Reader_readPattern_11 : decode c_Reader_readPattern 11 = .ok (.iconst (-1), 1) := by decide +kernel
theorem d_Reader_readPattern_12 : decode c_Reader_readPattern 12 = .ok (.putfield 38, 3) := by decide +kernel
theorem d_Reader_readPattern_15 : decode c_Reader_readPattern 15 = .ok (.aload_n 0, 1) := by decide +kernel
theorem d_Reader_readPattern_16 : decode c_Reader_readPattern 16 = .ok (.iconst 0, 1) := by decide +kernel
theorem d_Reader_readPattern_17 : decode c_Reader_readPattern 17 = .ok (.putfield 41, 3) := by decide +kernel
theorem d_Reader_readPattern_20 : decode c_Reader_readPattern 20 = .ok (.aload_n 0, 1) := by decide +kernel
theorem d_Reader_readPattern_21 : decode c_Reader_readPattern 21 = .ok (.iconst (-1), 1) := by decide +kernel
theorem d_Reader_readPattern_22 : decode c_Reader_readPattern 22 = .ok (.putfield 46, 3) := by decide +kernel
theorem d_Reader_readPattern_25 : decode c_Reader_readPattern 25 = .ok (.aload_n 0, 1) := by decide +kernel
theorem d_Reader_readPattern_26 : decode c_Reader_readPattern 26 = .ok (.getfield 24, 3) := by decide +kernel
theorem d_Reader_readPattern_29 : decode c_Reader_readPattern 29 = .ok (.invokevirtual 49, 3) := by decide +kernel
theorem d_Reader_readPattern_32 : decode c_Reader_readPattern 32 = .ok (.aload_n 0, 1) := by decide +kernel
theorem d_Reader_readPattern_33 : decode c_Reader_readPattern 33 = .ok (.getfield 24, 3) := by decide +kernel
theorem d_Reader_readPattern_36 : decode c_Reader_readPattern 36 = .ok (.iconst 0, 1) := by decide +kernel
theorem d_Reader_readPattern_37 : decode c_Reader_readPattern 37 = .ok (.iconst 0, 1) := by decide +kernel
theorem d_Reader_readPattern_38 : decode c_Reader_readPattern 38 = .ok (.iconst 0, 1) := by decide +kernel
theorem d_Reader_readPattern_39 : decode c_Reader_readPattern 39 = .ok (.invokevirtual 52, 3) := by decide +kernel
theorem d_Reader_readPattern_42 : decode c_Reader_readPattern 42 = .ok (.pop, 1) := by decide +kernel
theorem d_Reader_readPattern_43 : decode c_Reader_readPattern 43 = .ok (.aload_n 0, 1) := by decide +kernel
theorem d_Reader_readPattern_44 : decode c_Reader_readPattern 44 = .ok (.invokevirtual 56, 3) := by decide +kernel
theorem d_Reader_readPattern_47 : decode c_Reader_readPattern 47 = .ok (.iconst 0, 1) := by decide +kernel
theorem d_Reader_readPattern_48 : decode c_Reader_readPattern 48 = .ok (.istore_n 2, 1) := by decide +kernel
theorem d_Reader_readPattern_49 : decode c_Reader_readPattern 49 = .ok (.iload_n 2, 1) := by decide +kernel
theorem d_Reader_readPattern_50 : decode c_Reader_readPattern 50 = .ok (.sipush 200, 3) := by decide +kernel
theorem d_Reader_readPattern_53 : decode c_Reader_readPattern 53 = .ok (.if_icmp .ge 50, 3) := by decide +kernel
theorem d_Reader_readPattern_56 : decode c_Reader_readPattern 56 = .ok (.aload_n 0, 1) := by decide +kernel
theorem d_Reader_readPattern_57 : decode c_Reader_readPattern 57 = .ok (.getfield 35, 3) := by decide +kernel
theorem d_Reader_readPattern_60 : decode c_Reader_readPattern 60 = .ok (.aload_n 0, 1) := by decide +kernel
theorem d_Reader_readPattern_61 : decode c_Reader_readPattern 61 = .ok (.getfield 31, 3) := by decide +kernel
theorem d_Reader_readPattern_64 : decode c_Reader_readPattern 64 = .ok (.if_icmp .ge 39, 3) := by decide +kernel
theorem d_Reader_readPattern_67 : decode c_Reader_readPattern 67 = .ok (.aload_n 0, 1) := by decide +kernel
theorem d_Reader_readPattern_68 : decode c_Reader_readPattern 68 = .ok (.getfield 38, 3) := by decide +kernel
theorem d_Reader_readPattern_71 : decode c_Reader_readPattern 71 = .ok (.ifCond .ge 32, 3) := by decide +kernel
theorem d_Reader_readPattern_74 : decode c_Reader_readPattern 74 = .ok (.aload_n 0, 1) := by decide +kernel
theorem d_Reader_readPattern_75 : decode c_Reader_readPattern 75 = .ok (.invokevirtual 59, 3) := by decide +kernel
theorem d_Reader_readPattern_78 : decode c_Reader_readPattern 78 = .ok (.aload_n 0, 1) := by decide +kernel
theorem d_Reader_readPattern_79 : decode c_Reader_readPattern 79 = .ok (.getfield 38, 3) := by decide +kernel
theorem d_Reader_readPattern_82 : decode c_Reader_readPattern 82 = .ok (.ifCond .ge 15, 3) := by decide +kernel
theorem d_Reader_readPattern_85 : decode c_Reader_readPattern 85 = .ok (.aload_n 0, 1) := by decide +kernel
theorem d_Reader_readPattern_86 : decode c_Reader_readPattern 86 = .ok (.getfield 46, 3) := by decide +kernel
theorem d_Reader_readPattern_89 : decode c_Reader_readPattern 89 = .ok (.iconst (-1), 1) := by decide +kernel
theorem d_Reader_readPattern_90 : decode c_Reader_readPattern 90 = .ok (.if_icmp .eq 7, 3) := by decide +kernel
theorem d_Reader_readPattern_93 : decode c_Reader_readPattern 93 = .ok (.aload_n 0, 1) := by decide +kernel
theorem d_Reader_readPattern_94 : decode c_Reader_readPattern 94 = .ok (.invokevirtual 62, 3) := by decide +kernel
theorem d_Reader_readPattern_97 : decode c_Reader_readPattern 97 = .ok (.iinc 2 1, 3) := by decide +kernel
theorem d_Reader_readPattern_100 : decode c_Reader_readPattern 100 = .ok (.goto (-51), 3) := by decide +kernel
theorem d_Reader_readPattern_103 : decode c_Reader_readPattern 103 = .ok (.aload_n 0, 1) := by decide +kernel
theorem d_Reader_readPattern_104 : decode c_Reader_readPattern 104 = .ok (.getfield 38, 3) := by decide +kernel
theorem d_Reader_readPattern_107 : decode c_Reader_readPattern 107 = .ok (.ifCond .ge 18, 3) := by decide +kernel
theorem d_Reader_readPattern_110 : decode c_Reader_readPattern 110 = .ok (.aload_n 0, 1) := by decide +kernel
theorem d_Reader_readPattern_111 : decode c_Reader_readPattern 111 = .ok (.getfield 41, 3) := by decide +kernel
theorem d_Reader_readPattern_114 : decode c_Reader_readPattern 114 = .ok (.ifCond .le 11, 3) := by decide +kernel
theorem d_Reader_readPattern_117 : decode c_Reader_readPattern 117 = .ok (.aload_n 0, 1) := by decide +kernel
theorem d_Reader_readPattern_118 : decode c_Reader_readPattern 118 = .ok (.aload_n 0, 1) := by decide +kernel
theorem d_Reader_readPattern_119 : decode c_Reader_readPattern 119 = .ok (.getfield 31, 3) := by decide +kernel
theorem d_Reader_readPattern_122 : decode c_Reader_readPattern 122 = .ok (.putfield 38, 3) := by decide +kernel
theorem d_Reader_readPattern_125 : decode c_Reader_readPattern 125 = .ok (.aload_n 0, 1) := by decide +kernel
theorem d_Reader_readPattern_126 : decode c_Reader_readPattern 126 = .ok (.getfield 38, 3) := by decide +kernel
theorem d_Reader_readPattern_129 : decode c_Reader_readPattern 129 = .ok (.ifCond .ge 11, 3) := by decide +kernel
theorem d_Reader_readPattern_132 : decode c_Reader_readPattern 132 = .ok (.aload_n 0, 1) := by decide +kernel
theorem d_Reader_readPattern_133 : decode c_Reader_readPattern 133 = .ok (.aload_n 0, 1) := by decide +kernel
theorem d_Reader_readPattern_134 : decode c_Reader_readPattern 134 = .ok (.invokevirtual 65, 3) := by decide +kernel
theorem d_Reader_readPattern_137 : decode c_Reader_readPattern 137 = .ok (.putfield 38, 3) := by decide +kernel
theorem d_Reader_readPattern_140 : decode c_Reader_readPattern 140 = .ok (.aload_n 0, 1) := by decide +kernel
theorem d_Reader_readPattern_141 : decode c_Reader_readPattern 141 = .ok (.getfield 24, 3) := by decide +kernel
theorem d_Reader_readPattern_144 : decode c_Reader_readPattern 144 = .ok (.aload_n 0, 1) := by decide +kernel
theorem d_Reader_readPattern_145 : decode c_Reader_readPattern 145 = .ok (.getfield 69, 3) := by decide +kernel
theorem d_Reader_readPattern_148 : decode c_Reader_readPattern 148 = .ok (.iconst 0, 1) := by decide +kernel
theorem d_Reader_readPattern_149 : decode c_Reader_readPattern 149 = .ok (.invokevirtual 72, 3) := by decide +kernel
theorem d_Reader_readPattern_152 : decode c_Reader_readPattern 152 = .ok (.aload_n 0, 1) := by decide +kernel
theorem d_Reader_readPattern_153 : decode c_Reader_readPattern 153 = .ok (.getfield 38, 3) := by decide +kernel
theorem d_Reader_readPattern_156 : decode c_Reader_readPattern 156 = .ok (.ireturn, 1) := by decide +kernel
theorem d_Machine_refuel_0 : decode c_Machine_refuel 0 = .ok (.aload_n 0, 1) := by decide +kernel
theorem d_Machine_refuel_1 : decode c_Machine_refuel 1 = .ok (.iload_n 1, 1) := by decide +kernel
theorem d_Machine_refuel_2 : decode c_Machine_refuel 2 = .ok (.putfield 57, 3) := by decide +kernel
theorem d_Machine_refuel_5 : decode c_Machine_refuel 5 = .ok (.aload_n 0, 1) := by decide +kernel
theorem d_Machine_refuel_6 : decode c_Machine_refuel 6 = .ok (.iconst 0, 1) := by decide +kernel
theorem d_Machine_refuel_7 : decode c_Machine_refuel 7 = .ok (.putfield 60, 3) := by decide +kernel
theorem d_Machine_refuel_10 : decode c_Machine_refuel 10 = .ok (.return_, 1) := by decide +kernel
theorem d_Machine_groupBegin_0 : decode c_Machine_groupBegin 0 = .ok (.aload_n 0, 1) := by decide +kernel
theorem d_Machine_groupBegin_1 : decode c_Machine_groupBegin 1 = .ok (.getfield 17, 3) := by decide +kernel
theorem d_Machine_groupBegin_4 : decode c_Machine_groupBegin 4 = .ok (.iconst 0, 1) := by decide +kernel
theorem d_Machine_groupBegin_5 : decode c_Machine_groupBegin 5 = .ok (.iload_n 1, 1) := by decide +kernel
theorem d_Machine_groupBegin_6 : decode c_Machine_groupBegin 6 = .ok (.iadd, 1) := by decide +kernel
theorem d_Machine_groupBegin_7 : decode c_Machine_groupBegin 7 = .ok (.invokestatic 43, 3) := by decide +kernel
theorem d_Machine_groupBegin_10 : decode c_Machine_groupBegin 10 = .ok (.ireturn, 1) := by decide +kernel
theorem d_Machine_groupEnd_0 : decode c_Machine_groupEnd 0 = .ok (.aload_n 0, 1) := by decide +kernel
theorem d_Machine_groupEnd_1 : decode c_Machine_groupEnd 1 = .ok (.iload_n 1, 1) := by decide +kernel
theorem d_Machine_groupEnd_2 : decode c_Machine_groupEnd 2 = .ok (.invokevirtual 63, 3) := by decide +kernel
theorem d_Machine_groupEnd_5 : decode c_Machine_groupEnd 5 = .ok (.ifCond .ge 7, 3) := by decide +kernel
theorem d_Machine_groupEnd_8 : decode c_Machine_groupEnd 8 = .ok (.iconst (-1), 1) := by decide +kernel
theorem d_Machine_groupEnd_9 : decode c_Machine_groupEnd 9 = .ok (.goto 14, 3) := by decide +kernel
theorem d_Machine_groupEnd_12 : decode c_Machine_groupEnd 12 = .ok (.aload_n 0, 1) := by decide +kernel
theorem d_Machine_groupEnd_13 : decode c_Machine_groupEnd 13 = .ok (.getfield 17, 3) := by decide +kernel
theorem d_Machine_groupEnd_16 : decode c_Machine_groupEnd 16 = .ok (.bipush 21, 2) := by decide +kernel
theorem d_Machine_groupEnd_18 : decode c_Machine_groupEnd 18 = .ok (.iload_n 1, 1) := by decide +kernel
theorem d_Machine_groupEnd_19 : decode c_Machine_groupEnd 19 = .ok (.iadd, 1) := by decide +kernel
theorem d_Machine_groupEnd_20 : decode c_Machine_groupEnd 20 = .ok (.invokestatic 43, 3) := by decide +kernel
theorem d_Machine_groupEnd_23 : decode c_Machine_groupEnd 23 = .ok (.ireturn, 1) := by decide +kernel
theorem d_Machine_takesStep_0 : decode c_Machine_takesStep 0 = .ok (.aload_n 0, 1) := by decide +kernel
theorem d_Machine_takesStep_1 : decode c_Machine_takesStep 1 = .ok (.getfield 60, 3) := by decide +kernel
theorem d_Machine_takesStep_4 : decode c_Machine_takesStep 4 = .ok (.aload_n 0, 1) := by decide +kernel
theorem d_Machine_takesStep_5 : decode c_Machine_takesStep 5 = .ok (.getfield 57, 3) := by decide +kernel
theorem d_Machine_takesStep_8 : decode c_Machine_takesStep 8 = .ok (.if_icmp .lt 5, 3) := by decide +kernel
theorem d_Machine_takesStep_11 : decode c_Machine_takesStep 11 = .ok (.iconst 0, 1) := by decide +kernel
theorem d_Machine_takesStep_12 : decode c_Machine_takesStep 12 = .ok (.ireturn, 1) := by decide +kernel
theorem d_Machine_takesStep_13 : decode c_Machine_takesStep 13 = .ok (.aload_n 0, 1) := by decide +kernel
theorem d_Machine_takesStep_14 : decode c_Machine_takesStep 14 = .ok (.dup, 1) := by decide +kernel
theorem d_Machine_takesStep_15 : decode c_Machine_takesStep 15 = .ok (.getfield 60, 3) := by decide +kernel
theorem d_Machine_takesStep_18 : decode c_Machine_takesStep 18 = .ok (.iconst 1, 1) := by decide +kernel
theorem d_Machine_takesStep_19 : decode c_Machine_takesStep 19 = .ok (.iadd, 1) := by decide +kernel
theorem d_Machine_takesStep_20 : decode c_Machine_takesStep 20 = .ok (.putfield 60, 3) := by decide +kernel
theorem d_Machine_takesStep_23 : decode c_Machine_takesStep 23 = .ok (.iconst 1, 1) := by decide +kernel
theorem d_Machine_takesStep_24 : decode c_Machine_takesStep 24 = .ok (.ireturn, 1) := by decide +kernel
theorem d_Machine_unitAt_0 : decode c_Machine_unitAt 0 = .ok (.iload_n 1, 1) := by decide +kernel
theorem d_Machine_unitAt_1 : decode c_Machine_unitAt 1 = .ok (.ifCond .lt 29, 3) := by decide +kernel
theorem d_Machine_unitAt_4 : decode c_Machine_unitAt 4 = .ok (.iload_n 1, 1) := by decide +kernel
theorem d_Machine_unitAt_5 : decode c_Machine_unitAt 5 = .ok (.aload_n 0, 1) := by decide +kernel
theorem d_Machine_unitAt_6 : decode c_Machine_unitAt 6 = .ok (.getfield 53, 3) := by decide +kernel
theorem d_Machine_unitAt_9 : decode c_Machine_unitAt 9 = .ok (.if_icmp .ge 21, 3) := by decide +kernel
theorem d_Machine_unitAt_12 : decode c_Machine_unitAt 12 = .ok (.iload_n 1, 1) := by decide +kernel
theorem d_Machine_unitAt_13 : decode c_Machine_unitAt 13 = .ok (.aload_n 0, 1) := by decide +kernel
theorem d_Machine_unitAt_14 : decode c_Machine_unitAt 14 = .ok (.getfield 13, 3) := by decide +kernel
theorem d_Machine_unitAt_17 : decode c_Machine_unitAt 17 = .ok (.arraylength, 1) := by decide +kernel
theorem d_Machine_unitAt_18 : decode c_Machine_unitAt 18 = .ok (.if_icmp .ge 12, 3) := by decide +kernel
theorem d_Machine_unitAt_21 : decode c_Machine_unitAt 21 = .ok (.aload_n 0, 1) := by decide +kernel
theorem d_Machine_unitAt_22 : decode c_Machine_unitAt 22 = .ok (.getfield 13, 3) := by decide +kernel
theorem d_Machine_unitAt_25 : decode c_Machine_unitAt 25 = .ok (.iload_n 1, 1) := by decide +kernel
theorem d_Machine_unitAt_26 : decode c_Machine_unitAt 26 = .ok (.iaload, 1) := by decide +kernel
theorem d_Machine_unitAt_27 : decode c_Machine_unitAt 27 = .ok (.goto 4, 3) := by decide +kernel
theorem d_Machine_unitAt_30 : decode c_Machine_unitAt 30 = .ok (.iconst (-1), 1) := by decide +kernel
theorem d_Machine_unitAt_31 : decode c_Machine_unitAt 31 = .ok (.ireturn, 1) := by decide +kernel
theorem d_Machine_isSame_0 : decode c_Machine_isSame 0 = .ok (.iload_n 1, 1) := by decide +kernel
theorem d_Machine_isSame_1 : decode c_Machine_isSame 1 = .ok (.iload_n 2, 1) := by decide +kernel
theorem d_Machine_isSame_2 : decode c_Machine_isSame 2 = .ok (.if_icmp .eq 24, 3) := by decide +kernel
theorem d_Machine_isSame_5 : decode c_Machine_isSame 5 = .ok (.aload_n 0, 1) := by decide +kernel
theorem d_Machine_isSame_6 : decode c_Machine_isSame 6 = .ok (.getfield 39, 3) := by decide +kernel
theorem d_Machine_isSame_9 : decode c_Machine_isSame 9 = .ok (.getfield 177, 3) := by decide +kernel
theorem d_Machine_isSame_12 : decode c_Machine_isSame 12 = .ok (.ifCond .eq 18, 3) := by decide +kernel
theorem d_Machine_isSame_15 : decode c_Machine_isSame 15 = .ok (.iload_n 1, 1) := by decide +kernel
theorem d_Machine_isSame_16 : decode c_Machine_isSame 16 = .ok (.invokestatic 180, 3) := by decide +kernel
theorem d_Machine_isSame_19 : decode c_Machine_isSame 19 = .ok (.iload_n 2, 1) := by decide +kernel
theorem d_Machine_isSame_20 : decode c_Machine_isSame 20 = .ok (.invokestatic 180, 3) := by decide +kernel
theorem d_Machine_isSame_23 : decode c_Machine_isSame 23 = .ok (.if_icmp .ne 7, 3) := by decide +kernel
theorem d_Machine_isSame_26 : decode c_Machine_isSame 26 = .ok (.iconst 1, 1) := by decide +kernel
theorem d_Machine_isSame_27 : decode c_Machine_isSame 27 = .ok (.goto 4, 3) := by decide +kernel
theorem d_Machine_isSame_30 : decode c_Machine_isSame 30 = .ok (.iconst 0, 1) := by decide +kernel
theorem d_Machine_isSame_31 : decode c_Machine_isSame 31 = .ok (.ireturn, 1) := by decide +kernel
theorem d_Machine_hasMember_0 : decode c_Machine_hasMember 0 = .ok (.aload_n 0, 1) := by decide +kernel
theorem d_Machine_hasMember_1 : decode c_Machine_hasMember 1 = .ok (.getfield 39, 3) := by decide +kernel
theorem d_Machine_hasMember_4 : decode c_Machine_hasMember 4 = .ok (.getfield 177, 3) := by decide +kernel
theorem d_Machine_hasMember_7 : decode c_Machine_hasMember 7 = .ok (.ifCond .eq 10, 3) := by decide +kernel
theorem d_Machine_hasMember_10 : decode c_Machine_hasMember 10 = .ok (.iload_n 3, 1) := by decide +kernel
theorem d_Machine_hasMember_11 : decode c_Machine_hasMember 11 = .ok (.invokestatic 183, 3) := by decide +kernel
theorem d_Machine_hasMember_14 : decode c_Machine_hasMember 14 = .ok (.goto 4, 3) := by decide +kernel
theorem d_Machine_hasMember_17 : decode c_Machine_hasMember 17 = .ok (.iload_n 3, 1) := by decide +kernel
theorem d_Machine_hasMember_18 : decode c_Machine_hasMember 18 = .ok (.istore 4, 2) := by decide +kernel
theorem d_Machine_hasMember_20 : decode c_Machine_hasMember 20 = .ok (.iload_n 1, 1) := by decide +kernel
theorem d_Machine_hasMember_21 : decode c_Machine_hasMember 21 = .ok (.istore 5, 2) := by decide +kernel
theorem d_Machine_hasMember_23 : decode c_Machine_hasMember 23 = .ok (.iload 5, 2) := by decide +kernel
theorem d_Machine_hasMember_25 : decode c_Machine_hasMember 25 = .ok (.iload_n 2, 1) := by decide +kernel
theorem d_Machine_hasMember_26 : decode c_Machine_hasMember 26 = .ok (.if_icmp .ge 111, 3) := by decide +kernel
theorem d_Machine_hasMember_29 : decode c_Machine_hasMember 29 = .ok (.aload_n 0, 1) := by decide +kernel
theorem d_Machine_hasMember_30 : decode c_Machine_hasMember 30 = .ok (.getfield 39, 3) := by decide +kernel
theorem d_Machine_hasMember_33 : decode c_Machine_hasMember 33 = .ok (.getfield 186, 3) := by decide +kernel
theorem d_Machine_hasMember_36 : decode c_Machine_hasMember 36 = .ok (.iload 5, 2) := by decide +kernel
theorem d_Machine_hasMember_38 : decode c_Machine_hasMember 38 = .ok (.invokestatic 43, 3) := by decide +kernel
theorem d_Machine_hasMember_41 : decode c_Machine_hasMember 41 = .ok (.istore 6, 2) := by decide +kernel
theorem d_Machine_hasMember_43 : decode c_Machine_hasMember 43 = .ok (.aload_n 0, 1) := by decide +kernel
theorem d_Machine_hasMember_44 : decode c_Machine_hasMember 44 = .ok (.getfield 39, 3) := by decide +kernel
theorem d_Machine_hasMember_47 : decode c_Machine_hasMember 47 = .ok (.getfield 189, 3) := by decide +kernel
theorem d_Machine_hasMember_50 : decode c_Machine_hasMember 50 = .ok (.iload 5, 2) := by decide +kernel
theorem d_Machine_hasMember_52 : decode c_Machine_hasMember 52 = .ok (.invokestatic 43, 3) := by decide +kernel
theorem d_Machine_hasMember_55 : decode c_Machine_hasMember 55 = .ok (.istore 7, 2) := by decide +kernel
theorem d_Machine_hasMember_57 : decode c_Machine_hasMember 57 = .ok (.iload 6, 2) := by decide +kernel
theorem d_Machine_hasMember_59 : decode c_Machine_hasMember 59 = .ok (.ldc 192, 2) := by decide +kernel
theorem d_Machine_hasMember_61 : decode c_Machine_hasMember 61 = .ok (.if_icmp .lt 30, 3) := by decide +kernel
theorem d_Machine_hasMember_64 : decode c_Machine_hasMember 64 = .ok (.iload 6, 2) := by decide +kernel
theorem d_Machine_hasMember_66 : decode c_Machine_hasMember 66 = .ok (.iload_n 3, 1) := by decide +kernel
theorem d_Machine_hasMember_67 : decode c_Machine_hasMember 67 = .ok (.invokestatic 168, 3) := by decide +kernel
theorem d_Machine_hasMember_70 : decode c_Machine_hasMember 70 = .ok (.ifCond .ne 13, 3) := by decide +kernel
theorem d_Machine_hasMember_73 : decode c_Machine_hasMember 73 = .ok (.iload 6, 2) := by decide +kernel
theorem d_Machine_hasMember_75 : decode c_Machine_hasMember 75 = .ok (.iload 4, 2) := by decide +kernel
theorem d_Machine_hasMember_77 : decode c_Machine_hasMember 77 = .ok (.invokestatic 168, 3) := by decide +kernel
theorem d_Machine_hasMember_80 : decode c_Machine_hasMember 80 = .ok (.ifCond .eq 7, 3) := by decide +kernel
theorem d_Machine_hasMember_83 : decode c_Machine_hasMember 83 = .ok (.iconst 1, 1) := by decide +kernel
theorem d_Machine_hasMember_84 : decode c_Machine_hasMember 84 = .ok (.goto 38, 3) := by decide +kernel
theorem d_Machine_hasMember_87 : decode c_Machine_hasMember 87 = .ok (.iconst 0, 1) := by decide +kernel
theorem d_Machine_hasMember_88 : decode c_Machine_hasMember 88 = .ok (.goto 34, 3) := by decide +kernel
theorem d_Machine_hasMember_91 : decode c_Machine_hasMember 91 = .ok (.iload_n 3, 1) := by decide +kernel
theorem d_Machine_hasMember_92 : decode c_Machine_hasMember 92 = .ok (.iload 6, 2) := by decide +kernel
theorem d_Machine_hasMember_94 : decode c_Machine_hasMember 94 = .ok (.if_icmp .lt 9, 3) := by decide +kernel
theorem d_Machine_hasMember_97 : decode c_Machine_hasMember 97 = .ok (.iload_n 3, 1) := by decide +kernel
theorem d_Machine_hasMember_98 : decode c_Machine_hasMember 98 = .ok (.iload 7, 2) := by decide +kernel
theorem d_Machine_hasMember_100 : decode c_Machine_hasMember 100 = .ok (.if_icmp .le 17, 3) := by decide +kernel
theorem d_Machine_hasMember_103 : decode c_Machine_hasMember 103 = .ok (.iload 4, 2) := by decide +kernel
theorem d_Machine_hasMember_105 : decode c_Machine_hasMember 105 = .ok (.iload 6, 2) := by decide +kernel
theorem d_Machine_hasMember_107 : decode c_Machine_hasMember 107 = .ok (.if_icmp .lt 14, 3) := by decide +kernel
theorem d_Machine_hasMember_110 : decode c_Machine_hasMember 110 = .ok (.iload 4, 2) := by decide +kernel
theorem d_Machine_hasMember_112 : decode c_Machine_hasMember 112 = .ok (.iload 7, 2) := by decide +kernel
theorem d_Machine_hasMember_114 : decode c_Machine_hasMember 114 = .ok (.if_icmp .gt 7, 3) := by decide +kernel
theorem d_Machine_hasMember_117 : decode c_Machine_hasMember 117 = .ok (.iconst 1, 1) := by decide +kernel
theorem d_Machine_hasMember_118 : decode c_Machine_hasMember 118 = .ok (.goto 4, 3) := by decide +kernel
theorem d_Machine_hasMember_121 : decode c_Machine_hasMember 121 = .ok (.iconst 0, 1) := by decide +kernel
theorem d_Machine_hasMember_122 : decode c_Machine_hasMember 122 = .ok (.istore 8, 2) := by decide +kernel
theorem d_Machine_hasMember_124 : decode c_Machine_hasMember 124 = .ok (.iload 8, 2) := by decide +kernel
theorem d_Machine_hasMember_126 : decode c_Machine_hasMember 126 = .ok (.ifCond .eq 5, 3) := by decide +kernel
theorem d_Machine_hasMember_129 : decode c_Machine_hasMember 129 = .ok (.iconst 1, 1) := by decide +kernel
theorem d_Machine_hasMember_130 : decode c_Machine_hasMember 130 = .ok (.ireturn, 1) := by decide +kernel
theorem d_Machine_hasMember_131 : decode c_Machine_hasMember 131 = .ok (.iinc 5 1, 3) := by decide +kernel
theorem d_Machine_hasMember_134 : decode c_Machine_hasMember 134 = .ok (.goto (-111), 3) := by decide +kernel
theorem d_Machine_hasMember_137 : decode c_Machine_hasMember 137 = .ok (.iconst 0, 1) := by decide +kernel
theorem d_Machine_hasMember_138 : decode c_Machine_hasMember 138 = .ok (.ireturn, 1) := by decide +kernel
theorem d_Machine_takesUnit_0 : decode c_Machine_takesUnit 0 = .ok (.aload_n 0, 1) := by decide +kernel
theorem d_Machine_takesUnit_1 : decode c_Machine_takesUnit 1 = .ok (.aload_n 0, 1) := by decide +kernel
theorem d_Machine_takesUnit_2 : decode c_Machine_takesUnit 2 = .ok (.getfield 67, 3) := by decide +kernel
theorem d_Machine_takesUnit_5 : decode c_Machine_takesUnit 5 = .ok (.invokevirtual 150, 3) := by decide +kernel
theorem d_Machine_takesUnit_8 : decode c_Machine_takesUnit 8 = .ok (.istore 4, 2) := by decide +kernel
theorem d_Machine_takesUnit_10 : decode c_Machine_takesUnit 10 = .ok (.iload 4, 2) := by decide +kernel
theorem d_Machine_takesUnit_12 : decode c_Machine_takesUnit 12 = .ok (.ifCond .ge 5, 3) := by decide +kernel
theorem d_Machine_takesUnit_15 : decode c_Machine_takesUnit 15 = .ok (.iconst 0, 1) := by decide +kernel
theorem d_Machine_takesUnit_16 : decode c_Machine_takesUnit 16 = .ok (.ireturn, 1) := by decide +kernel
theorem d_Machine_takesUnit_17 : decode c_Machine_takesUnit 17 = .ok (.aload_n 0, 1) := by decide +kernel
theorem d_Machine_takesUnit_18 : decode c_Machine_takesUnit 18 = .ok (.dup, 1) := by decide +kernel
theorem d_Machine_takesUnit_19 : decode c_Machine_takesUnit 19 = .ok (.getfield 67, 3) := by decide +kernel
theorem d_Machine_takesUnit_22 : decode c_Machine_takesUnit 22 = .ok (.iconst 1, 1) := by decide +kernel
theorem d_Machine_takesUnit_23 : decode c_Machine_takesUnit 23 = .ok (.iadd, 1) := by decide +kernel
theorem d_Machine_takesUnit_24 : decode c_Machine_takesUnit 24 = .ok (.putfield 67, 3) := by decide +kernel
theorem d_Machine_takesUnit_27 : decode c_Machine_takesUnit 27 = .ok (.iload_n 1, 1) := by decide +kernel
theorem d_Machine_takesUnit_28 : decode c_Machine_takesUnit 28 = .ok (.tableswitch 80 1 4 #[32, 40, 54, 61], 32) := by decide +kernel
theorem d_Machine_takesUnit_60 : decode c_Machine_takesUnit 60 = .ok (.aload_n 0, 1) := by decide +kernel
theorem d_Machine_takesUnit_61 : decode c_Machine_takesUnit 61 = .ok (.iload 4, 2) := by decide +kernel
theorem d_Machine_takesUnit_63 : decode c_Machine_takesUnit 63 = .ok (.iload_n 2, 1) := by decide +kernel
theorem d_Machine_takesUnit_64 : decode c_Machine_takesUnit 64 = .ok (.invokevirtual 165, 3) := by decide +kernel
theorem d_Machine_takesUnit_67 : decode c_Machine_takesUnit 67 = .ok (.ireturn, 1) := by decide +kernel
theorem d_Machine_takesUnit_68 : decode c_Machine_takesUnit 68 = .ok (.iload 4, 2) := by decide +kernel
theorem d_Machine_takesUnit_70 : decode c_Machine_takesUnit 70 = .ok (.invokestatic 153, 3) := by decide +kernel
theorem d_Machine_takesUnit_73 : decode c_Machine_takesUnit 73 = .ok (.ifCond .ne 7, 3) := by decide +kernel
theorem d_Machine_takesUnit_76 : decode c_Machine_takesUnit 76 = .ok (.iconst 1, 1) := by decide +kernel
theorem d_Machine_takesUnit_77 : decode c_Machine_takesUnit 77 = .ok (.goto 4, 3) := by decide +kernel
theorem d_Machine_takesUnit_80 : decode c_Machine_takesUnit 80 = .ok (.iconst 0, 1) := by decide +kernel
theorem d_Machine_takesUnit_81 : decode c_Machine_takesUnit 81 = .ok (.ireturn, 1) := by decide +kernel
theorem d_Machine_takesUnit_82 : decode c_Machine_takesUnit 82 = .ok (.iload_n 2, 1) := by decide +kernel
theorem d_Machine_takesUnit_83 : decode c_Machine_takesUnit 83 = .ok (.iload 4, 2) := by decide +kernel
theorem d_Machine_takesUnit_85 : decode c_Machine_takesUnit 85 = .ok (.invokestatic 168, 3) := by decide +kernel
theorem d_Machine_takesUnit_88 : decode c_Machine_takesUnit 88 = .ok (.ireturn, 1) := by decide +kernel
theorem d_Machine_takesUnit_89 : decode c_Machine_takesUnit 89 = .ok (.aload_n 0, 1) := by decide +kernel
theorem d_Machine_takesUnit_90 : decode c_Machine_takesUnit 90 = .ok (.iload_n 2, 1) := by decide +kernel
theorem d_Machine_takesUnit_91 : decode c_Machine_takesUnit 91 = .ok (.aload_n 0, 1) := by decide +kernel
theorem d_Machine_takesUnit_92 : decode c_Machine_takesUnit 92 = .ok (.getfield 39, 3) := by decide +kernel
theorem d_Machine_takesUnit_95 : decode c_Machine_takesUnit 95 = .ok (.getfield 171, 3) := by decide +kernel
theorem d_Machine_takesUnit_98 : decode c_Machine_takesUnit 98 = .ok (.iload_n 3, 1) := by decide +kernel
theorem d_Machine_takesUnit_99 : decode c_Machine_takesUnit 99 = .ok (.invokestatic 43, 3) := by decide +kernel
theorem d_Machine_takesUnit_102 : decode c_Machine_takesUnit 102 = .ok (.iload 4, 2) := by decide +kernel
theorem d_Machine_takesUnit_104 : decode c_Machine_takesUnit 104 = .ok (.invokevirtual 174, 3) := by decide +kernel
theorem d_Machine_takesUnit_107 : decode c_Machine_takesUnit 107 = .ok (.ireturn, 1) := by decide +kernel
theorem d_Machine_takesUnit_108 : decode c_Machine_takesUnit 108 = .ok (.aload_n 0, 1) := by decide +kernel
theorem d_Machine_takesUnit_109 : decode c_Machine_takesUnit 109 = .ok (.iload_n 2, 1) := by decide +kernel
theorem d_Machine_takesUnit_110 : decode c_Machine_takesUnit 110 = .ok (.aload_n 0, 1) := by decide +kernel
theorem d_Machine_takesUnit_111 : decode c_Machine_takesUnit 111 = .ok (.getfield 39, 3) := by decide +kernel
theorem d_Machine_takesUnit_114 : decode c_Machine_takesUnit 114 = .ok (.getfield 171, 3) := by decide +kernel
theorem d_Machine_takesUnit_117 : decode c_Machine_takesUnit 117 = .ok (.iload_n 3, 1) := by decide +kernel
theorem d_Machine_takesUnit_118 : decode c_Machine_takesUnit 118 = .ok (.invokestatic 43, 3) := by decide +kernel
theorem d_Machine_takesUnit_121 : decode c_Machine_takesUnit 121 = .ok (.iload 4, 2) := by decide +kernel
theorem d_Machine_takesUnit_123 : decode c_Machine_takesUnit 123 = .ok (.invokevirtual 174, 3) := by decide +kernel
theorem d_Machine_takesUnit_126 : decode c_Machine_takesUnit 126 = .ok (.ifCond .ne 7, 3) := by decide +kernel
theorem d_Machine_takesUnit_129 : decode c_Machine_takesUnit 129 = .ok (.iconst 1, 1) := by decide +kernel
theorem d_Machine_takesUnit_130 : decode c_Machine_takesUnit 130 = .ok (.goto 4, 3) := by decide +kernel
theorem d_Machine_takesUnit_133 : decode c_Machine_takesUnit 133 = .ok (.iconst 0, 1) := by decide +kernel
theorem d_Machine_takesUnit_134 : decode c_Machine_takesUnit 134 = .ok (.ireturn, 1) := by decide +kernel
theorem d_Machine_takesGroupAgain_0 : decode c_Machine_takesGroupAgain 0 = .ok (.aload_n 0, 1) := by decide +kernel
theorem d_Machine_takesGroupAgain_1 : decode c_Machine_takesGroupAgain 1 = .ok (.getfield 17, 3) := by decide +kernel
theorem d_Machine_takesGroupAgain_4 : decode c_Machine_takesGroupAgain 4 = .ok (.iconst 0, 1) := by decide +kernel
theorem d_Machine_takesGroupAgain_5 : decode c_Machine_takesGroupAgain 5 = .ok (.iload_n 1, 1) := by decide +kernel
theorem d_Machine_takesGroupAgain_6 : decode c_Machine_takesGroupAgain 6 = .ok (.iadd, 1) := by decide +kernel
theorem d_Machine_takesGroupAgain_7 : decode c_Machine_takesGroupAgain 7 = .ok (.invokestatic 43, 3) := by decide +kernel
theorem d_Machine_takesGroupAgain_10 : decode c_Machine_takesGroupAgain 10 = .ok (.istore_n 2, 1) := by decide +kernel
theorem d_Machine_takesGroupAgain_11 : decode c_Machine_takesGroupAgain 11 = .ok (.iload_n 2, 1) := by decide +kernel
theorem d_Machine_takesGroupAgain_12 : decode c_Machine_takesGroupAgain 12 = .ok (.ifCond .ge 5, 3) := by decide +kernel
theorem d_Machine_takesGroupAgain_15 : decode c_Machine_takesGroupAgain 15 = .ok (.iconst 1, 1) := by decide +kernel
theorem d_Machine_takesGroupAgain_16 : decode c_Machine_takesGroupAgain 16 = .ok (.ireturn, 1) := by decide +kernel
theorem d_Machine_takesGroupAgain_17 : decode c_Machine_takesGroupAgain 17 = .ok (.aload_n 0, 1) := by decide +kernel
theorem d_Machine_takesGroupAgain_18 : decode c_Machine_takesGroupAgain 18 = .ok (.getfield 17, 3) := by decide +kernel
theorem d_Machine_takesGroupAgain_21 : decode c_Machine_takesGroupAgain 21 = .ok (.bipush 21, 2) := by decide +kernel
theorem d_Machine_takesGroupAgain_23 : decode c_Machine_takesGroupAgain 23 = .ok (.iload_n 1, 1) := by decide +kernel
theorem d_Machine_takesGroupAgain_24 : decode c_Machine_takesGroupAgain 24 = .ok (.iadd, 1) := by decide +kernel
theorem d_Machine_takesGroupAgain_25 : decode c_Machine_takesGroupAgain 25 = .ok (.invokestatic 43, 3) := by decide +kernel
theorem d_Machine_takesGroupAgain_28 : decode c_Machine_takesGroupAgain 28 = .ok (.iload_n 2, 1) := by decide +kernel
theorem d_Machine_takesGroupAgain_29 : decode c_Machine_takesGroupAgain 29 = .ok (.isub, 1) := by decide +kernel
theorem d_Machine_takesGroupAgain_30 : decode c_Machine_takesGroupAgain 30 = .ok (.istore_n 3, 1) := by decide +kernel
theorem d_Machine_takesGroupAgain_31 : decode c_Machine_takesGroupAgain 31 = .ok (.iload_n 3, 1) := by decide +kernel
theorem d_Machine_takesGroupAgain_32 : decode c_Machine_takesGroupAgain 32 = .ok (.aload_n 0, 1) := by decide +kernel
theorem d_Machine_takesGroupAgain_33 : decode c_Machine_takesGroupAgain 33 = .ok (.getfield 53, 3) := by decide +kernel
theorem d_Machine_takesGroupAgain_36 : decode c_Machine_takesGroupAgain 36 = .ok (.aload_n 0, 1) := by decide +kernel
theorem d_Machine_takesGroupAgain_37 : decode c_Machine_takesGroupAgain 37 = .ok (.getfield 67, 3) := by decide +kernel
theorem d_Machine_takesGroupAgain_40 : decode c_Machine_takesGroupAgain 40 = .ok (.isub, 1) := by decide +kernel
theorem d_Machine_takesGroupAgain_41 : decode c_Machine_takesGroupAgain 41 = .ok (.if_icmp .le 5, 3) := by decide +kernel
theorem d_Machine_takesGroupAgain_44 : decode c_Machine_takesGroupAgain 44 = .ok (.iconst 0, 1) := by decide +kernel
theorem d_Machine_takesGroupAgain_45 : decode c_Machine_takesGroupAgain 45 = .ok (.ireturn, 1) := by decide +kernel
theorem d_Machine_takesGroupAgain_46 : decode c_Machine_takesGroupAgain 46 = .ok (.iconst 0, 1) := by decide +kernel
theorem d_Machine_takesGroupAgain_47 : decode c_Machine_takesGroupAgain 47 = .ok (.istore 4, 2) := by decide +kernel
theorem d_Machine_takesGroupAgain_49 : decode c_Machine_takesGroupAgain 49 = .ok (.iload 4, 2) := by decide +kernel
theorem d_Machine_takesGroupAgain_51 : decode c_Machine_takesGroupAgain 51 = .ok (.iload_n 3, 1) := by decide +kernel
theorem d_Machine_takesGroupAgain_52 : decode c_Machine_takesGroupAgain 52 = .ok (.if_icmp .ge 37, 3) := by decide +kernel
theorem d_Machine_takesGroupAgain_55 : decode c_Machine_takesGroupAgain 55 = .ok (.aload_n 0, 1) := by decide +kernel
theorem d_Machine_takesGroupAgain_56 : decode c_Machine_takesGroupAgain 56 = .ok (.aload_n 0, 1) := by decide +kernel
theorem d_Machine_takesGroupAgain_57 : decode c_Machine_takesGroupAgain 57 = .ok (.iload_n 2, 1) := by decide +kernel
theorem d_Machine_takesGroupAgain_58 : decode c_Machine_takesGroupAgain 58 = .ok (.iload 4, 2) := by decide +kernel
theorem d_Machine_takesGroupAgain_60 : decode c_Machine_takesGroupAgain 60 = .ok (.iadd, 1) := by decide +kernel
theorem d_Machine_takesGroupAgain_61 : decode c_Machine_takesGroupAgain 61 = .ok (.invokevirtual 150, 3) := by decide +kernel
theorem d_Machine_takesGroupAgain_64 : decode c_Machine_takesGroupAgain 64 = .ok (.aload_n 0, 1) := by decide +kernel
theorem d_Machine_takesGroupAgain_65 : decode c_Machine_takesGroupAgain 65 = .ok (.aload_n 0, 1) := by decide +kernel
theorem d_Machine_takesGroupAgain_66 : decode c_Machine_takesGroupAgain 66 = .ok (.getfield 67, 3) := by decide +kernel
theorem d_Machine_takesGroupAgain_69 : decode c_Machine_takesGroupAgain 69 = .ok (.iload 4, 2) := by decide +kernel
theorem d_Machine_takesGroupAgain_71 : decode c_Machine_takesGroupAgain 71 = .ok (.iadd, 1) := by decide +kernel
theorem d_Machine_takesGroupAgain_72 : decode c_Machine_takesGroupAgain 72 = .ok (.invokevirtual 150, 3) := by decide +kernel
theorem d_Machine_takesGroupAgain_75 : decode c_Machine_takesGroupAgain 75 = .ok (.invokevirtual 165, 3) := by decide +kernel
theorem d_Machine_takesGroupAgain_78 : decode c_Machine_takesGroupAgain 78 = .ok (.ifCond .ne 5, 3) := by decide +kernel
theorem d_Machine_takesGroupAgain_81 : decode c_Machine_takesGroupAgain 81 = .ok (.iconst 0, 1) := by decide +kernel
theorem d_Machine_takesGroupAgain_82 : decode c_Machine_takesGroupAgain 82 = .ok (.ireturn, 1) := by decide +kernel
theorem d_Machine_takesGroupAgain_83 : decode c_Machine_takesGroupAgain 83 = .ok (.iinc 4 1, 3) := by decide +kernel
theorem d_Machine_takesGroupAgain_86 : decode c_Machine_takesGroupAgain 86 = .ok (.goto (-37), 3) := by decide +kernel
theorem d_Machine_takesGroupAgain_89 : decode c_Machine_takesGroupAgain 89 = .ok (.aload_n 0, 1) := by decide +kernel
theorem d_Machine_takesGroupAgain_90 : decode c_Machine_takesGroupAgain 90 = .ok (.dup, 1) := by decide +kernel
theorem d_Machine_takesGroupAgain_91 : decode c_Machine_takesGroupAgain 91 = .ok (.getfield 67, 3) := by decide +kernel
theorem d_Machine_takesGroupAgain_94 : decode c_Machine_takesGroupAgain 94 = .ok (.iload_n 3, 1) := by decide +kernel
theorem d_Machine_takesGroupAgain_95 : decode c_Machine_takesGroupAgain 95 = .ok (.iadd, 1) := by decide +kernel
theorem d_Machine_takesGroupAgain_96 : decode c_Machine_takesGroupAgain 96 = .ok (.putfield 67, 3) := by decide +kernel
theorem d_Machine_takesGroupAgain_99 : decode c_Machine_takesGroupAgain 99 = .ok (.iconst 1, 1) := by decide +kernel
theorem d_Machine_takesGroupAgain_100 : decode c_Machine_takesGroupAgain 100 = .ok (.ireturn, 1) := by decide +kernel
theorem d_Machine_passes_0 : decode c_Machine_passes 0 = .ok (.iload_n 1, 1) := by decide +kernel
theorem d_Machine_passes_1 : decode c_Machine_passes 1 = .ok (.tableswitch 177 7 10 #[31, 70, 111, 144], 31) := by decide +kernel
theorem d_Machine_passes_32 : decode c_Machine_passes 32 = .ok (.aload_n 0, 1) := by decide +kernel
theorem d_Machine_passes_33 : decode c_Machine_passes 33 = .ok (.getfield 67, 3) := by decide +kernel
theorem d_Machine_passes_36 : decode c_Machine_passes 36 = .ok (.ifCond .eq 29, 3) := by decide +kernel
theorem d_Machine_passes_39 : decode c_Machine_passes 39 = .ok (.aload_n 0, 1) := by decide +kernel
theorem d_Machine_passes_40 : decode c_Machine_passes 40 = .ok (.getfield 39, 3) := by decide +kernel
theorem d_Machine_passes_43 : decode c_Machine_passes 43 = .ok (.getfield 146, 3) := by decide +kernel
theorem d_Machine_passes_46 : decode c_Machine_passes 46 = .ok (.ifCond .eq 23, 3) := by decide +kernel
theorem d_Machine_passes_49 : decode c_Machine_passes 49 = .ok (.aload_n 0, 1) := by decide +kernel
theorem d_Machine_passes_50 : decode c_Machine_passes 50 = .ok (.aload_n 0, 1) := by decide +kernel
theorem d_Machine_passes_51 : decode c_Machine_passes 51 = .ok (.getfield 67, 3) := by decide +kernel
theorem d_Machine_passes_54 : decode c_Machine_passes 54 = .ok (.iconst 1, 1) := by decide +kernel
theorem d_Machine_passes_55 : decode c_Machine_passes 55 = .ok (.isub, 1) := by decide +kernel
theorem d_Machine_passes_56 : decode c_Machine_passes 56 = .ok (.invokevirtual 150, 3) := by decide +kernel
theorem d_Machine_passes_59 : decode c_Machine_passes 59 = .ok (.invokestatic 153, 3) := by decide +kernel
theorem d_Machine_passes_62 : decode c_Machine_passes 62 = .ok (.ifCond .eq 7, 3) := by decide +kernel
theorem d_Machine_passes_65 : decode c_Machine_passes 65 = .ok (.iconst 1, 1) := by decide +kernel
theorem d_Machine_passes_66 : decode c_Machine_passes 66 = .ok (.goto 4, 3) := by decide +kernel
theorem d_Machine_passes_69 : decode c_Machine_passes 69 = .ok (.iconst 0, 1) := by decide +kernel
theorem d_Machine_passes_70 : decode c_Machine_passes 70 = .ok (.ireturn, 1) := by decide +kernel
theorem d_Machine_passes_71 : decode c_Machine_passes 71 = .ok (.aload_n 0, 1) := by decide +kernel
theorem d_Machine_passes_72 : decode c_Machine_passes 72 = .ok (.getfield 67, 3) := by decide +kernel
theorem d_Machine_passes_75 : decode c_Machine_passes 75 = .ok (.aload_n 0, 1) := by decide +kernel
theorem d_Machine_passes_76 : decode c_Machine_passes 76 = .ok (.getfield 53, 3) := by decide +kernel
theorem d_Machine_passes_79 : decode c_Machine_passes 79 = .ok (.if_icmp .eq 27, 3) := by decide +kernel
theorem d_Machine_passes_82 : decode c_Machine_passes 82 = .ok (.aload_n 0, 1) := by decide +kernel
theorem d_Machine_passes_83 : decode c_Machine_passes 83 = .ok (.getfield 39, 3) := by decide +kernel
theorem d_Machine_passes_86 : decode c_Machine_passes 86 = .ok (.getfield 146, 3) := by decide +kernel
theorem d_Machine_passes_89 : decode c_Machine_passes 89 = .ok (.ifCond .eq 21, 3) := by decide +kernel
theorem d_Machine_passes_92 : decode c_Machine_passes 92 = .ok (.aload_n 0, 1) := by decide +kernel
theorem d_Machine_passes_93 : decode c_Machine_passes 93 = .ok (.aload_n 0, 1) := by decide +kernel
theorem d_Machine_passes_94 : decode c_Machine_passes 94 = .ok (.getfield 67, 3) := by decide +kernel
theorem d_Machine_passes_97 : decode c_Machine_passes 97 = .ok (.invokevirtual 150, 3) := by decide +kernel
theorem d_Machine_passes_100 : decode c_Machine_passes 100 = .ok (.invokestatic 153, 3) := by decide +kernel
theorem d_Machine_passes_103 : decode c_Machine_passes 103 = .ok (.ifCond .eq 7, 3) := by decide +kernel
theorem d_Machine_passes_106 : decode c_Machine_passes 106 = .ok (.iconst 1, 1) := by decide +kernel
theorem d_Machine_passes_107 : decode c_Machine_passes 107 = .ok (.goto 4, 3) := by decide +kernel
theorem d_Machine_passes_110 : decode c_Machine_passes 110 = .ok (.iconst 0, 1) := by decide +kernel
theorem d_Machine_passes_111 : decode c_Machine_passes 111 = .ok (.ireturn, 1) := by decide +kernel
theorem d_Machine_passes_112 : decode c_Machine_passes 112 = .ok (.aload_n 0, 1) := by decide +kernel
theorem d_Machine_passes_113 : decode c_Machine_passes 113 = .ok (.aload_n 0, 1) := by decide +kernel
theorem d_Machine_passes_114 : decode c_Machine_passes 114 = .ok (.getfield 67, 3) := by decide +kernel
theorem d_Machine_passes_117 : decode c_Machine_passes 117 = .ok (.iconst 1, 1) := by decide +kernel
theorem d_Machine_passes_118 : decode c_Machine_passes 118 = .ok (.isub, 1) := by decide +kernel
theorem d_Machine_passes_119 : decode c_Machine_passes 119 = .ok (.invokevirtual 150, 3) := by decide +kernel
theorem d_Machine_passes_122 : decode c_Machine_passes 122 = .ok (.invokestatic 159, 3) := by decide +kernel
theorem d_Machine_passes_125 : decode c_Machine_passes 125 = .ok (.aload_n 0, 1) := by decide +kernel
theorem d_Machine_passes_126 : decode c_Machine_passes 126 = .ok (.aload_n 0, 1) := by decide +kernel
theorem d_Machine_passes_127 : decode c_Machine_passes 127 = .ok (.getfield 67, 3) := by decide +kernel
theorem d_Machine_passes_130 : decode c_Machine_passes 130 = .ok (.invokevirtual 150, 3) := by decide +kernel
theorem d_Machine_passes_133 : decode c_Machine_passes 133 = .ok (.invokestatic 159, 3) := by decide +kernel
theorem d_Machine_passes_136 : decode c_Machine_passes 136 = .ok (.if_icmp .eq 7, 3) := by decide +kernel
theorem d_Machine_passes_139 : decode c_Machine_passes 139 = .ok (.iconst 1, 1) := by decide +kernel
theorem d_Machine_passes_140 : decode c_Machine_passes 140 = .ok (.goto 4, 3) := by decide +kernel
theorem d_Machine_passes_143 : decode c_Machine_passes 143 = .ok (.iconst 0, 1) := by decide +kernel
theorem d_Machine_passes_144 : decode c_Machine_passes 144 = .ok (.ireturn, 1) := by decide +kernel
theorem d_Machine_passes_145 : decode c_Machine_passes 145 = .ok (.aload_n 0, 1) := by decide +kernel
theorem d_Machine_passes_146 : decode c_Machine_passes 146 = .ok (.aload_n 0, 1) := by decide +kernel
theorem d_Machine_passes_147 : decode c_Machine_passes 147 = .ok (.getfield 67, 3) := by decide +kernel
theorem d_Machine_passes_150 : decode c_Machine_passes 150 = .ok (.iconst 1, 1) := by decide +kernel
theorem d_Machine_passes_151 : decode c_Machine_passes 151 = .ok (.isub, 1) := by decide +kernel
theorem d_Machine_passes_152 : decode c_Machine_passes 152 = .ok (.invokevirtual 150, 3) := by decide +kernel
theorem d_Machine_passes_155 : decode c_Machine_passes 155 = .ok (.invokestatic 159, 3) := by decide +kernel
theorem d_Machine_passes_158 : decode c_Machine_passes 158 = .ok (.aload_n 0, 1) := by decide +kernel
theorem d_Machine_passes_159 : decode c_Machine_passes 159 = .ok (.aload_n 0, 1) := by decide +kernel
theorem d_Machine_passes_160 : decode c_Machine_passes 160 = .ok (.getfield 67, 3) := by decide +kernel
theorem d_Machine_passes_163 : decode c_Machine_passes 163 = .ok (.invokevirtual 150, 3) := by decide +kernel
theorem d_Machine_passes_166 : decode c_Machine_passes 166 = .ok (.invokestatic 159, 3) := by decide +kernel
theorem d_Machine_passes_169 : decode c_Machine_passes 169 = .ok (.if_icmp .ne 7, 3) := by decide +kernel
theorem d_Machine_passes_172 : decode c_Machine_passes 172 = .ok (.iconst 1, 1) := by decide +kernel
theorem d_Machine_passes_173 : decode c_Machine_passes 173 = .ok (.goto 4, 3) := by decide +kernel
theorem d_Machine_passes_176 : decode c_Machine_passes 176 = .ok (.iconst 0, 1) := by decide +kernel
theorem d_Machine_passes_177 : decode c_Machine_passes 177 = .ok (.ireturn, 1) := by decide +kernel
theorem d_Machine_passes_178 : decode c_Machine_passes 178 = .ok (.aload_n 0, 1) := by decide +kernel
theorem d_Machine_passes_179 : decode c_Machine_passes 179 = .ok (.iload_n 2, 1) := by decide +kernel
theorem d_Machine_passes_180 : decode c_Machine_passes 180 = .ok (.invokevirtual 162, 3) := by decide +kernel
theorem d_Machine_passes_183 : decode c_Machine_passes 183 = .ok (.ireturn, 1) := by decide +kernel
def Reader_readPattern_b140 (N : Nat) (σ : g_S) : Option (Int32 × g_S) := (Program_link N (σ.1 16) 0 σ).bind fun q149 => some ((q149.2.1 13), q149.2)
theorem Reader_readPattern_p140 (ao aa : Nat → Nat) {X : g_X} (hC : gC X c_Reader_readPattern R_Reader 6 132 3 (some .int)) (N : Nat) (σ : g_S) (r : Int32) (σe : g_S) (hf : Reader_readPattern_b140 N σ = some (r, σe)) : gw X (.inl (some (.int r))) (LC ao aa X.2.2.1 σe) (LC ao aa X.2.2.1 σ) [(0, .ref (ao 2))] 140 [] := by
  unfold Reader_readPattern_b140 at hf
  refine gw_aload_n hC 0 d_Reader_readPattern_140 rfl rfl ?_
  refine Cr_Reader_program hC kf_Reader_24 d_Reader_readPattern_141 ?_
  refine gw_aload_n hC 0 d_Reader_readPattern_144 rfl rfl ?_
  refine Cg16 hC kf_Reader_69 d_Reader_readPattern_145 (σ.1 16) rfl ?_
  refine gw_iconst hC 0 d_Reader_readPattern_148 (by decide) ?_
  obtain ⟨q149, hq149, hf⟩ := g_bind hf
  refine gw_callV hC [.int (σ.1 16), .int 0] [] (Program_link_m _ _ _ ao aa N _ _ _ _ _ hq149) kc_Reader_72 1 (g_lay_obj rfl) rfl rfl ⟨by decide, by decide⟩ (Nat.le_of_ble_eq_true rfl) [.int 0, .int (σ.1 16), .ref (ao 1)] [] rfl rfl d_Reader_readPattern_149 ?_
  refine gw_aload_n hC 0 d_Reader_readPattern_152 rfl rfl ?_
  refine Cg13 hC kf_Reader_38 d_Reader_readPattern_153 (q149.2.1 13) rfl ?_
  cases hf
  exact gw_iret hC d_Reader_readPattern_156
def Reader_readPattern_b132 (N : Nat) (σ : g_S) : Option (Int32 × g_S) := (Reader_tooGreatReference N σ).bind fun q134 => Reader_readPattern_b140 N (gF q134.2 13 q134.1)
theorem Reader_readPattern_p132 (ao aa : Nat → Nat) {X : g_X} (hC : gC X c_Reader_readPattern R_Reader 6 132 3 (some .int)) (N : Nat) (σ : g_S) (r : Int32) (σe : g_S) (hf : Reader_readPattern_b132 N σ = some (r, σe)) : gw X (.inl (some (.int r))) (LC ao aa X.2.2.1 σe) (LC ao aa X.2.2.1 σ) [(0, .ref (ao 2))] 132 [] := by
  unfold Reader_readPattern_b132 at hf
  refine gw_aload_n hC 0 d_Reader_readPattern_132 rfl rfl ?_
  refine gw_aload_n hC 0 d_Reader_readPattern_133 rfl rfl ?_
  obtain ⟨q134, hq134, hf⟩ := g_bind hf
  refine gw_callV hC [] [.ref (ao 2)] (Reader_tooGreatReference_m _ _ _ ao aa N _ _ _ hq134) kc_Reader_65 2 (g_lay_obj rfl) rfl rfl ⟨by decide, by decide⟩ (Nat.le_of_ble_eq_true rfl) [.ref (ao 2), .ref (ao 2)] [.int q134.1, .ref (ao 2)] rfl rfl d_Reader_readPattern_134 ?_
  refine Cp13 hC kf_Reader_38 d_Reader_readPattern_137 ?_
  exact Reader_readPattern_p140 ao aa hC N _ _ _ hf
def Reader_readPattern_b125 (N : Nat) (σ : g_S) : Option (Int32 × g_S) := if 0 ≤ (σ.1 13) then Reader_readPattern_b140 N σ else Reader_readPattern_b132 N σ
theorem Reader_readPattern_p125 (ao aa : Nat → Nat) {X : g_X} (hC : gC X c_Reader_readPattern R_Reader 6 132 3 (some .int)) (N : Nat) (σ : g_S) (r : Int32) (σe : g_S) (hf : Reader_readPattern_b125 N σ = some (r, σe)) : gw X (.inl (some (.int r))) (LC ao aa X.2.2.1 σe) (LC ao aa X.2.2.1 σ) [(0, .ref (ao 2))] 125 [] := by
  unfold Reader_readPattern_b125 at hf
  refine gw_aload_n hC 0 d_Reader_readPattern_125 rfl rfl ?_
  refine Cg13 hC kf_Reader_38 d_Reader_readPattern_126 (σ.1 13) rfl ?_
  refine gw_if_ge hC 140 d_Reader_readPattern_129 (by decide) (fun hh => ?_) (fun hh => ?_)
  · rw [if_pos hh] at hf
    exact Reader_readPattern_p140 ao aa hC N _ _ _ hf
  · rw [if_neg hh] at hf
    exact Reader_readPattern_p132 ao aa hC N _ _ _ hf
def Reader_readPattern_b117 (N : Nat) (σ : g_S) : Option (Int32 × g_S) := Reader_readPattern_b125 N (gF σ 13 (σ.1 11))
theorem Reader_readPattern_p117 (ao aa : Nat → Nat) {X : g_X} (hC : gC X c_Reader_readPattern R_Reader 6 132 3 (some .int)) (N : Nat) (σ : g_S) (r : Int32) (σe : g_S) (hf : Reader_readPattern_b117 N σ = some (r, σe)) : gw X (.inl (some (.int r))) (LC ao aa X.2.2.1 σe) (LC ao aa X.2.2.1 σ) [(0, .ref (ao 2))] 117 [] := by
  unfold Reader_readPattern_b117 at hf
  refine gw_aload_n hC 0 d_Reader_readPattern_117 rfl rfl ?_
  refine gw_aload_n hC 0 d_Reader_readPattern_118 rfl rfl ?_
  refine Cg11 hC kf_Reader_31 d_Reader_readPattern_119 (σ.1 11) rfl ?_
  refine Cp13 hC kf_Reader_38 d_Reader_readPattern_122 ?_
  exact Reader_readPattern_p125 ao aa hC N _ _ _ hf
def Reader_readPattern_b110 (N : Nat) (σ : g_S) : Option (Int32 × g_S) := if (σ.1 14) ≤ 0 then Reader_readPattern_b125 N σ else Reader_readPattern_b117 N σ
theorem Reader_readPattern_p110 (ao aa : Nat → Nat) {X : g_X} (hC : gC X c_Reader_readPattern R_Reader 6 132 3 (some .int)) (N : Nat) (σ : g_S) (r : Int32) (σe : g_S) (hf : Reader_readPattern_b110 N σ = some (r, σe)) : gw X (.inl (some (.int r))) (LC ao aa X.2.2.1 σe) (LC ao aa X.2.2.1 σ) [(0, .ref (ao 2))] 110 [] := by
  unfold Reader_readPattern_b110 at hf
  refine gw_aload_n hC 0 d_Reader_readPattern_110 rfl rfl ?_
  refine Cg14 hC kf_Reader_41 d_Reader_readPattern_111 (σ.1 14) rfl ?_
  refine gw_if_le hC 125 d_Reader_readPattern_114 (by decide) (fun hh => ?_) (fun hh => ?_)
  · rw [if_pos hh] at hf
    exact Reader_readPattern_p125 ao aa hC N _ _ _ hf
  · rw [if_neg hh] at hf
    exact Reader_readPattern_p117 ao aa hC N _ _ _ hf
def Reader_readPattern_b103 (N : Nat) (σ : g_S) : Option (Int32 × g_S) := if 0 ≤ (σ.1 13) then Reader_readPattern_b125 N σ else Reader_readPattern_b110 N σ
theorem Reader_readPattern_p103 (ao aa : Nat → Nat) {X : g_X} (hC : gC X c_Reader_readPattern R_Reader 6 132 3 (some .int)) (N : Nat) (σ : g_S) (r : Int32) (σe : g_S) (hf : Reader_readPattern_b103 N σ = some (r, σe)) : gw X (.inl (some (.int r))) (LC ao aa X.2.2.1 σe) (LC ao aa X.2.2.1 σ) [(0, .ref (ao 2))] 103 [] := by
  unfold Reader_readPattern_b103 at hf
  refine gw_aload_n hC 0 d_Reader_readPattern_103 rfl rfl ?_
  refine Cg13 hC kf_Reader_38 d_Reader_readPattern_104 (σ.1 13) rfl ?_
  refine gw_if_ge hC 125 d_Reader_readPattern_107 (by decide) (fun hh => ?_) (fun hh => ?_)
  · rw [if_pos hh] at hf
    exact Reader_readPattern_p125 ao aa hC N _ _ _ hf
  · rw [if_neg hh] at hf
    exact Reader_readPattern_p110 ao aa hC N _ _ _ hf
def Reader_readPattern_b97 (N : Nat) (k49 : Int32 → g_S → Option (Int32 × g_S)) (x2 : Int32) (σ : g_S) : Option (Int32 × g_S) := k49 (x2 + 1) σ
theorem Reader_readPattern_p97 (ao aa : Nat → Nat) {X : g_X} (hC : gC X c_Reader_readPattern R_Reader 6 132 3 (some .int)) (N : Nat) (k49 : Int32 → g_S → Option (Int32 × g_S)) (hk49 : ∀ (x2 : Int32) (σ : g_S) (r : Int32) (σe : g_S), k49 x2 σ = some (r, σe) → gw X (.inl (some (.int r))) (LC ao aa X.2.2.1 σe) (LC ao aa X.2.2.1 σ) [(0, .ref (ao 2)), (2, .int x2)] 49 []) (x2 : Int32) (σ : g_S) (r : Int32) (σe : g_S) (hf : Reader_readPattern_b97 N k49 x2 σ = some (r, σe)) : gw X (.inl (some (.int r))) (LC ao aa X.2.2.1 σe) (LC ao aa X.2.2.1 σ) [(0, .ref (ao 2)), (2, .int x2)] 97 [] := by
  unfold Reader_readPattern_b97 at hf
  refine gw_iinc hC (x2 + 1) 1 [(2, .int (x2 + 1)), (0, .ref (ao 2))] d_Reader_readPattern_97 rfl rfl (by decide) rfl ?_
  refine gw_goto hC 49 d_Reader_readPattern_100 (by decide) ?_
  refine gw_lv [1, 0] rfl ?_
  exact hk49 _ _ _ _ hf
def Reader_readPattern_b93 (N : Nat) (k49 : Int32 → g_S → Option (Int32 × g_S)) (x2 : Int32) (σ : g_S) : Option (Int32 × g_S) := (Reader_appendAtom N σ).bind fun q94 => Reader_readPattern_b97 N k49 x2 q94.2
theorem Reader_readPattern_p93 (ao aa : Nat → Nat) {X : g_X} (hC : gC X c_Reader_readPattern R_Reader 6 132 3 (some .int)) (N : Nat) (k49 : Int32 → g_S → Option (Int32 × g_S)) (hk49 : ∀ (x2 : Int32) (σ : g_S) (r : Int32) (σe : g_S), k49 x2 σ = some (r, σe) → gw X (.inl (some (.int r))) (LC ao aa X.2.2.1 σe) (LC ao aa X.2.2.1 σ) [(0, .ref (ao 2)), (2, .int x2)] 49 []) (x2 : Int32) (σ : g_S) (r : Int32) (σe : g_S) (hf : Reader_readPattern_b93 N k49 x2 σ = some (r, σe)) : gw X (.inl (some (.int r))) (LC ao aa X.2.2.1 σe) (LC ao aa X.2.2.1 σ) [(0, .ref (ao 2)), (2, .int x2)] 93 [] := by
  unfold Reader_readPattern_b93 at hf
  refine gw_aload_n hC 0 d_Reader_readPattern_93 rfl rfl ?_
  obtain ⟨q94, hq94, hf⟩ := g_bind hf
  refine gw_callV hC [] [] (Reader_appendAtom_m _ _ _ ao aa N _ _ _ hq94) kc_Reader_62 2 (g_lay_obj rfl) rfl rfl ⟨by decide, by decide⟩ (Nat.le_of_ble_eq_true rfl) [.ref (ao 2)] [] rfl rfl d_Reader_readPattern_94 ?_
  exact Reader_readPattern_p97 ao aa hC N _ hk49 _ _ _ _ hf
def Reader_readPattern_b85 (N : Nat) (k49 : Int32 → g_S → Option (Int32 × g_S)) (x2 : Int32) (σ : g_S) : Option (Int32 × g_S) := if (σ.1 19) = (-1) then Reader_readPattern_b97 N k49 x2 σ else Reader_readPattern_b93 N k49 x2 σ
theorem Reader_readPattern_p85 (ao aa : Nat → Nat) {X : g_X} (hC : gC X c_Reader_readPattern R_Reader 6 132 3 (some .int)) (N : Nat) (k49 : Int32 → g_S → Option (Int32 × g_S)) (hk49 : ∀ (x2 : Int32) (σ : g_S) (r : Int32) (σe : g_S), k49 x2 σ = some (r, σe) → gw X (.inl (some (.int r))) (LC ao aa X.2.2.1 σe) (LC ao aa X.2.2.1 σ) [(0, .ref (ao 2)), (2, .int x2)] 49 []) (x2 : Int32) (σ : g_S) (r : Int32) (σe : g_S) (hf : Reader_readPattern_b85 N k49 x2 σ = some (r, σe)) : gw X (.inl (some (.int r))) (LC ao aa X.2.2.1 σe) (LC ao aa X.2.2.1 σ) [(0, .ref (ao 2)), (2, .int x2)] 85 [] := by
  unfold Reader_readPattern_b85 at hf
  refine gw_aload_n hC 0 d_Reader_readPattern_85 rfl rfl ?_
  refine Cg19 hC kf_Reader_46 d_Reader_readPattern_86 (σ.1 19) rfl ?_
  refine gw_iconst hC (-1) d_Reader_readPattern_89 (by decide) ?_
  refine gw_icmp_eq hC 97 d_Reader_readPattern_90 (by decide) (fun hh => ?_) (fun hh => ?_)
  · rw [if_pos hh] at hf
    exact Reader_readPattern_p97 ao aa hC N _ hk49 _ _ _ _ hf
  · rw [if_neg hh] at hf
    exact Reader_readPattern_p93 ao aa hC N _ hk49 _ _ _ _ hf
def Reader_readPattern_b74 (N : Nat) (k49 : Int32 → g_S → Option (Int32 × g_S)) (x2 : Int32) (σ : g_S) : Option (Int32 × g_S) := (Reader_readTerm N σ).bind fun q75 => if 0 ≤ (q75.2.1 13) then Reader_readPattern_b97 N k49 x2 q75.2 else Reader_readPattern_b85 N k49 x2 q75.2
theorem Reader_readPattern_p74 (ao aa : Nat → Nat) {X : g_X} (hC : gC X c_Reader_readPattern R_Reader 6 132 3 (some .int)) (N : Nat) (k49 : Int32 → g_S → Option (Int32 × g_S)) (hk49 : ∀ (x2 : Int32) (σ : g_S) (r : Int32) (σe : g_S), k49 x2 σ = some (r, σe) → gw X (.inl (some (.int r))) (LC ao aa X.2.2.1 σe) (LC ao aa X.2.2.1 σ) [(0, .ref (ao 2)), (2, .int x2)] 49 []) (x2 : Int32) (σ : g_S) (r : Int32) (σe : g_S) (hf : Reader_readPattern_b74 N k49 x2 σ = some (r, σe)) : gw X (.inl (some (.int r))) (LC ao aa X.2.2.1 σe) (LC ao aa X.2.2.1 σ) [(0, .ref (ao 2)), (2, .int x2)] 74 [] := by
  unfold Reader_readPattern_b74 at hf
  refine gw_aload_n hC 0 d_Reader_readPattern_74 rfl rfl ?_
  obtain ⟨q75, hq75, hf⟩ := g_bind hf
  refine gw_callV hC [] [] (Reader_readTerm_m _ _ _ ao aa N _ _ _ hq75) kc_Reader_59 2 (g_lay_obj rfl) rfl rfl ⟨by decide, by decide⟩ (Nat.le_of_ble_eq_true rfl) [.ref (ao 2)] [] rfl rfl d_Reader_readPattern_75 ?_
  refine gw_aload_n hC 0 d_Reader_readPattern_78 rfl rfl ?_
  refine Cg13 hC kf_Reader_38 d_Reader_readPattern_79 (q75.2.1 13) rfl ?_
  refine gw_if_ge hC 97 d_Reader_readPattern_82 (by decide) (fun hh => ?_) (fun hh => ?_)
  · rw [if_pos hh] at hf
    exact Reader_readPattern_p97 ao aa hC N _ hk49 _ _ _ _ hf
  · rw [if_neg hh] at hf
    exact Reader_readPattern_p85 ao aa hC N _ hk49 _ _ _ _ hf
def Reader_readPattern_b67 (N : Nat) (k49 : Int32 → g_S → Option (Int32 × g_S)) (x2 : Int32) (σ : g_S) : Option (Int32 × g_S) := if 0 ≤ (σ.1 13) then Reader_readPattern_b103 N σ else Reader_readPattern_b74 N k49 x2 σ
theorem Reader_readPattern_p67 (ao aa : Nat → Nat) {X : g_X} (hC : gC X c_Reader_readPattern R_Reader 6 132 3 (some .int)) (N : Nat) (k49 : Int32 → g_S → Option (Int32 × g_S)) (hk49 : ∀ (x2 : Int32) (σ : g_S) (r : Int32) (σe : g_S), k49 x2 σ = some (r, σe) → gw X (.inl (some (.int r))) (LC ao aa X.2.2.1 σe) (LC ao aa X.2.2.1 σ) [(0, .ref (ao 2)), (2, .int x2)] 49 []) (x2 : Int32) (σ : g_S) (r : Int32) (σe : g_S) (hf : Reader_readPattern_b67 N k49 x2 σ = some (r, σe)) : gw X (.inl (some (.int r))) (LC ao aa X.2.2.1 σe) (LC ao aa X.2.2.1 σ) [(0, .ref (ao 2)), (2, .int x2)] 67 [] := by
  unfold Reader_readPattern_b67 at hf
  refine gw_aload_n hC 0 d_Reader_readPattern_67 rfl rfl ?_
  refine Cg13 hC kf_Reader_38 d_Reader_readPattern_68 (σ.1 13) rfl ?_
  refine gw_if_ge hC 103 d_Reader_readPattern_71 (by decide) (fun hh => ?_) (fun hh => ?_)
  · rw [if_pos hh] at hf
    refine gw_lv [0] rfl ?_
    exact Reader_readPattern_p103 ao aa hC N _ _ _ hf
  · rw [if_neg hh] at hf
    exact Reader_readPattern_p74 ao aa hC N _ hk49 _ _ _ _ hf
def Reader_readPattern_b56 (N : Nat) (k49 : Int32 → g_S → Option (Int32 × g_S)) (x2 : Int32) (σ : g_S) : Option (Int32 × g_S) := if (σ.1 11) ≤ (σ.1 12) then Reader_readPattern_b103 N σ else Reader_readPattern_b67 N k49 x2 σ
theorem Reader_readPattern_p56 (ao aa : Nat → Nat) {X : g_X} (hC : gC X c_Reader_readPattern R_Reader 6 132 3 (some .int)) (N : Nat) (k49 : Int32 → g_S → Option (Int32 × g_S)) (hk49 : ∀ (x2 : Int32) (σ : g_S) (r : Int32) (σe : g_S), k49 x2 σ = some (r, σe) → gw X (.inl (some (.int r))) (LC ao aa X.2.2.1 σe) (LC ao aa X.2.2.1 σ) [(0, .ref (ao 2)), (2, .int x2)] 49 []) (x2 : Int32) (σ : g_S) (r : Int32) (σe : g_S) (hf : Reader_readPattern_b56 N k49 x2 σ = some (r, σe)) : gw X (.inl (some (.int r))) (LC ao aa X.2.2.1 σe) (LC ao aa X.2.2.1 σ) [(0, .ref (ao 2)), (2, .int x2)] 56 [] := by
  unfold Reader_readPattern_b56 at hf
  refine gw_aload_n hC 0 d_Reader_readPattern_56 rfl rfl ?_
  refine Cg12 hC kf_Reader_35 d_Reader_readPattern_57 (σ.1 12) rfl ?_
  refine gw_aload_n hC 0 d_Reader_readPattern_60 rfl rfl ?_
  refine Cg11 hC kf_Reader_31 d_Reader_readPattern_61 (σ.1 11) rfl ?_
  refine gw_icmp_ge hC 103 d_Reader_readPattern_64 (by decide) (fun hh => ?_) (fun hh => ?_)
  · rw [if_pos hh] at hf
    refine gw_lv [0] rfl ?_
    exact Reader_readPattern_p103 ao aa hC N _ _ _ hf
  · rw [if_neg hh] at hf
    exact Reader_readPattern_p67 ao aa hC N _ hk49 _ _ _ _ hf
def Reader_readPattern_b49 (N : Nat) (k49 : Int32 → g_S → Option (Int32 × g_S)) (x2 : Int32) (σ : g_S) : Option (Int32 × g_S) := if 200 ≤ x2 then Reader_readPattern_b103 N σ else Reader_readPattern_b56 N k49 x2 σ
theorem Reader_readPattern_p49 (ao aa : Nat → Nat) {X : g_X} (hC : gC X c_Reader_readPattern R_Reader 6 132 3 (some .int)) (N : Nat) (k49 : Int32 → g_S → Option (Int32 × g_S)) (hk49 : ∀ (x2 : Int32) (σ : g_S) (r : Int32) (σe : g_S), k49 x2 σ = some (r, σe) → gw X (.inl (some (.int r))) (LC ao aa X.2.2.1 σe) (LC ao aa X.2.2.1 σ) [(0, .ref (ao 2)), (2, .int x2)] 49 []) (x2 : Int32) (σ : g_S) (r : Int32) (σe : g_S) (hf : Reader_readPattern_b49 N k49 x2 σ = some (r, σe)) : gw X (.inl (some (.int r))) (LC ao aa X.2.2.1 σe) (LC ao aa X.2.2.1 σ) [(0, .ref (ao 2)), (2, .int x2)] 49 [] := by
  unfold Reader_readPattern_b49 at hf
  refine gw_iload_n hC 1 d_Reader_readPattern_49 rfl rfl ?_
  refine gw_sipush hC 200 d_Reader_readPattern_50 (by decide) ?_
  refine gw_icmp_ge hC 103 d_Reader_readPattern_53 (by decide) (fun hh => ?_) (fun hh => ?_)
  · rw [if_pos hh] at hf
    refine gw_lv [0] rfl ?_
    exact Reader_readPattern_p103 ao aa hC N _ _ _ hf
  · rw [if_neg hh] at hf
    exact Reader_readPattern_p56 ao aa hC N _ hk49 _ _ _ _ hf
def Reader_readPattern_l49 (N : Nat) : Nat → Int32 → g_S → Option (Int32 × g_S)
  | 0 => fun _ _ => none
  | n + 1 => fun x2 σ => Reader_readPattern_b49 N (Reader_readPattern_l49 N n) x2 σ
theorem Reader_readPattern_q49 (ao aa : Nat → Nat) {X : g_X} (hC : gC X c_Reader_readPattern R_Reader 6 132 3 (some .int)) (N : Nat) (n : Nat) : ∀ (x2 : Int32) (σ : g_S) (r : Int32) (σe : g_S), Reader_readPattern_l49 N n x2 σ = some (r, σe) → gw X (.inl (some (.int r))) (LC ao aa X.2.2.1 σe) (LC ao aa X.2.2.1 σ) [(0, .ref (ao 2)), (2, .int x2)] 49 [] := by
  induction n with
  | zero => intro x2 σ r σe hf; cases hf
  | succ n ih => intro x2 σ r σe hf; exact Reader_readPattern_p49 ao aa hC N _ (fun x2 σ r2 σ2 h2 => ih x2 σ r2 σ2 h2) x2 σ r σe hf
def Reader_readPattern_b0 (N : Nat) (x1 : Int32) (σ : g_S) : Option (Int32 × g_S) := (Program_clear N (gF (gF (gF (gF (gF σ 11 x1) 12 0) 13 (-1)) 14 0) 19 (-1))).bind fun q29 => (Program_addNode N 0 0 0 q29.2).bind fun q39 => (Reader_beginAlternative N q39.2).bind fun q44 => Reader_readPattern_l49 N N 0 q44.2
theorem Reader_readPattern_p0 (ao aa : Nat → Nat) {X : g_X} (hC : gC X c_Reader_readPattern R_Reader 6 132 3 (some .int)) (N : Nat) (x1 : Int32) (σ : g_S) (r : Int32) (σe : g_S) (hf : Reader_readPattern_b0 N x1 σ = some (r, σe)) : gw X (.inl (some (.int r))) (LC ao aa X.2.2.1 σe) (LC ao aa X.2.2.1 σ) [(0, .ref (ao 2)), (1, .int x1)] 0 [] := by
  unfold Reader_readPattern_b0 at hf
  refine gw_aload_n hC 0 d_Reader_readPattern_0 rfl rfl ?_
  refine gw_iload_n hC 1 d_Reader_readPattern_1 rfl rfl ?_
  refine Cp11 hC kf_Reader_31 d_Reader_readPattern_2 ?_
  refine gw_aload_n hC 0 d_Reader_readPattern_5 rfl rfl ?_
  refine gw_iconst hC 0 d_Reader_readPattern_6 (by decide) ?_
  refine Cp12 hC kf_Reader_35 d_Reader_readPattern_7 ?_
  refine gw_aload_n hC 0 d_Reader_readPattern_10 rfl rfl ?_
  refine gw_iconst hC (-1) d_Reader_readPattern_11 (by decide) ?_
  refine Cp13 hC kf_Reader_38 d_Reader_readPattern_12 ?_
  refine gw_aload_n hC 0 d_Reader_readPattern_15 rfl rfl ?_
  refine gw_iconst hC 0 d_Reader_readPattern_16 (by decide) ?_
  refine Cp14 hC kf_Reader_41 d_Reader_readPattern_17 ?_
  refine gw_aload_n hC 0 d_Reader_readPattern_20 rfl rfl ?_
  refine gw_iconst hC (-1) d_Reader_readPattern_21 (by decide) ?_
  refine Cp19 hC kf_Reader_46 d_Reader_readPattern_22 ?_
  refine gw_aload_n hC 0 d_Reader_readPattern_25 rfl rfl ?_
  refine Cr_Reader_program hC kf_Reader_24 d_Reader_readPattern_26 ?_
  obtain ⟨q29, hq29, hf⟩ := g_bind hf
  refine gw_callV hC [] [] (Program_clear_m _ _ _ ao aa N _ _ _ hq29) kc_Reader_49 1 (g_lay_obj rfl) rfl rfl ⟨by decide, by decide⟩ (Nat.le_of_ble_eq_true rfl) [.ref (ao 1)] [] rfl rfl d_Reader_readPattern_29 ?_
  refine gw_aload_n hC 0 d_Reader_readPattern_32 rfl rfl ?_
  refine Cr_Reader_program hC kf_Reader_24 d_Reader_readPattern_33 ?_
  refine gw_iconst hC 0 d_Reader_readPattern_36 (by decide) ?_
  refine gw_iconst hC 0 d_Reader_readPattern_37 (by decide) ?_
  refine gw_iconst hC 0 d_Reader_readPattern_38 (by decide) ?_
  obtain ⟨q39, hq39, hf⟩ := g_bind hf
  refine gw_callV hC [.int 0, .int 0, .int 0] [] (Program_addNode_m _ _ _ ao aa N _ _ _ _ _ _ hq39) kc_Reader_52 1 (g_lay_obj rfl) rfl rfl ⟨by decide, by decide⟩ (Nat.le_of_ble_eq_true rfl) [.int 0, .int 0, .int 0, .ref (ao 1)] [.int q39.1] rfl rfl d_Reader_readPattern_39 ?_
  refine gw_pop hC d_Reader_readPattern_42 rfl ?_
  refine gw_aload_n hC 0 d_Reader_readPattern_43 rfl rfl ?_
  obtain ⟨q44, hq44, hf⟩ := g_bind hf
  refine gw_callV hC [] [] (Reader_beginAlternative_m _ _ _ ao aa N _ _ _ hq44) kc_Reader_56 2 (g_lay_obj rfl) rfl rfl ⟨by decide, by decide⟩ (Nat.le_of_ble_eq_true rfl) [.ref (ao 2)] [] rfl rfl d_Reader_readPattern_44 ?_
  refine gw_iconst hC 0 d_Reader_readPattern_47 (by decide) ?_
  refine gw_istore_n hC [(2, .int 0), (0, .ref (ao 2)), (1, .int x1)] d_Reader_readPattern_48 rfl (by decide) rfl ?_
  refine gw_lv [1, 0] rfl ?_
  exact Reader_readPattern_q49 ao aa hC N N _ _ _ _ hf
def Reader_readPattern (N : Nat) (x1 : Int32) (σ : g_S) : Option (Int32 × g_S) := Reader_readPattern_b0 N x1 σ
theorem Reader_readPattern_m (l : Launch) (D : va_G) (cA : ClassId) (ao aa : Nat → Nat) (N : Nat) (x1 : Int32) (σ : g_S) (r : Int32) (σe : g_S) (hf : Reader_readPattern N x1 σ = some (r, σe)) : Mt l D cA y_Reader_readPattern c_Reader_readPattern 3 (some .int) 6 132 [.ref (ao 2), .int x1] (LC ao aa cA σ) (some (.int r)) (LC ao aa cA σe) := by
  refine g_met (by decide +kernel) (by simp [lg_sl, Value.category]) (fun X e1 e2 e3 hC => ?_)
  subst e1 e2 e3
  refine gw_lv [0, 1] rfl ?_
  exact Reader_readPattern_p0 ao aa hC N _ _ (r) _ hf
def Machine_refuel_b0 (N : Nat) (x1 : Int32) (σ : g_S) : Option (Int32 × g_S) := some (0, (gF (gF σ 25 x1) 27 0))
theorem Machine_refuel_p0 (ao aa : Nat → Nat) {X : g_X} (hC : gC X c_Machine_refuel R_Machine 0 0 2 none) (N : Nat) (x1 : Int32) (σ : g_S) (r : Int32) (σe : g_S) (hf : Machine_refuel_b0 N x1 σ = some (r, σe)) : gw X (.inl none) (LC ao aa X.2.2.1 σe) (LC ao aa X.2.2.1 σ) [(0, .ref (ao 3)), (1, .int x1)] 0 [] := by
  unfold Machine_refuel_b0 at hf
  refine gw_aload_n hC 0 d_Machine_refuel_0 rfl rfl ?_
  refine gw_iload_n hC 1 d_Machine_refuel_1 rfl rfl ?_
  refine Cp25 hC kf_Machine_57 d_Machine_refuel_2 ?_
  refine gw_aload_n hC 0 d_Machine_refuel_5 rfl rfl ?_
  refine gw_iconst hC 0 d_Machine_refuel_6 (by decide) ?_
  refine Cp27 hC kf_Machine_60 d_Machine_refuel_7 ?_
  cases hf
  exact gw_vret hC d_Machine_refuel_10
def Machine_refuel (N : Nat) (x1 : Int32) (σ : g_S) : Option (Int32 × g_S) := Machine_refuel_b0 N x1 σ
theorem Machine_refuel_m (l : Launch) (D : va_G) (cA : ClassId) (ao aa : Nat → Nat) (N : Nat) (x1 : Int32) (σ : g_S) (r : Int32) (σe : g_S) (hf : Machine_refuel N x1 σ = some (r, σe)) : Mt l D cA y_Machine_refuel c_Machine_refuel 2 none 0 0 [.ref (ao 3), .int x1] (LC ao aa cA σ) none (LC ao aa cA σe) := by
  refine g_met (by decide +kernel) (by simp [lg_sl, Value.category]) (fun X e1 e2 e3 hC => ?_)
  subst e1 e2 e3
  refine gw_lv [0, 1] rfl ?_
  exact Machine_refuel_p0 ao aa hC N _ _ (r) _ hf
def Machine_groupBegin_b0 (N : Nat) (x1 : Int32) (σ : g_S) : Option (Int32 × g_S) := (Rows_read N 18 (0 + x1) σ).bind fun q7 => some (q7.1, q7.2)
theorem Machine_groupBegin_p0 (ao aa : Nat → Nat) {X : g_X} (hC : gC X c_Machine_groupBegin R_Machine 1 21 2 (some .int)) (N : Nat) (x1 : Int32) (σ : g_S) (r : Int32) (σe : g_S) (hf : Machine_groupBegin_b0 N x1 σ = some (r, σe)) : gw X (.inl (some (.int r))) (LC ao aa X.2.2.1 σe) (LC ao aa X.2.2.1 σ) [(0, .ref (ao 3)), (1, .int x1)] 0 [] := by
  unfold Machine_groupBegin_b0 at hf
  refine gw_aload_n hC 0 d_Machine_groupBegin_0 rfl rfl ?_
  refine Cr_Machine_cells hC kf_Machine_17 d_Machine_groupBegin_1 ?_
  refine gw_iconst hC 0 d_Machine_groupBegin_4 (by decide) ?_
  refine gw_iload_n hC 1 d_Machine_groupBegin_5 rfl rfl ?_
  refine gw_iadd hC d_Machine_groupBegin_6 ?_
  obtain ⟨q7, hq7, hf⟩ := g_bind hf
  refine gw_callS hC [.ref (aa 18), .int (0 + x1)] [] (Rows_read_m _ _ _ ao aa N _ _ _ _ _ hq7) kc_Machine_43 ⟨by decide, by decide⟩ (Nat.le_of_ble_eq_true rfl) [.int (0 + x1), .ref (aa 18)] [.int q7.1] rfl rfl d_Machine_groupBegin_7 ?_
  cases hf
  exact gw_iret hC d_Machine_groupBegin_10
def Machine_groupBegin (N : Nat) (x1 : Int32) (σ : g_S) : Option (Int32 × g_S) := Machine_groupBegin_b0 N x1 σ
theorem Machine_groupBegin_m (l : Launch) (D : va_G) (cA : ClassId) (ao aa : Nat → Nat) (N : Nat) (x1 : Int32) (σ : g_S) (r : Int32) (σe : g_S) (hf : Machine_groupBegin N x1 σ = some (r, σe)) : Mt l D cA y_Machine_groupBegin c_Machine_groupBegin 2 (some .int) 1 21 [.ref (ao 3), .int x1] (LC ao aa cA σ) (some (.int r)) (LC ao aa cA σe) := by
  refine g_met (by decide +kernel) (by simp [lg_sl, Value.category]) (fun X e1 e2 e3 hC => ?_)
  subst e1 e2 e3
  refine gw_lv [0, 1] rfl ?_
  exact Machine_groupBegin_p0 ao aa hC N _ _ (r) _ hf
def Machine_groupEnd_b23 (N : Nat) (s0 : Int32) (σ : g_S) : Option (Int32 × g_S) := some (s0, σ)
theorem Machine_groupEnd_p23 (ao aa : Nat → Nat) {X : g_X} (hC : gC X c_Machine_groupEnd R_Machine 2 42 2 (some .int)) (N : Nat) (s0 : Int32) (σ : g_S) (r : Int32) (σe : g_S) (hf : Machine_groupEnd_b23 N s0 σ = some (r, σe)) : gw X (.inl (some (.int r))) (LC ao aa X.2.2.1 σe) (LC ao aa X.2.2.1 σ) [(0, .ref (ao 3))] 23 [.int s0] := by
  unfold Machine_groupEnd_b23 at hf
  cases hf
  exact gw_iret hC d_Machine_groupEnd_23
def Machine_groupEnd_b12 (N : Nat) (x1 : Int32) (σ : g_S) : Option (Int32 × g_S) := (Rows_read N 18 (21 + x1) σ).bind fun q20 => Machine_groupEnd_b23 N q20.1 q20.2
theorem Machine_groupEnd_p12 (ao aa : Nat → Nat) {X : g_X} (hC : gC X c_Machine_groupEnd R_Machine 2 42 2 (some .int)) (N : Nat) (x1 : Int32) (σ : g_S) (r : Int32) (σe : g_S) (hf : Machine_groupEnd_b12 N x1 σ = some (r, σe)) : gw X (.inl (some (.int r))) (LC ao aa X.2.2.1 σe) (LC ao aa X.2.2.1 σ) [(0, .ref (ao 3)), (1, .int x1)] 12 [] := by
  unfold Machine_groupEnd_b12 at hf
  refine gw_aload_n hC 0 d_Machine_groupEnd_12 rfl rfl ?_
  refine Cr_Machine_cells hC kf_Machine_17 d_Machine_groupEnd_13 ?_
  refine gw_bipush hC 21 d_Machine_groupEnd_16 (by decide) ?_
  refine gw_iload_n hC 1 d_Machine_groupEnd_18 rfl rfl ?_
  refine gw_iadd hC d_Machine_groupEnd_19 ?_
  obtain ⟨q20, hq20, hf⟩ := g_bind hf
  refine gw_callS hC [.ref (aa 18), .int (21 + x1)] [] (Rows_read_m _ _ _ ao aa N _ _ _ _ _ hq20) kc_Machine_43 ⟨by decide, by decide⟩ (Nat.le_of_ble_eq_true rfl) [.int (21 + x1), .ref (aa 18)] [.int q20.1] rfl rfl d_Machine_groupEnd_20 ?_
  refine gw_lv [0] rfl ?_
  exact Machine_groupEnd_p23 ao aa hC N _ _ _ _ hf
def Machine_groupEnd_b8 (N : Nat) (σ : g_S) : Option (Int32 × g_S) := Machine_groupEnd_b23 N (-1) σ
theorem Machine_groupEnd_p8 (ao aa : Nat → Nat) {X : g_X} (hC : gC X c_Machine_groupEnd R_Machine 2 42 2 (some .int)) (N : Nat) (σ : g_S) (r : Int32) (σe : g_S) (hf : Machine_groupEnd_b8 N σ = some (r, σe)) : gw X (.inl (some (.int r))) (LC ao aa X.2.2.1 σe) (LC ao aa X.2.2.1 σ) [(0, .ref (ao 3))] 8 [] := by
  unfold Machine_groupEnd_b8 at hf
  refine gw_iconst hC (-1) d_Machine_groupEnd_8 (by decide) ?_
  refine gw_goto hC 23 d_Machine_groupEnd_9 (by decide) ?_
  exact Machine_groupEnd_p23 ao aa hC N _ _ _ _ hf
def Machine_groupEnd_b0 (N : Nat) (x1 : Int32) (σ : g_S) : Option (Int32 × g_S) := (Machine_groupBegin N x1 σ).bind fun q2 => if 0 ≤ q2.1 then Machine_groupEnd_b12 N x1 q2.2 else Machine_groupEnd_b8 N q2.2
theorem Machine_groupEnd_p0 (ao aa : Nat → Nat) {X : g_X} (hC : gC X c_Machine_groupEnd R_Machine 2 42 2 (some .int)) (N : Nat) (x1 : Int32) (σ : g_S) (r : Int32) (σe : g_S) (hf : Machine_groupEnd_b0 N x1 σ = some (r, σe)) : gw X (.inl (some (.int r))) (LC ao aa X.2.2.1 σe) (LC ao aa X.2.2.1 σ) [(0, .ref (ao 3)), (1, .int x1)] 0 [] := by
  unfold Machine_groupEnd_b0 at hf
  refine gw_aload_n hC 0 d_Machine_groupEnd_0 rfl rfl ?_
  refine gw_iload_n hC 1 d_Machine_groupEnd_1 rfl rfl ?_
  obtain ⟨q2, hq2, hf⟩ := g_bind hf
  refine gw_callV hC [.int x1] [] (Machine_groupBegin_m _ _ _ ao aa N _ _ _ _ hq2) kc_Machine_63 3 (g_lay_obj rfl) rfl rfl ⟨by decide, by decide⟩ (Nat.le_of_ble_eq_true rfl) [.int x1, .ref (ao 3)] [.int q2.1] rfl rfl d_Machine_groupEnd_2 ?_
  refine gw_if_ge hC 12 d_Machine_groupEnd_5 (by decide) (fun hh => ?_) (fun hh => ?_)
  · rw [if_pos hh] at hf
    exact Machine_groupEnd_p12 ao aa hC N _ _ _ _ hf
  · rw [if_neg hh] at hf
    refine gw_lv [0] rfl ?_
    exact Machine_groupEnd_p8 ao aa hC N _ _ _ hf
def Machine_groupEnd (N : Nat) (x1 : Int32) (σ : g_S) : Option (Int32 × g_S) := Machine_groupEnd_b0 N x1 σ
theorem Machine_groupEnd_m (l : Launch) (D : va_G) (cA : ClassId) (ao aa : Nat → Nat) (N : Nat) (x1 : Int32) (σ : g_S) (r : Int32) (σe : g_S) (hf : Machine_groupEnd N x1 σ = some (r, σe)) : Mt l D cA y_Machine_groupEnd c_Machine_groupEnd 2 (some .int) 2 42 [.ref (ao 3), .int x1] (LC ao aa cA σ) (some (.int r)) (LC ao aa cA σe) := by
  refine g_met (by decide +kernel) (by simp [lg_sl, Value.category]) (fun X e1 e2 e3 hC => ?_)
  subst e1 e2 e3
  refine gw_lv [0, 1] rfl ?_
  exact Machine_groupEnd_p0 ao aa hC N _ _ (r) _ hf
def Machine_takesStep_b13 (N : Nat) (σ : g_S) : Option (Int32 × g_S) := some (1, (gF σ 27 ((σ.1 27) + 1)))
theorem Machine_takesStep_p13 (ao aa : Nat → Nat) {X : g_X} (hC : gC X c_Machine_takesStep R_Machine 0 0 1 (some .boolean)) (N : Nat) (σ : g_S) (r : Int32) (σe : g_S) (hf : Machine_takesStep_b13 N σ = some (r, σe)) : gw X (.inl (some (.int r))) (LC ao aa X.2.2.1 σe) (LC ao aa X.2.2.1 σ) [(0, .ref (ao 3))] 13 [] := by
  unfold Machine_takesStep_b13 at hf
  refine gw_aload_n hC 0 d_Machine_takesStep_13 rfl rfl ?_
  refine gw_dup hC d_Machine_takesStep_14 rfl ?_
  refine Cg27 hC kf_Machine_60 d_Machine_takesStep_15 (σ.1 27) rfl ?_
  refine gw_iconst hC 1 d_Machine_takesStep_18 (by decide) ?_
  refine gw_iadd hC d_Machine_takesStep_19 ?_
  refine Cp27 hC kf_Machine_60 d_Machine_takesStep_20 ?_
  refine gw_iconst hC 1 d_Machine_takesStep_23 (by decide) ?_
  cases hf
  exact gw_zret hC (by decide) d_Machine_takesStep_24
def Machine_takesStep_b11 (N : Nat) (σ : g_S) : Option (Int32 × g_S) := some (0, σ)
theorem Machine_takesStep_p11 (ao aa : Nat → Nat) {X : g_X} (hC : gC X c_Machine_takesStep R_Machine 0 0 1 (some .boolean)) (N : Nat) (σ : g_S) (r : Int32) (σe : g_S) (hf : Machine_takesStep_b11 N σ = some (r, σe)) : gw X (.inl (some (.int r))) (LC ao aa X.2.2.1 σe) (LC ao aa X.2.2.1 σ) [(0, .ref (ao 3))] 11 [] := by
  unfold Machine_takesStep_b11 at hf
  refine gw_iconst hC 0 d_Machine_takesStep_11 (by decide) ?_
  cases hf
  exact gw_zret hC (by decide) d_Machine_takesStep_12
def Machine_takesStep_b0 (N : Nat) (σ : g_S) : Option (Int32 × g_S) := if (σ.1 27) < (σ.1 25) then Machine_takesStep_b13 N σ else Machine_takesStep_b11 N σ
theorem Machine_takesStep_p0 (ao aa : Nat → Nat) {X : g_X} (hC : gC X c_Machine_takesStep R_Machine 0 0 1 (some .boolean)) (N : Nat) (σ : g_S) (r : Int32) (σe : g_S) (hf : Machine_takesStep_b0 N σ = some (r, σe)) : gw X (.inl (some (.int r))) (LC ao aa X.2.2.1 σe) (LC ao aa X.2.2.1 σ) [(0, .ref (ao 3))] 0 [] := by
  unfold Machine_takesStep_b0 at hf
  refine gw_aload_n hC 0 d_Machine_takesStep_0 rfl rfl ?_
  refine Cg27 hC kf_Machine_60 d_Machine_takesStep_1 (σ.1 27) rfl ?_
  refine gw_aload_n hC 0 d_Machine_takesStep_4 rfl rfl ?_
  refine Cg25 hC kf_Machine_57 d_Machine_takesStep_5 (σ.1 25) rfl ?_
  refine gw_icmp_lt hC 13 d_Machine_takesStep_8 (by decide) (fun hh => ?_) (fun hh => ?_)
  · rw [if_pos hh] at hf
    exact Machine_takesStep_p13 ao aa hC N _ _ _ hf
  · rw [if_neg hh] at hf
    exact Machine_takesStep_p11 ao aa hC N _ _ _ hf
def Machine_takesStep (N : Nat) (σ : g_S) : Option (Int32 × g_S) := Machine_takesStep_b0 N  σ
theorem Machine_takesStep_m (l : Launch) (D : va_G) (cA : ClassId) (ao aa : Nat → Nat) (N : Nat) (σ : g_S) (r : Int32) (σe : g_S) (hf : Machine_takesStep N σ = some (r, σe)) : Mt l D cA y_Machine_takesStep c_Machine_takesStep 1 (some .boolean) 0 0 [.ref (ao 3)] (LC ao aa cA σ) (some (.int r)) (LC ao aa cA σe) := by
  refine g_met (by decide +kernel) (by simp [lg_sl, Value.category]) (fun X e1 e2 e3 hC => ?_)
  subst e1 e2 e3
  refine gw_lv [0] rfl ?_
  exact Machine_takesStep_p0 ao aa hC N _ (r) _ hf
def Machine_unitAt_b31 (N : Nat) (s0 : Int32) (σ : g_S) : Option (Int32 × g_S) := some (s0, σ)
theorem Machine_unitAt_p31 (ao aa : Nat → Nat) {X : g_X} (hC : gC X c_Machine_unitAt R_Machine 0 0 2 (some .int)) (N : Nat) (s0 : Int32) (σ : g_S) (r : Int32) (σe : g_S) (hf : Machine_unitAt_b31 N s0 σ = some (r, σe)) : gw X (.inl (some (.int r))) (LC ao aa X.2.2.1 σe) (LC ao aa X.2.2.1 σ) [(0, .ref (ao 3))] 31 [.int s0] := by
  unfold Machine_unitAt_b31 at hf
  cases hf
  exact gw_iret hC d_Machine_unitAt_31
def Machine_unitAt_b30 (N : Nat) (σ : g_S) : Option (Int32 × g_S) := Machine_unitAt_b31 N (-1) σ
theorem Machine_unitAt_p30 (ao aa : Nat → Nat) {X : g_X} (hC : gC X c_Machine_unitAt R_Machine 0 0 2 (some .int)) (N : Nat) (σ : g_S) (r : Int32) (σe : g_S) (hf : Machine_unitAt_b30 N σ = some (r, σe)) : gw X (.inl (some (.int r))) (LC ao aa X.2.2.1 σe) (LC ao aa X.2.2.1 σ) [(0, .ref (ao 3))] 30 [] := by
  unfold Machine_unitAt_b30 at hf
  refine gw_iconst hC (-1) d_Machine_unitAt_30 (by decide) ?_
  exact Machine_unitAt_p31 ao aa hC N _ _ _ _ hf
def Machine_unitAt_b21 (N : Nat) (x1 : Int32) (σ : g_S) : Option (Int32 × g_S) := if gIn x1 600 = true then Machine_unitAt_b31 N (σ.2 17 (x1).toNatClampNeg) σ else none
theorem Machine_unitAt_p21 (ao aa : Nat → Nat) {X : g_X} (hC : gC X c_Machine_unitAt R_Machine 0 0 2 (some .int)) (N : Nat) (x1 : Int32) (σ : g_S) (r : Int32) (σe : g_S) (hf : Machine_unitAt_b21 N x1 σ = some (r, σe)) : gw X (.inl (some (.int r))) (LC ao aa X.2.2.1 σe) (LC ao aa X.2.2.1 σ) [(0, .ref (ao 3)), (1, .int x1)] 21 [] := by
  unfold Machine_unitAt_b21 at hf
  refine gw_aload_n hC 0 d_Machine_unitAt_21 rfl rfl ?_
  refine Cr_Machine_text hC kf_Machine_13 d_Machine_unitAt_22 ?_
  refine gw_iload_n hC 1 d_Machine_unitAt_25 rfl rfl ?_
  obtain ⟨hg26, hf⟩ := g_guard hf
  refine Cald (j := 17) hC (by decide) hg26 d_Machine_unitAt_26 (σ.2 17 (x1).toNatClampNeg) rfl ?_
  refine gw_goto hC 31 d_Machine_unitAt_27 (by decide) ?_
  refine gw_lv [0] rfl ?_
  exact Machine_unitAt_p31 ao aa hC N _ _ _ _ hf
def Machine_unitAt_b12 (N : Nat) (x1 : Int32) (σ : g_S) : Option (Int32 × g_S) := if (Int32.ofNat (lenC 17)) ≤ x1 then Machine_unitAt_b30 N σ else Machine_unitAt_b21 N x1 σ
theorem Machine_unitAt_p12 (ao aa : Nat → Nat) {X : g_X} (hC : gC X c_Machine_unitAt R_Machine 0 0 2 (some .int)) (N : Nat) (x1 : Int32) (σ : g_S) (r : Int32) (σe : g_S) (hf : Machine_unitAt_b12 N x1 σ = some (r, σe)) : gw X (.inl (some (.int r))) (LC ao aa X.2.2.1 σe) (LC ao aa X.2.2.1 σ) [(0, .ref (ao 3)), (1, .int x1)] 12 [] := by
  unfold Machine_unitAt_b12 at hf
  refine gw_iload_n hC 1 d_Machine_unitAt_12 rfl rfl ?_
  refine gw_aload_n hC 0 d_Machine_unitAt_13 rfl rfl ?_
  refine Cr_Machine_text hC kf_Machine_13 d_Machine_unitAt_14 ?_
  refine Calen (j := 17) hC (by decide) d_Machine_unitAt_17 ?_
  refine gw_icmp_ge hC 30 d_Machine_unitAt_18 (by decide) (fun hh => ?_) (fun hh => ?_)
  · rw [if_pos hh] at hf
    refine gw_lv [0] rfl ?_
    exact Machine_unitAt_p30 ao aa hC N _ _ _ hf
  · rw [if_neg hh] at hf
    exact Machine_unitAt_p21 ao aa hC N _ _ _ _ hf
def Machine_unitAt_b4 (N : Nat) (x1 : Int32) (σ : g_S) : Option (Int32 × g_S) := if (σ.1 26) ≤ x1 then Machine_unitAt_b30 N σ else Machine_unitAt_b12 N x1 σ
theorem Machine_unitAt_p4 (ao aa : Nat → Nat) {X : g_X} (hC : gC X c_Machine_unitAt R_Machine 0 0 2 (some .int)) (N : Nat) (x1 : Int32) (σ : g_S) (r : Int32) (σe : g_S) (hf : Machine_unitAt_b4 N x1 σ = some (r, σe)) : gw X (.inl (some (.int r))) (LC ao aa X.2.2.1 σe) (LC ao aa X.2.2.1 σ) [(0, .ref (ao 3)), (1, .int x1)] 4 [] := by
  unfold Machine_unitAt_b4 at hf
  refine gw_iload_n hC 1 d_Machine_unitAt_4 rfl rfl ?_
  refine gw_aload_n hC 0 d_Machine_unitAt_5 rfl rfl ?_
  refine Cg26 hC kf_Machine_53 d_Machine_unitAt_6 (σ.1 26) rfl ?_
  refine gw_icmp_ge hC 30 d_Machine_unitAt_9 (by decide) (fun hh => ?_) (fun hh => ?_)
  · rw [if_pos hh] at hf
    refine gw_lv [0] rfl ?_
    exact Machine_unitAt_p30 ao aa hC N _ _ _ hf
  · rw [if_neg hh] at hf
    exact Machine_unitAt_p12 ao aa hC N _ _ _ _ hf
def Machine_unitAt_b0 (N : Nat) (x1 : Int32) (σ : g_S) : Option (Int32 × g_S) := if x1 < 0 then Machine_unitAt_b30 N σ else Machine_unitAt_b4 N x1 σ
theorem Machine_unitAt_p0 (ao aa : Nat → Nat) {X : g_X} (hC : gC X c_Machine_unitAt R_Machine 0 0 2 (some .int)) (N : Nat) (x1 : Int32) (σ : g_S) (r : Int32) (σe : g_S) (hf : Machine_unitAt_b0 N x1 σ = some (r, σe)) : gw X (.inl (some (.int r))) (LC ao aa X.2.2.1 σe) (LC ao aa X.2.2.1 σ) [(0, .ref (ao 3)), (1, .int x1)] 0 [] := by
  unfold Machine_unitAt_b0 at hf
  refine gw_iload_n hC 1 d_Machine_unitAt_0 rfl rfl ?_
  refine gw_if_lt hC 30 d_Machine_unitAt_1 (by decide) (fun hh => ?_) (fun hh => ?_)
  · rw [if_pos hh] at hf
    refine gw_lv [0] rfl ?_
    exact Machine_unitAt_p30 ao aa hC N _ _ _ hf
  · rw [if_neg hh] at hf
    exact Machine_unitAt_p4 ao aa hC N _ _ _ _ hf
def Machine_unitAt (N : Nat) (x1 : Int32) (σ : g_S) : Option (Int32 × g_S) := Machine_unitAt_b0 N x1 σ
theorem Machine_unitAt_m (l : Launch) (D : va_G) (cA : ClassId) (ao aa : Nat → Nat) (N : Nat) (x1 : Int32) (σ : g_S) (r : Int32) (σe : g_S) (hf : Machine_unitAt N x1 σ = some (r, σe)) : Mt l D cA y_Machine_unitAt c_Machine_unitAt 2 (some .int) 0 0 [.ref (ao 3), .int x1] (LC ao aa cA σ) (some (.int r)) (LC ao aa cA σe) := by
  refine g_met (by decide +kernel) (by simp [lg_sl, Value.category]) (fun X e1 e2 e3 hC => ?_)
  subst e1 e2 e3
  refine gw_lv [0, 1] rfl ?_
  exact Machine_unitAt_p0 ao aa hC N _ _ (r) _ hf
def Machine_isSame_b31 (N : Nat) (s0 : Int32) (σ : g_S) : Option (Int32 × g_S) := if gB s0 = true then some (s0, σ) else none
theorem Machine_isSame_p31 (ao aa : Nat → Nat) {X : g_X} (hC : gC X c_Machine_isSame R_Machine 1 20 3 (some .boolean)) (N : Nat) (s0 : Int32) (σ : g_S) (r : Int32) (σe : g_S) (hf : Machine_isSame_b31 N s0 σ = some (r, σe)) : gw X (.inl (some (.int r))) (LC ao aa X.2.2.1 σe) (LC ao aa X.2.2.1 σ) [(0, .ref (ao 3))] 31 [.int s0] := by
  unfold Machine_isSame_b31 at hf
  obtain ⟨hg31, hf⟩ := g_guard hf
  cases hf
  exact gw_zret hC hg31 d_Machine_isSame_31
def Machine_isSame_b26 (N : Nat) (σ : g_S) : Option (Int32 × g_S) := Machine_isSame_b31 N 1 σ
theorem Machine_isSame_p26 (ao aa : Nat → Nat) {X : g_X} (hC : gC X c_Machine_isSame R_Machine 1 20 3 (some .boolean)) (N : Nat) (σ : g_S) (r : Int32) (σe : g_S) (hf : Machine_isSame_b26 N σ = some (r, σe)) : gw X (.inl (some (.int r))) (LC ao aa X.2.2.1 σe) (LC ao aa X.2.2.1 σ) [(0, .ref (ao 3))] 26 [] := by
  unfold Machine_isSame_b26 at hf
  refine gw_iconst hC 1 d_Machine_isSame_26 (by decide) ?_
  refine gw_goto hC 31 d_Machine_isSame_27 (by decide) ?_
  exact Machine_isSame_p31 ao aa hC N _ _ _ _ hf
def Machine_isSame_b30 (N : Nat) (σ : g_S) : Option (Int32 × g_S) := Machine_isSame_b31 N 0 σ
theorem Machine_isSame_p30 (ao aa : Nat → Nat) {X : g_X} (hC : gC X c_Machine_isSame R_Machine 1 20 3 (some .boolean)) (N : Nat) (σ : g_S) (r : Int32) (σe : g_S) (hf : Machine_isSame_b30 N σ = some (r, σe)) : gw X (.inl (some (.int r))) (LC ao aa X.2.2.1 σe) (LC ao aa X.2.2.1 σ) [(0, .ref (ao 3))] 30 [] := by
  unfold Machine_isSame_b30 at hf
  refine gw_iconst hC 0 d_Machine_isSame_30 (by decide) ?_
  exact Machine_isSame_p31 ao aa hC N _ _ _ _ hf
def Machine_isSame_b15 (N : Nat) (x1 : Int32) (x2 : Int32) (σ : g_S) : Option (Int32 × g_S) := (Units_upper N x1 σ).bind fun q16 => (Units_upper N x2 q16.2).bind fun q20 => if q16.1 = q20.1 then Machine_isSame_b26 N q20.2 else Machine_isSame_b30 N q20.2
theorem Machine_isSame_p15 (ao aa : Nat → Nat) {X : g_X} (hC : gC X c_Machine_isSame R_Machine 1 20 3 (some .boolean)) (N : Nat) (x1 : Int32) (x2 : Int32) (σ : g_S) (r : Int32) (σe : g_S) (hf : Machine_isSame_b15 N x1 x2 σ = some (r, σe)) : gw X (.inl (some (.int r))) (LC ao aa X.2.2.1 σe) (LC ao aa X.2.2.1 σ) [(0, .ref (ao 3)), (1, .int x1), (2, .int x2)] 15 [] := by
  unfold Machine_isSame_b15 at hf
  refine gw_iload_n hC 1 d_Machine_isSame_15 rfl rfl ?_
  obtain ⟨q16, hq16, hf⟩ := g_bind hf
  refine gw_callS hC [.int x1] [] (Units_upper_m _ _ _ ao aa N _ _ _ _ hq16) kc_Machine_180 ⟨by decide, by decide⟩ (Nat.le_of_ble_eq_true rfl) [.int x1] [.int q16.1] rfl rfl d_Machine_isSame_16 ?_
  refine gw_iload_n hC 2 d_Machine_isSame_19 rfl rfl ?_
  obtain ⟨q20, hq20, hf⟩ := g_bind hf
  refine gw_callS hC [.int x2] [.int q16.1] (Units_upper_m _ _ _ ao aa N _ _ _ _ hq20) kc_Machine_180 ⟨by decide, by decide⟩ (Nat.le_of_ble_eq_true rfl) [.int x2, .int q16.1] [.int q20.1, .int q16.1] rfl rfl d_Machine_isSame_20 ?_
  refine gw_icmp_ne hC 30 d_Machine_isSame_23 (by decide) (fun hh => ?_) (fun hh => ?_)
  · rw [if_neg hh] at hf
    refine gw_lv [0] rfl ?_
    exact Machine_isSame_p30 ao aa hC N _ _ _ hf
  · rw [if_pos hh] at hf
    refine gw_lv [0] rfl ?_
    exact Machine_isSame_p26 ao aa hC N _ _ _ hf
def Machine_isSame_b5 (N : Nat) (x1 : Int32) (x2 : Int32) (σ : g_S) : Option (Int32 × g_S) := if (σ.1 9) = 0 then Machine_isSame_b30 N σ else Machine_isSame_b15 N x1 x2 σ
theorem Machine_isSame_p5 (ao aa : Nat → Nat) {X : g_X} (hC : gC X c_Machine_isSame R_Machine 1 20 3 (some .boolean)) (N : Nat) (x1 : Int32) (x2 : Int32) (σ : g_S) (r : Int32) (σe : g_S) (hf : Machine_isSame_b5 N x1 x2 σ = some (r, σe)) : gw X (.inl (some (.int r))) (LC ao aa X.2.2.1 σe) (LC ao aa X.2.2.1 σ) [(0, .ref (ao 3)), (1, .int x1), (2, .int x2)] 5 [] := by
  unfold Machine_isSame_b5 at hf
  refine gw_aload_n hC 0 d_Machine_isSame_5 rfl rfl ?_
  refine Cr_Machine_program hC kf_Machine_39 d_Machine_isSame_6 ?_
  refine Cg9 hC kf_Machine_177 d_Machine_isSame_9 (σ.1 9) rfl ?_
  refine gw_if_eq hC 30 d_Machine_isSame_12 (by decide) (fun hh => ?_) (fun hh => ?_)
  · rw [if_pos hh] at hf
    refine gw_lv [0] rfl ?_
    exact Machine_isSame_p30 ao aa hC N _ _ _ hf
  · rw [if_neg hh] at hf
    exact Machine_isSame_p15 ao aa hC N _ _ _ _ _ hf
def Machine_isSame_b0 (N : Nat) (x1 : Int32) (x2 : Int32) (σ : g_S) : Option (Int32 × g_S) := if x1 = x2 then Machine_isSame_b26 N σ else Machine_isSame_b5 N x1 x2 σ
theorem Machine_isSame_p0 (ao aa : Nat → Nat) {X : g_X} (hC : gC X c_Machine_isSame R_Machine 1 20 3 (some .boolean)) (N : Nat) (x1 : Int32) (x2 : Int32) (σ : g_S) (r : Int32) (σe : g_S) (hf : Machine_isSame_b0 N x1 x2 σ = some (r, σe)) : gw X (.inl (some (.int r))) (LC ao aa X.2.2.1 σe) (LC ao aa X.2.2.1 σ) [(0, .ref (ao 3)), (1, .int x1), (2, .int x2)] 0 [] := by
  unfold Machine_isSame_b0 at hf
  refine gw_iload_n hC 1 d_Machine_isSame_0 rfl rfl ?_
  refine gw_iload_n hC 2 d_Machine_isSame_1 rfl rfl ?_
  refine gw_icmp_eq hC 26 d_Machine_isSame_2 (by decide) (fun hh => ?_) (fun hh => ?_)
  · rw [if_pos hh] at hf
    refine gw_lv [0] rfl ?_
    exact Machine_isSame_p26 ao aa hC N _ _ _ hf
  · rw [if_neg hh] at hf
    exact Machine_isSame_p5 ao aa hC N _ _ _ _ _ hf
def Machine_isSame (N : Nat) (x1 : Int32) (x2 : Int32) (σ : g_S) : Option (Int32 × g_S) := Machine_isSame_b0 N x1 x2 σ
theorem Machine_isSame_m (l : Launch) (D : va_G) (cA : ClassId) (ao aa : Nat → Nat) (N : Nat) (x1 : Int32) (x2 : Int32) (σ : g_S) (r : Int32) (σe : g_S) (hf : Machine_isSame N x1 x2 σ = some (r, σe)) : Mt l D cA y_Machine_isSame c_Machine_isSame 3 (some .boolean) 1 20 [.ref (ao 3), .int x1, .int x2] (LC ao aa cA σ) (some (.int r)) (LC ao aa cA σe) := by
  refine g_met (by decide +kernel) (by simp [lg_sl, Value.category]) (fun X e1 e2 e3 hC => ?_)
  subst e1 e2 e3
  refine gw_lv [0, 1, 2] rfl ?_
  exact Machine_isSame_p0 ao aa hC N _ _ _ (r) _ hf
def Machine_hasMember_b137 (N : Nat) (σ : g_S) : Option (Int32 × g_S) := some (0, σ)
theorem Machine_hasMember_p137 (ao aa : Nat → Nat) {X : g_X} (hC : gC X c_Machine_hasMember R_Machine 3 61 9 (some .boolean)) (N : Nat) (σ : g_S) (r : Int32) (σe : g_S) (hf : Machine_hasMember_b137 N σ = some (r, σe)) : gw X (.inl (some (.int r))) (LC ao aa X.2.2.1 σe) (LC ao aa X.2.2.1 σ) [(0, .ref (ao 3))] 137 [] := by
  unfold Machine_hasMember_b137 at hf
  refine gw_iconst hC 0 d_Machine_hasMember_137 (by decide) ?_
  cases hf
  exact gw_zret hC (by decide) d_Machine_hasMember_138
def Machine_hasMember_b131 (N : Nat) (k23 : Int32 → Int32 → Int32 → Int32 → g_S → Option (Int32 × g_S)) (x2 : Int32) (x3 : Int32) (x4 : Int32) (x5 : Int32) (σ : g_S) : Option (Int32 × g_S) := k23 x2 x3 x4 (x5 + 1) σ
theorem Machine_hasMember_p131 (ao aa : Nat → Nat) {X : g_X} (hC : gC X c_Machine_hasMember R_Machine 3 61 9 (some .boolean)) (N : Nat) (k23 : Int32 → Int32 → Int32 → Int32 → g_S → Option (Int32 × g_S)) (hk23 : ∀ (x2 : Int32) (x3 : Int32) (x4 : Int32) (x5 : Int32) (σ : g_S) (r : Int32) (σe : g_S), k23 x2 x3 x4 x5 σ = some (r, σe) → gw X (.inl (some (.int r))) (LC ao aa X.2.2.1 σe) (LC ao aa X.2.2.1 σ) [(0, .ref (ao 3)), (2, .int x2), (3, .int x3), (4, .int x4), (5, .int x5)] 23 []) (x2 : Int32) (x3 : Int32) (x4 : Int32) (x5 : Int32) (σ : g_S) (r : Int32) (σe : g_S) (hf : Machine_hasMember_b131 N k23 x2 x3 x4 x5 σ = some (r, σe)) : gw X (.inl (some (.int r))) (LC ao aa X.2.2.1 σe) (LC ao aa X.2.2.1 σ) [(0, .ref (ao 3)), (2, .int x2), (3, .int x3), (4, .int x4), (5, .int x5)] 131 [] := by
  unfold Machine_hasMember_b131 at hf
  refine gw_iinc hC (x5 + 1) 4 [(5, .int (x5 + 1)), (0, .ref (ao 3)), (2, .int x2), (3, .int x3), (4, .int x4)] d_Machine_hasMember_131 rfl rfl (by decide) rfl ?_
  refine gw_goto hC 23 d_Machine_hasMember_134 (by decide) ?_
  refine gw_lv [1, 2, 3, 4, 0] rfl ?_
  exact hk23 _ _ _ _ _ _ _ hf
def Machine_hasMember_b129 (N : Nat) (σ : g_S) : Option (Int32 × g_S) := some (1, σ)
theorem Machine_hasMember_p129 (ao aa : Nat → Nat) {X : g_X} (hC : gC X c_Machine_hasMember R_Machine 3 61 9 (some .boolean)) (N : Nat) (σ : g_S) (r : Int32) (σe : g_S) (hf : Machine_hasMember_b129 N σ = some (r, σe)) : gw X (.inl (some (.int r))) (LC ao aa X.2.2.1 σe) (LC ao aa X.2.2.1 σ) [(0, .ref (ao 3))] 129 [] := by
  unfold Machine_hasMember_b129 at hf
  refine gw_iconst hC 1 d_Machine_hasMember_129 (by decide) ?_
  cases hf
  exact gw_zret hC (by decide) d_Machine_hasMember_130
def Machine_hasMember_b122 (N : Nat) (k23 : Int32 → Int32 → Int32 → Int32 → g_S → Option (Int32 × g_S)) (x2 : Int32) (x3 : Int32) (x4 : Int32) (x5 : Int32) (s0 : Int32) (σ : g_S) : Option (Int32 × g_S) := if s0 = 0 then Machine_hasMember_b131 N k23 x2 x3 x4 x5 σ else Machine_hasMember_b129 N σ
theorem Machine_hasMember_p122 (ao aa : Nat → Nat) {X : g_X} (hC : gC X c_Machine_hasMember R_Machine 3 61 9 (some .boolean)) (N : Nat) (k23 : Int32 → Int32 → Int32 → Int32 → g_S → Option (Int32 × g_S)) (hk23 : ∀ (x2 : Int32) (x3 : Int32) (x4 : Int32) (x5 : Int32) (σ : g_S) (r : Int32) (σe : g_S), k23 x2 x3 x4 x5 σ = some (r, σe) → gw X (.inl (some (.int r))) (LC ao aa X.2.2.1 σe) (LC ao aa X.2.2.1 σ) [(0, .ref (ao 3)), (2, .int x2), (3, .int x3), (4, .int x4), (5, .int x5)] 23 []) (x2 : Int32) (x3 : Int32) (x4 : Int32) (x5 : Int32) (s0 : Int32) (σ : g_S) (r : Int32) (σe : g_S) (hf : Machine_hasMember_b122 N k23 x2 x3 x4 x5 s0 σ = some (r, σe)) : gw X (.inl (some (.int r))) (LC ao aa X.2.2.1 σe) (LC ao aa X.2.2.1 σ) [(0, .ref (ao 3)), (2, .int x2), (3, .int x3), (4, .int x4), (5, .int x5)] 122 [.int s0] := by
  unfold Machine_hasMember_b122 at hf
  refine gw_istore hC [(8, .int s0), (0, .ref (ao 3)), (2, .int x2), (3, .int x3), (4, .int x4), (5, .int x5)] d_Machine_hasMember_122 (by decide) rfl ?_
  refine gw_iload hC 0 d_Machine_hasMember_124 rfl ?_
  refine gw_if_eq hC 131 d_Machine_hasMember_126 (by decide) (fun hh => ?_) (fun hh => ?_)
  · rw [if_pos hh] at hf
    refine gw_lv [1, 2, 3, 4, 5] rfl ?_
    exact Machine_hasMember_p131 ao aa hC N _ hk23 _ _ _ _ _ _ _ hf
  · rw [if_neg hh] at hf
    refine gw_lv [1] rfl ?_
    exact Machine_hasMember_p129 ao aa hC N _ _ _ hf
def Machine_hasMember_b121 (N : Nat) (k23 : Int32 → Int32 → Int32 → Int32 → g_S → Option (Int32 × g_S)) (x2 : Int32) (x3 : Int32) (x4 : Int32) (x5 : Int32) (σ : g_S) : Option (Int32 × g_S) := Machine_hasMember_b122 N k23 x2 x3 x4 x5 0 σ
theorem Machine_hasMember_p121 (ao aa : Nat → Nat) {X : g_X} (hC : gC X c_Machine_hasMember R_Machine 3 61 9 (some .boolean)) (N : Nat) (k23 : Int32 → Int32 → Int32 → Int32 → g_S → Option (Int32 × g_S)) (hk23 : ∀ (x2 : Int32) (x3 : Int32) (x4 : Int32) (x5 : Int32) (σ : g_S) (r : Int32) (σe : g_S), k23 x2 x3 x4 x5 σ = some (r, σe) → gw X (.inl (some (.int r))) (LC ao aa X.2.2.1 σe) (LC ao aa X.2.2.1 σ) [(0, .ref (ao 3)), (2, .int x2), (3, .int x3), (4, .int x4), (5, .int x5)] 23 []) (x2 : Int32) (x3 : Int32) (x4 : Int32) (x5 : Int32) (σ : g_S) (r : Int32) (σe : g_S) (hf : Machine_hasMember_b121 N k23 x2 x3 x4 x5 σ = some (r, σe)) : gw X (.inl (some (.int r))) (LC ao aa X.2.2.1 σe) (LC ao aa X.2.2.1 σ) [(0, .ref (ao 3)), (2, .int x2), (3, .int x3), (4, .int x4), (5, .int x5)] 121 [] := by
  unfold Machine_hasMember_b121 at hf
  refine gw_iconst hC 0 d_Machine_hasMember_121 (by decide) ?_
  exact Machine_hasMember_p122 ao aa hC N _ hk23 _ _ _ _ _ _ _ _ hf
def Machine_hasMember_b117 (N : Nat) (k23 : Int32 → Int32 → Int32 → Int32 → g_S → Option (Int32 × g_S)) (x2 : Int32) (x3 : Int32) (x4 : Int32) (x5 : Int32) (σ : g_S) : Option (Int32 × g_S) := Machine_hasMember_b122 N k23 x2 x3 x4 x5 1 σ
theorem Machine_hasMember_p117 (ao aa : Nat → Nat) {X : g_X} (hC : gC X c_Machine_hasMember R_Machine 3 61 9 (some .boolean)) (N : Nat) (k23 : Int32 → Int32 → Int32 → Int32 → g_S → Option (Int32 × g_S)) (hk23 : ∀ (x2 : Int32) (x3 : Int32) (x4 : Int32) (x5 : Int32) (σ : g_S) (r : Int32) (σe : g_S), k23 x2 x3 x4 x5 σ = some (r, σe) → gw X (.inl (some (.int r))) (LC ao aa X.2.2.1 σe) (LC ao aa X.2.2.1 σ) [(0, .ref (ao 3)), (2, .int x2), (3, .int x3), (4, .int x4), (5, .int x5)] 23 []) (x2 : Int32) (x3 : Int32) (x4 : Int32) (x5 : Int32) (σ : g_S) (r : Int32) (σe : g_S) (hf : Machine_hasMember_b117 N k23 x2 x3 x4 x5 σ = some (r, σe)) : gw X (.inl (some (.int r))) (LC ao aa X.2.2.1 σe) (LC ao aa X.2.2.1 σ) [(0, .ref (ao 3)), (2, .int x2), (3, .int x3), (4, .int x4), (5, .int x5)] 117 [] := by
  unfold Machine_hasMember_b117 at hf
  refine gw_iconst hC 1 d_Machine_hasMember_117 (by decide) ?_
  refine gw_goto hC 122 d_Machine_hasMember_118 (by decide) ?_
  exact Machine_hasMember_p122 ao aa hC N _ hk23 _ _ _ _ _ _ _ _ hf
def Machine_hasMember_b110 (N : Nat) (k23 : Int32 → Int32 → Int32 → Int32 → g_S → Option (Int32 × g_S)) (x2 : Int32) (x3 : Int32) (x4 : Int32) (x5 : Int32) (x7 : Int32) (σ : g_S) : Option (Int32 × g_S) := if x7 < x4 then Machine_hasMember_b121 N k23 x2 x3 x4 x5 σ else Machine_hasMember_b117 N k23 x2 x3 x4 x5 σ
theorem Machine_hasMember_p110 (ao aa : Nat → Nat) {X : g_X} (hC : gC X c_Machine_hasMember R_Machine 3 61 9 (some .boolean)) (N : Nat) (k23 : Int32 → Int32 → Int32 → Int32 → g_S → Option (Int32 × g_S)) (hk23 : ∀ (x2 : Int32) (x3 : Int32) (x4 : Int32) (x5 : Int32) (σ : g_S) (r : Int32) (σe : g_S), k23 x2 x3 x4 x5 σ = some (r, σe) → gw X (.inl (some (.int r))) (LC ao aa X.2.2.1 σe) (LC ao aa X.2.2.1 σ) [(0, .ref (ao 3)), (2, .int x2), (3, .int x3), (4, .int x4), (5, .int x5)] 23 []) (x2 : Int32) (x3 : Int32) (x4 : Int32) (x5 : Int32) (x7 : Int32) (σ : g_S) (r : Int32) (σe : g_S) (hf : Machine_hasMember_b110 N k23 x2 x3 x4 x5 x7 σ = some (r, σe)) : gw X (.inl (some (.int r))) (LC ao aa X.2.2.1 σe) (LC ao aa X.2.2.1 σ) [(0, .ref (ao 3)), (2, .int x2), (3, .int x3), (4, .int x4), (5, .int x5), (7, .int x7)] 110 [] := by
  unfold Machine_hasMember_b110 at hf
  refine gw_iload hC 3 d_Machine_hasMember_110 rfl ?_
  refine gw_iload hC 5 d_Machine_hasMember_112 rfl ?_
  refine gw_icmp_gt hC 121 d_Machine_hasMember_114 (by decide) (fun hh => ?_) (fun hh => ?_)
  · rw [if_pos hh] at hf
    refine gw_lv [0, 1, 2, 3, 4] rfl ?_
    exact Machine_hasMember_p121 ao aa hC N _ hk23 _ _ _ _ _ _ _ hf
  · rw [if_neg hh] at hf
    refine gw_lv [0, 1, 2, 3, 4] rfl ?_
    exact Machine_hasMember_p117 ao aa hC N _ hk23 _ _ _ _ _ _ _ hf
def Machine_hasMember_b103 (N : Nat) (k23 : Int32 → Int32 → Int32 → Int32 → g_S → Option (Int32 × g_S)) (x2 : Int32) (x3 : Int32) (x4 : Int32) (x5 : Int32) (x6 : Int32) (x7 : Int32) (σ : g_S) : Option (Int32 × g_S) := if x4 < x6 then Machine_hasMember_b121 N k23 x2 x3 x4 x5 σ else Machine_hasMember_b110 N k23 x2 x3 x4 x5 x7 σ
theorem Machine_hasMember_p103 (ao aa : Nat → Nat) {X : g_X} (hC : gC X c_Machine_hasMember R_Machine 3 61 9 (some .boolean)) (N : Nat) (k23 : Int32 → Int32 → Int32 → Int32 → g_S → Option (Int32 × g_S)) (hk23 : ∀ (x2 : Int32) (x3 : Int32) (x4 : Int32) (x5 : Int32) (σ : g_S) (r : Int32) (σe : g_S), k23 x2 x3 x4 x5 σ = some (r, σe) → gw X (.inl (some (.int r))) (LC ao aa X.2.2.1 σe) (LC ao aa X.2.2.1 σ) [(0, .ref (ao 3)), (2, .int x2), (3, .int x3), (4, .int x4), (5, .int x5)] 23 []) (x2 : Int32) (x3 : Int32) (x4 : Int32) (x5 : Int32) (x6 : Int32) (x7 : Int32) (σ : g_S) (r : Int32) (σe : g_S) (hf : Machine_hasMember_b103 N k23 x2 x3 x4 x5 x6 x7 σ = some (r, σe)) : gw X (.inl (some (.int r))) (LC ao aa X.2.2.1 σe) (LC ao aa X.2.2.1 σ) [(0, .ref (ao 3)), (2, .int x2), (3, .int x3), (4, .int x4), (5, .int x5), (6, .int x6), (7, .int x7)] 103 [] := by
  unfold Machine_hasMember_b103 at hf
  refine gw_iload hC 3 d_Machine_hasMember_103 rfl ?_
  refine gw_iload hC 5 d_Machine_hasMember_105 rfl ?_
  refine gw_icmp_lt hC 121 d_Machine_hasMember_107 (by decide) (fun hh => ?_) (fun hh => ?_)
  · rw [if_pos hh] at hf
    refine gw_lv [0, 1, 2, 3, 4] rfl ?_
    exact Machine_hasMember_p121 ao aa hC N _ hk23 _ _ _ _ _ _ _ hf
  · rw [if_neg hh] at hf
    refine gw_lv [0, 1, 2, 3, 4, 6] rfl ?_
    exact Machine_hasMember_p110 ao aa hC N _ hk23 _ _ _ _ _ _ _ _ hf
def Machine_hasMember_b97 (N : Nat) (k23 : Int32 → Int32 → Int32 → Int32 → g_S → Option (Int32 × g_S)) (x2 : Int32) (x3 : Int32) (x4 : Int32) (x5 : Int32) (x6 : Int32) (x7 : Int32) (σ : g_S) : Option (Int32 × g_S) := if x3 ≤ x7 then Machine_hasMember_b117 N k23 x2 x3 x4 x5 σ else Machine_hasMember_b103 N k23 x2 x3 x4 x5 x6 x7 σ
theorem Machine_hasMember_p97 (ao aa : Nat → Nat) {X : g_X} (hC : gC X c_Machine_hasMember R_Machine 3 61 9 (some .boolean)) (N : Nat) (k23 : Int32 → Int32 → Int32 → Int32 → g_S → Option (Int32 × g_S)) (hk23 : ∀ (x2 : Int32) (x3 : Int32) (x4 : Int32) (x5 : Int32) (σ : g_S) (r : Int32) (σe : g_S), k23 x2 x3 x4 x5 σ = some (r, σe) → gw X (.inl (some (.int r))) (LC ao aa X.2.2.1 σe) (LC ao aa X.2.2.1 σ) [(0, .ref (ao 3)), (2, .int x2), (3, .int x3), (4, .int x4), (5, .int x5)] 23 []) (x2 : Int32) (x3 : Int32) (x4 : Int32) (x5 : Int32) (x6 : Int32) (x7 : Int32) (σ : g_S) (r : Int32) (σe : g_S) (hf : Machine_hasMember_b97 N k23 x2 x3 x4 x5 x6 x7 σ = some (r, σe)) : gw X (.inl (some (.int r))) (LC ao aa X.2.2.1 σe) (LC ao aa X.2.2.1 σ) [(0, .ref (ao 3)), (2, .int x2), (3, .int x3), (4, .int x4), (5, .int x5), (6, .int x6), (7, .int x7)] 97 [] := by
  unfold Machine_hasMember_b97 at hf
  refine gw_iload_n hC 2 d_Machine_hasMember_97 rfl rfl ?_
  refine gw_iload hC 6 d_Machine_hasMember_98 rfl ?_
  refine gw_icmp_le hC 117 d_Machine_hasMember_100 (by decide) (fun hh => ?_) (fun hh => ?_)
  · rw [if_pos hh] at hf
    refine gw_lv [0, 1, 2, 3, 4] rfl ?_
    exact Machine_hasMember_p117 ao aa hC N _ hk23 _ _ _ _ _ _ _ hf
  · rw [if_neg hh] at hf
    exact Machine_hasMember_p103 ao aa hC N _ hk23 _ _ _ _ _ _ _ _ _ hf
def Machine_hasMember_b91 (N : Nat) (k23 : Int32 → Int32 → Int32 → Int32 → g_S → Option (Int32 × g_S)) (x2 : Int32) (x3 : Int32) (x4 : Int32) (x5 : Int32) (x6 : Int32) (x7 : Int32) (σ : g_S) : Option (Int32 × g_S) := if x3 < x6 then Machine_hasMember_b103 N k23 x2 x3 x4 x5 x6 x7 σ else Machine_hasMember_b97 N k23 x2 x3 x4 x5 x6 x7 σ
theorem Machine_hasMember_p91 (ao aa : Nat → Nat) {X : g_X} (hC : gC X c_Machine_hasMember R_Machine 3 61 9 (some .boolean)) (N : Nat) (k23 : Int32 → Int32 → Int32 → Int32 → g_S → Option (Int32 × g_S)) (hk23 : ∀ (x2 : Int32) (x3 : Int32) (x4 : Int32) (x5 : Int32) (σ : g_S) (r : Int32) (σe : g_S), k23 x2 x3 x4 x5 σ = some (r, σe) → gw X (.inl (some (.int r))) (LC ao aa X.2.2.1 σe) (LC ao aa X.2.2.1 σ) [(0, .ref (ao 3)), (2, .int x2), (3, .int x3), (4, .int x4), (5, .int x5)] 23 []) (x2 : Int32) (x3 : Int32) (x4 : Int32) (x5 : Int32) (x6 : Int32) (x7 : Int32) (σ : g_S) (r : Int32) (σe : g_S) (hf : Machine_hasMember_b91 N k23 x2 x3 x4 x5 x6 x7 σ = some (r, σe)) : gw X (.inl (some (.int r))) (LC ao aa X.2.2.1 σe) (LC ao aa X.2.2.1 σ) [(0, .ref (ao 3)), (2, .int x2), (3, .int x3), (4, .int x4), (5, .int x5), (6, .int x6), (7, .int x7)] 91 [] := by
  unfold Machine_hasMember_b91 at hf
  refine gw_iload_n hC 2 d_Machine_hasMember_91 rfl rfl ?_
  refine gw_iload hC 5 d_Machine_hasMember_92 rfl ?_
  refine gw_icmp_lt hC 103 d_Machine_hasMember_94 (by decide) (fun hh => ?_) (fun hh => ?_)
  · rw [if_pos hh] at hf
    exact Machine_hasMember_p103 ao aa hC N _ hk23 _ _ _ _ _ _ _ _ _ hf
  · rw [if_neg hh] at hf
    exact Machine_hasMember_p97 ao aa hC N _ hk23 _ _ _ _ _ _ _ _ _ hf
def Machine_hasMember_b83 (N : Nat) (k23 : Int32 → Int32 → Int32 → Int32 → g_S → Option (Int32 × g_S)) (x2 : Int32) (x3 : Int32) (x4 : Int32) (x5 : Int32) (σ : g_S) : Option (Int32 × g_S) := Machine_hasMember_b122 N k23 x2 x3 x4 x5 1 σ
theorem Machine_hasMember_p83 (ao aa : Nat → Nat) {X : g_X} (hC : gC X c_Machine_hasMember R_Machine 3 61 9 (some .boolean)) (N : Nat) (k23 : Int32 → Int32 → Int32 → Int32 → g_S → Option (Int32 × g_S)) (hk23 : ∀ (x2 : Int32) (x3 : Int32) (x4 : Int32) (x5 : Int32) (σ : g_S) (r : Int32) (σe : g_S), k23 x2 x3 x4 x5 σ = some (r, σe) → gw X (.inl (some (.int r))) (LC ao aa X.2.2.1 σe) (LC ao aa X.2.2.1 σ) [(0, .ref (ao 3)), (2, .int x2), (3, .int x3), (4, .int x4), (5, .int x5)] 23 []) (x2 : Int32) (x3 : Int32) (x4 : Int32) (x5 : Int32) (σ : g_S) (r : Int32) (σe : g_S) (hf : Machine_hasMember_b83 N k23 x2 x3 x4 x5 σ = some (r, σe)) : gw X (.inl (some (.int r))) (LC ao aa X.2.2.1 σe) (LC ao aa X.2.2.1 σ) [(0, .ref (ao 3)), (2, .int x2), (3, .int x3), (4, .int x4), (5, .int x5)] 83 [] := by
  unfold Machine_hasMember_b83 at hf
  refine gw_iconst hC 1 d_Machine_hasMember_83 (by decide) ?_
  refine gw_goto hC 122 d_Machine_hasMember_84 (by decide) ?_
  exact Machine_hasMember_p122 ao aa hC N _ hk23 _ _ _ _ _ _ _ _ hf
def Machine_hasMember_b87 (N : Nat) (k23 : Int32 → Int32 → Int32 → Int32 → g_S → Option (Int32 × g_S)) (x2 : Int32) (x3 : Int32) (x4 : Int32) (x5 : Int32) (σ : g_S) : Option (Int32 × g_S) := Machine_hasMember_b122 N k23 x2 x3 x4 x5 0 σ
theorem Machine_hasMember_p87 (ao aa : Nat → Nat) {X : g_X} (hC : gC X c_Machine_hasMember R_Machine 3 61 9 (some .boolean)) (N : Nat) (k23 : Int32 → Int32 → Int32 → Int32 → g_S → Option (Int32 × g_S)) (hk23 : ∀ (x2 : Int32) (x3 : Int32) (x4 : Int32) (x5 : Int32) (σ : g_S) (r : Int32) (σe : g_S), k23 x2 x3 x4 x5 σ = some (r, σe) → gw X (.inl (some (.int r))) (LC ao aa X.2.2.1 σe) (LC ao aa X.2.2.1 σ) [(0, .ref (ao 3)), (2, .int x2), (3, .int x3), (4, .int x4), (5, .int x5)] 23 []) (x2 : Int32) (x3 : Int32) (x4 : Int32) (x5 : Int32) (σ : g_S) (r : Int32) (σe : g_S) (hf : Machine_hasMember_b87 N k23 x2 x3 x4 x5 σ = some (r, σe)) : gw X (.inl (some (.int r))) (LC ao aa X.2.2.1 σe) (LC ao aa X.2.2.1 σ) [(0, .ref (ao 3)), (2, .int x2), (3, .int x3), (4, .int x4), (5, .int x5)] 87 [] := by
  unfold Machine_hasMember_b87 at hf
  refine gw_iconst hC 0 d_Machine_hasMember_87 (by decide) ?_
  refine gw_goto hC 122 d_Machine_hasMember_88 (by decide) ?_
  exact Machine_hasMember_p122 ao aa hC N _ hk23 _ _ _ _ _ _ _ _ hf
def Machine_hasMember_b73 (N : Nat) (k23 : Int32 → Int32 → Int32 → Int32 → g_S → Option (Int32 × g_S)) (x2 : Int32) (x3 : Int32) (x4 : Int32) (x5 : Int32) (x6 : Int32) (σ : g_S) : Option (Int32 × g_S) := (Units_inSet N x6 x4 σ).bind fun q77 => if q77.1 = 0 then Machine_hasMember_b87 N k23 x2 x3 x4 x5 q77.2 else Machine_hasMember_b83 N k23 x2 x3 x4 x5 q77.2
theorem Machine_hasMember_p73 (ao aa : Nat → Nat) {X : g_X} (hC : gC X c_Machine_hasMember R_Machine 3 61 9 (some .boolean)) (N : Nat) (k23 : Int32 → Int32 → Int32 → Int32 → g_S → Option (Int32 × g_S)) (hk23 : ∀ (x2 : Int32) (x3 : Int32) (x4 : Int32) (x5 : Int32) (σ : g_S) (r : Int32) (σe : g_S), k23 x2 x3 x4 x5 σ = some (r, σe) → gw X (.inl (some (.int r))) (LC ao aa X.2.2.1 σe) (LC ao aa X.2.2.1 σ) [(0, .ref (ao 3)), (2, .int x2), (3, .int x3), (4, .int x4), (5, .int x5)] 23 []) (x2 : Int32) (x3 : Int32) (x4 : Int32) (x5 : Int32) (x6 : Int32) (σ : g_S) (r : Int32) (σe : g_S) (hf : Machine_hasMember_b73 N k23 x2 x3 x4 x5 x6 σ = some (r, σe)) : gw X (.inl (some (.int r))) (LC ao aa X.2.2.1 σe) (LC ao aa X.2.2.1 σ) [(0, .ref (ao 3)), (2, .int x2), (3, .int x3), (4, .int x4), (5, .int x5), (6, .int x6)] 73 [] := by
  unfold Machine_hasMember_b73 at hf
  refine gw_iload hC 5 d_Machine_hasMember_73 rfl ?_
  refine gw_iload hC 3 d_Machine_hasMember_75 rfl ?_
  obtain ⟨q77, hq77, hf⟩ := g_bind hf
  refine gw_callS hC [.int x6, .int x4] [] (Units_inSet_m _ _ _ ao aa N _ _ _ _ _ hq77) kc_Machine_168 ⟨by decide, by decide⟩ (Nat.le_of_ble_eq_true rfl) [.int x4, .int x6] [.int q77.1] rfl rfl d_Machine_hasMember_77 ?_
  refine gw_if_eq hC 87 d_Machine_hasMember_80 (by decide) (fun hh => ?_) (fun hh => ?_)
  · rw [if_pos hh] at hf
    refine gw_lv [0, 1, 2, 3, 4] rfl ?_
    exact Machine_hasMember_p87 ao aa hC N _ hk23 _ _ _ _ _ _ _ hf
  · rw [if_neg hh] at hf
    refine gw_lv [0, 1, 2, 3, 4] rfl ?_
    exact Machine_hasMember_p83 ao aa hC N _ hk23 _ _ _ _ _ _ _ hf
def Machine_hasMember_b64 (N : Nat) (k23 : Int32 → Int32 → Int32 → Int32 → g_S → Option (Int32 × g_S)) (x2 : Int32) (x3 : Int32) (x4 : Int32) (x5 : Int32) (x6 : Int32) (σ : g_S) : Option (Int32 × g_S) := (Units_inSet N x6 x3 σ).bind fun q67 => if q67.1 = 0 then Machine_hasMember_b73 N k23 x2 x3 x4 x5 x6 q67.2 else Machine_hasMember_b83 N k23 x2 x3 x4 x5 q67.2
theorem Machine_hasMember_p64 (ao aa : Nat → Nat) {X : g_X} (hC : gC X c_Machine_hasMember R_Machine 3 61 9 (some .boolean)) (N : Nat) (k23 : Int32 → Int32 → Int32 → Int32 → g_S → Option (Int32 × g_S)) (hk23 : ∀ (x2 : Int32) (x3 : Int32) (x4 : Int32) (x5 : Int32) (σ : g_S) (r : Int32) (σe : g_S), k23 x2 x3 x4 x5 σ = some (r, σe) → gw X (.inl (some (.int r))) (LC ao aa X.2.2.1 σe) (LC ao aa X.2.2.1 σ) [(0, .ref (ao 3)), (2, .int x2), (3, .int x3), (4, .int x4), (5, .int x5)] 23 []) (x2 : Int32) (x3 : Int32) (x4 : Int32) (x5 : Int32) (x6 : Int32) (σ : g_S) (r : Int32) (σe : g_S) (hf : Machine_hasMember_b64 N k23 x2 x3 x4 x5 x6 σ = some (r, σe)) : gw X (.inl (some (.int r))) (LC ao aa X.2.2.1 σe) (LC ao aa X.2.2.1 σ) [(0, .ref (ao 3)), (2, .int x2), (3, .int x3), (4, .int x4), (5, .int x5), (6, .int x6)] 64 [] := by
  unfold Machine_hasMember_b64 at hf
  refine gw_iload hC 5 d_Machine_hasMember_64 rfl ?_
  refine gw_iload_n hC 2 d_Machine_hasMember_66 rfl rfl ?_
  obtain ⟨q67, hq67, hf⟩ := g_bind hf
  refine gw_callS hC [.int x6, .int x3] [] (Units_inSet_m _ _ _ ao aa N _ _ _ _ _ hq67) kc_Machine_168 ⟨by decide, by decide⟩ (Nat.le_of_ble_eq_true rfl) [.int x3, .int x6] [.int q67.1] rfl rfl d_Machine_hasMember_67 ?_
  refine gw_if_ne hC 83 d_Machine_hasMember_70 (by decide) (fun hh => ?_) (fun hh => ?_)
  · rw [if_neg hh] at hf
    refine gw_lv [0, 1, 2, 3, 4] rfl ?_
    exact Machine_hasMember_p83 ao aa hC N _ hk23 _ _ _ _ _ _ _ hf
  · rw [if_pos hh] at hf
    exact Machine_hasMember_p73 ao aa hC N _ hk23 _ _ _ _ _ _ _ _ hf
def Machine_hasMember_b29 (N : Nat) (k23 : Int32 → Int32 → Int32 → Int32 → g_S → Option (Int32 × g_S)) (x2 : Int32) (x3 : Int32) (x4 : Int32) (x5 : Int32) (σ : g_S) : Option (Int32 × g_S) := (Rows_read N 5 x5 σ).bind fun q38 => (Rows_read N 6 x5 q38.2).bind fun q52 => if q38.1 < 65536 then Machine_hasMember_b91 N k23 x2 x3 x4 x5 q38.1 q52.1 q52.2 else Machine_hasMember_b64 N k23 x2 x3 x4 x5 q38.1 q52.2
theorem Machine_hasMember_p29 (ao aa : Nat → Nat) {X : g_X} (hC : gC X c_Machine_hasMember R_Machine 3 61 9 (some .boolean)) (N : Nat) (k23 : Int32 → Int32 → Int32 → Int32 → g_S → Option (Int32 × g_S)) (hk23 : ∀ (x2 : Int32) (x3 : Int32) (x4 : Int32) (x5 : Int32) (σ : g_S) (r : Int32) (σe : g_S), k23 x2 x3 x4 x5 σ = some (r, σe) → gw X (.inl (some (.int r))) (LC ao aa X.2.2.1 σe) (LC ao aa X.2.2.1 σ) [(0, .ref (ao 3)), (2, .int x2), (3, .int x3), (4, .int x4), (5, .int x5)] 23 []) (x2 : Int32) (x3 : Int32) (x4 : Int32) (x5 : Int32) (σ : g_S) (r : Int32) (σe : g_S) (hf : Machine_hasMember_b29 N k23 x2 x3 x4 x5 σ = some (r, σe)) : gw X (.inl (some (.int r))) (LC ao aa X.2.2.1 σe) (LC ao aa X.2.2.1 σ) [(0, .ref (ao 3)), (2, .int x2), (3, .int x3), (4, .int x4), (5, .int x5)] 29 [] := by
  unfold Machine_hasMember_b29 at hf
  refine gw_aload_n hC 0 d_Machine_hasMember_29 rfl rfl ?_
  refine Cr_Machine_program hC kf_Machine_39 d_Machine_hasMember_30 ?_
  refine Cr_Program_low hC kf_Machine_186 d_Machine_hasMember_33 ?_
  refine gw_iload hC 4 d_Machine_hasMember_36 rfl ?_
  obtain ⟨q38, hq38, hf⟩ := g_bind hf
  refine gw_callS hC [.ref (aa 5), .int x5] [] (Rows_read_m _ _ _ ao aa N _ _ _ _ _ hq38) kc_Machine_43 ⟨by decide, by decide⟩ (Nat.le_of_ble_eq_true rfl) [.int x5, .ref (aa 5)] [.int q38.1] rfl rfl d_Machine_hasMember_38 ?_
  refine gw_istore hC [(6, .int q38.1), (0, .ref (ao 3)), (2, .int x2), (3, .int x3), (4, .int x4), (5, .int x5)] d_Machine_hasMember_41 (by decide) rfl ?_
  refine gw_aload_n hC 1 d_Machine_hasMember_43 rfl rfl ?_
  refine Cr_Machine_program hC kf_Machine_39 d_Machine_hasMember_44 ?_
  refine Cr_Program_high hC kf_Machine_189 d_Machine_hasMember_47 ?_
  refine gw_iload hC 5 d_Machine_hasMember_50 rfl ?_
  obtain ⟨q52, hq52, hf⟩ := g_bind hf
  refine gw_callS hC [.ref (aa 6), .int x5] [] (Rows_read_m _ _ _ ao aa N _ _ _ _ _ hq52) kc_Machine_43 ⟨by decide, by decide⟩ (Nat.le_of_ble_eq_true rfl) [.int x5, .ref (aa 6)] [.int q52.1] rfl rfl d_Machine_hasMember_52 ?_
  refine gw_istore hC [(7, .int q52.1), (6, .int q38.1), (0, .ref (ao 3)), (2, .int x2), (3, .int x3), (4, .int x4), (5, .int x5)] d_Machine_hasMember_55 (by decide) rfl ?_
  refine gw_iload hC 1 d_Machine_hasMember_57 rfl ?_
  refine gw_ldc hC 65536 kn_Machine_192 d_Machine_hasMember_59 ?_
  refine gw_icmp_lt hC 91 d_Machine_hasMember_61 (by decide) (fun hh => ?_) (fun hh => ?_)
  · rw [if_pos hh] at hf
    refine gw_lv [2, 3, 4, 5, 6, 1, 0] rfl ?_
    exact Machine_hasMember_p91 ao aa hC N _ hk23 _ _ _ _ _ _ _ _ _ hf
  · rw [if_neg hh] at hf
    refine gw_lv [2, 3, 4, 5, 6, 1] rfl ?_
    exact Machine_hasMember_p64 ao aa hC N _ hk23 _ _ _ _ _ _ _ _ hf
def Machine_hasMember_b23 (N : Nat) (k23 : Int32 → Int32 → Int32 → Int32 → g_S → Option (Int32 × g_S)) (x2 : Int32) (x3 : Int32) (x4 : Int32) (x5 : Int32) (σ : g_S) : Option (Int32 × g_S) := if x2 ≤ x5 then Machine_hasMember_b137 N σ else Machine_hasMember_b29 N k23 x2 x3 x4 x5 σ
theorem Machine_hasMember_p23 (ao aa : Nat → Nat) {X : g_X} (hC : gC X c_Machine_hasMember R_Machine 3 61 9 (some .boolean)) (N : Nat) (k23 : Int32 → Int32 → Int32 → Int32 → g_S → Option (Int32 × g_S)) (hk23 : ∀ (x2 : Int32) (x3 : Int32) (x4 : Int32) (x5 : Int32) (σ : g_S) (r : Int32) (σe : g_S), k23 x2 x3 x4 x5 σ = some (r, σe) → gw X (.inl (some (.int r))) (LC ao aa X.2.2.1 σe) (LC ao aa X.2.2.1 σ) [(0, .ref (ao 3)), (2, .int x2), (3, .int x3), (4, .int x4), (5, .int x5)] 23 []) (x2 : Int32) (x3 : Int32) (x4 : Int32) (x5 : Int32) (σ : g_S) (r : Int32) (σe : g_S) (hf : Machine_hasMember_b23 N k23 x2 x3 x4 x5 σ = some (r, σe)) : gw X (.inl (some (.int r))) (LC ao aa X.2.2.1 σe) (LC ao aa X.2.2.1 σ) [(0, .ref (ao 3)), (2, .int x2), (3, .int x3), (4, .int x4), (5, .int x5)] 23 [] := by
  unfold Machine_hasMember_b23 at hf
  refine gw_iload hC 4 d_Machine_hasMember_23 rfl ?_
  refine gw_iload_n hC 1 d_Machine_hasMember_25 rfl rfl ?_
  refine gw_icmp_ge hC 137 d_Machine_hasMember_26 (by decide) (fun hh => ?_) (fun hh => ?_)
  · rw [if_pos hh] at hf
    refine gw_lv [0] rfl ?_
    exact Machine_hasMember_p137 ao aa hC N _ _ _ hf
  · rw [if_neg hh] at hf
    exact Machine_hasMember_p29 ao aa hC N _ hk23 _ _ _ _ _ _ _ hf
def Machine_hasMember_l23 (N : Nat) : Nat → Int32 → Int32 → Int32 → Int32 → g_S → Option (Int32 × g_S)
  | 0 => fun _ _ _ _ _ => none
  | n + 1 => fun x2 x3 x4 x5 σ => Machine_hasMember_b23 N (Machine_hasMember_l23 N n) x2 x3 x4 x5 σ
theorem Machine_hasMember_q23 (ao aa : Nat → Nat) {X : g_X} (hC : gC X c_Machine_hasMember R_Machine 3 61 9 (some .boolean)) (N : Nat) (n : Nat) : ∀ (x2 : Int32) (x3 : Int32) (x4 : Int32) (x5 : Int32) (σ : g_S) (r : Int32) (σe : g_S), Machine_hasMember_l23 N n x2 x3 x4 x5 σ = some (r, σe) → gw X (.inl (some (.int r))) (LC ao aa X.2.2.1 σe) (LC ao aa X.2.2.1 σ) [(0, .ref (ao 3)), (2, .int x2), (3, .int x3), (4, .int x4), (5, .int x5)] 23 [] := by
  induction n with
  | zero => intro x2 x3 x4 x5 σ r σe hf; cases hf
  | succ n ih => intro x2 x3 x4 x5 σ r σe hf; exact Machine_hasMember_p23 ao aa hC N _ (fun x2 x3 x4 x5 σ r2 σ2 h2 => ih x2 x3 x4 x5 σ r2 σ2 h2) x2 x3 x4 x5 σ r σe hf
def Machine_hasMember_b18 (N : Nat) (x1 : Int32) (x2 : Int32) (x3 : Int32) (s0 : Int32) (σ : g_S) : Option (Int32 × g_S) := Machine_hasMember_l23 N N x2 x3 s0 x1 σ
theorem Machine_hasMember_p18 (ao aa : Nat → Nat) {X : g_X} (hC : gC X c_Machine_hasMember R_Machine 3 61 9 (some .boolean)) (N : Nat) (x1 : Int32) (x2 : Int32) (x3 : Int32) (s0 : Int32) (σ : g_S) (r : Int32) (σe : g_S) (hf : Machine_hasMember_b18 N x1 x2 x3 s0 σ = some (r, σe)) : gw X (.inl (some (.int r))) (LC ao aa X.2.2.1 σe) (LC ao aa X.2.2.1 σ) [(0, .ref (ao 3)), (1, .int x1), (2, .int x2), (3, .int x3)] 18 [.int s0] := by
  unfold Machine_hasMember_b18 at hf
  refine gw_istore hC [(4, .int s0), (0, .ref (ao 3)), (1, .int x1), (2, .int x2), (3, .int x3)] d_Machine_hasMember_18 (by decide) rfl ?_
  refine gw_iload_n hC 2 d_Machine_hasMember_20 rfl rfl ?_
  refine gw_istore hC [(5, .int x1), (4, .int s0), (0, .ref (ao 3)), (1, .int x1), (2, .int x2), (3, .int x3)] d_Machine_hasMember_21 (by decide) rfl ?_
  refine gw_lv [2, 4, 5, 1, 0] rfl ?_
  exact Machine_hasMember_q23 ao aa hC N N _ _ _ _ _ _ _ hf
def Machine_hasMember_b17 (N : Nat) (x1 : Int32) (x2 : Int32) (x3 : Int32) (σ : g_S) : Option (Int32 × g_S) := Machine_hasMember_b18 N x1 x2 x3 x3 σ
theorem Machine_hasMember_p17 (ao aa : Nat → Nat) {X : g_X} (hC : gC X c_Machine_hasMember R_Machine 3 61 9 (some .boolean)) (N : Nat) (x1 : Int32) (x2 : Int32) (x3 : Int32) (σ : g_S) (r : Int32) (σe : g_S) (hf : Machine_hasMember_b17 N x1 x2 x3 σ = some (r, σe)) : gw X (.inl (some (.int r))) (LC ao aa X.2.2.1 σe) (LC ao aa X.2.2.1 σ) [(0, .ref (ao 3)), (1, .int x1), (2, .int x2), (3, .int x3)] 17 [] := by
  unfold Machine_hasMember_b17 at hf
  refine gw_iload_n hC 3 d_Machine_hasMember_17 rfl rfl ?_
  exact Machine_hasMember_p18 ao aa hC N _ _ _ _ _ _ _ hf
def Machine_hasMember_b10 (N : Nat) (x1 : Int32) (x2 : Int32) (x3 : Int32) (σ : g_S) : Option (Int32 × g_S) := (Units_twin N x3 σ).bind fun q11 => Machine_hasMember_b18 N x1 x2 x3 q11.1 q11.2
theorem Machine_hasMember_p10 (ao aa : Nat → Nat) {X : g_X} (hC : gC X c_Machine_hasMember R_Machine 3 61 9 (some .boolean)) (N : Nat) (x1 : Int32) (x2 : Int32) (x3 : Int32) (σ : g_S) (r : Int32) (σe : g_S) (hf : Machine_hasMember_b10 N x1 x2 x3 σ = some (r, σe)) : gw X (.inl (some (.int r))) (LC ao aa X.2.2.1 σe) (LC ao aa X.2.2.1 σ) [(0, .ref (ao 3)), (1, .int x1), (2, .int x2), (3, .int x3)] 10 [] := by
  unfold Machine_hasMember_b10 at hf
  refine gw_iload_n hC 3 d_Machine_hasMember_10 rfl rfl ?_
  obtain ⟨q11, hq11, hf⟩ := g_bind hf
  refine gw_callS hC [.int x3] [] (Units_twin_m _ _ _ ao aa N _ _ _ _ hq11) kc_Machine_183 ⟨by decide, by decide⟩ (Nat.le_of_ble_eq_true rfl) [.int x3] [.int q11.1] rfl rfl d_Machine_hasMember_11 ?_
  refine gw_goto hC 18 d_Machine_hasMember_14 (by decide) ?_
  exact Machine_hasMember_p18 ao aa hC N _ _ _ _ _ _ _ hf
def Machine_hasMember_b0 (N : Nat) (x1 : Int32) (x2 : Int32) (x3 : Int32) (σ : g_S) : Option (Int32 × g_S) := if (σ.1 9) = 0 then Machine_hasMember_b17 N x1 x2 x3 σ else Machine_hasMember_b10 N x1 x2 x3 σ
theorem Machine_hasMember_p0 (ao aa : Nat → Nat) {X : g_X} (hC : gC X c_Machine_hasMember R_Machine 3 61 9 (some .boolean)) (N : Nat) (x1 : Int32) (x2 : Int32) (x3 : Int32) (σ : g_S) (r : Int32) (σe : g_S) (hf : Machine_hasMember_b0 N x1 x2 x3 σ = some (r, σe)) : gw X (.inl (some (.int r))) (LC ao aa X.2.2.1 σe) (LC ao aa X.2.2.1 σ) [(0, .ref (ao 3)), (1, .int x1), (2, .int x2), (3, .int x3)] 0 [] := by
  unfold Machine_hasMember_b0 at hf
  refine gw_aload_n hC 0 d_Machine_hasMember_0 rfl rfl ?_
  refine Cr_Machine_program hC kf_Machine_39 d_Machine_hasMember_1 ?_
  refine Cg9 hC kf_Machine_177 d_Machine_hasMember_4 (σ.1 9) rfl ?_
  refine gw_if_eq hC 17 d_Machine_hasMember_7 (by decide) (fun hh => ?_) (fun hh => ?_)
  · rw [if_pos hh] at hf
    exact Machine_hasMember_p17 ao aa hC N _ _ _ _ _ _ hf
  · rw [if_neg hh] at hf
    exact Machine_hasMember_p10 ao aa hC N _ _ _ _ _ _ hf
def Machine_hasMember (N : Nat) (x1 : Int32) (x2 : Int32) (x3 : Int32) (σ : g_S) : Option (Int32 × g_S) := Machine_hasMember_b0 N x1 x2 x3 σ
theorem Machine_hasMember_m (l : Launch) (D : va_G) (cA : ClassId) (ao aa : Nat → Nat) (N : Nat) (x1 : Int32) (x2 : Int32) (x3 : Int32) (σ : g_S) (r : Int32) (σe : g_S) (hf : Machine_hasMember N x1 x2 x3 σ = some (r, σe)) : Mt l D cA y_Machine_hasMember c_Machine_hasMember 9 (some .boolean) 3 61 [.ref (ao 3), .int x1, .int x2, .int x3] (LC ao aa cA σ) (some (.int r)) (LC ao aa cA σe) := by
  refine g_met (by decide +kernel) (by simp [lg_sl, Value.category]) (fun X e1 e2 e3 hC => ?_)
  subst e1 e2 e3
  refine gw_lv [0, 1, 2, 3] rfl ?_
  exact Machine_hasMember_p0 ao aa hC N _ _ _ _ (r) _ hf
def Machine_takesUnit_b60 (N : Nat) (x2 : Int32) (x4 : Int32) (σ : g_S) : Option (Int32 × g_S) := (Machine_isSame N x4 x2 σ).bind fun q64 => if gB q64.1 = true then some (q64.1, q64.2) else none
theorem Machine_takesUnit_p60 (ao aa : Nat → Nat) {X : g_X} (hC : gC X c_Machine_takesUnit R_Machine 4 89 5 (some .boolean)) (N : Nat) (x2 : Int32) (x4 : Int32) (σ : g_S) (r : Int32) (σe : g_S) (hf : Machine_takesUnit_b60 N x2 x4 σ = some (r, σe)) : gw X (.inl (some (.int r))) (LC ao aa X.2.2.1 σe) (LC ao aa X.2.2.1 σ) [(0, .ref (ao 3)), (2, .int x2), (4, .int x4)] 60 [] := by
  unfold Machine_takesUnit_b60 at hf
  refine gw_aload_n hC 0 d_Machine_takesUnit_60 rfl rfl ?_
  refine gw_iload hC 2 d_Machine_takesUnit_61 rfl ?_
  refine gw_iload_n hC 1 d_Machine_takesUnit_63 rfl rfl ?_
  obtain ⟨q64, hq64, hf⟩ := g_bind hf
  refine gw_callV hC [.int x4, .int x2] [] (Machine_isSame_m _ _ _ ao aa N _ _ _ _ _ hq64) kc_Machine_165 3 (g_lay_obj rfl) rfl rfl ⟨by decide, by decide⟩ (Nat.le_of_ble_eq_true rfl) [.int x2, .int x4, .ref (ao 3)] [.int q64.1] rfl rfl d_Machine_takesUnit_64 ?_
  obtain ⟨hg67, hf⟩ := g_guard hf
  cases hf
  exact gw_zret hC hg67 d_Machine_takesUnit_67
def Machine_takesUnit_b81 (N : Nat) (s0 : Int32) (σ : g_S) : Option (Int32 × g_S) := if gB s0 = true then some (s0, σ) else none
theorem Machine_takesUnit_p81 (ao aa : Nat → Nat) {X : g_X} (hC : gC X c_Machine_takesUnit R_Machine 4 89 5 (some .boolean)) (N : Nat) (s0 : Int32) (σ : g_S) (r : Int32) (σe : g_S) (hf : Machine_takesUnit_b81 N s0 σ = some (r, σe)) : gw X (.inl (some (.int r))) (LC ao aa X.2.2.1 σe) (LC ao aa X.2.2.1 σ) [(0, .ref (ao 3))] 81 [.int s0] := by
  unfold Machine_takesUnit_b81 at hf
  obtain ⟨hg81, hf⟩ := g_guard hf
  cases hf
  exact gw_zret hC hg81 d_Machine_takesUnit_81
def Machine_takesUnit_b80 (N : Nat) (σ : g_S) : Option (Int32 × g_S) := Machine_takesUnit_b81 N 0 σ
theorem Machine_takesUnit_p80 (ao aa : Nat → Nat) {X : g_X} (hC : gC X c_Machine_takesUnit R_Machine 4 89 5 (some .boolean)) (N : Nat) (σ : g_S) (r : Int32) (σe : g_S) (hf : Machine_takesUnit_b80 N σ = some (r, σe)) : gw X (.inl (some (.int r))) (LC ao aa X.2.2.1 σe) (LC ao aa X.2.2.1 σ) [(0, .ref (ao 3))] 80 [] := by
  unfold Machine_takesUnit_b80 at hf
  refine gw_iconst hC 0 d_Machine_takesUnit_80 (by decide) ?_
  exact Machine_takesUnit_p81 ao aa hC N _ _ _ _ hf
def Machine_takesUnit_b76 (N : Nat) (σ : g_S) : Option (Int32 × g_S) := Machine_takesUnit_b81 N 1 σ
theorem Machine_takesUnit_p76 (ao aa : Nat → Nat) {X : g_X} (hC : gC X c_Machine_takesUnit R_Machine 4 89 5 (some .boolean)) (N : Nat) (σ : g_S) (r : Int32) (σe : g_S) (hf : Machine_takesUnit_b76 N σ = some (r, σe)) : gw X (.inl (some (.int r))) (LC ao aa X.2.2.1 σe) (LC ao aa X.2.2.1 σ) [(0, .ref (ao 3))] 76 [] := by
  unfold Machine_takesUnit_b76 at hf
  refine gw_iconst hC 1 d_Machine_takesUnit_76 (by decide) ?_
  refine gw_goto hC 81 d_Machine_takesUnit_77 (by decide) ?_
  exact Machine_takesUnit_p81 ao aa hC N _ _ _ _ hf
def Machine_takesUnit_b68 (N : Nat) (x4 : Int32) (σ : g_S) : Option (Int32 × g_S) := (Units_isLineEnd N x4 σ).bind fun q70 => if q70.1 = 0 then Machine_takesUnit_b76 N q70.2 else Machine_takesUnit_b80 N q70.2
theorem Machine_takesUnit_p68 (ao aa : Nat → Nat) {X : g_X} (hC : gC X c_Machine_takesUnit R_Machine 4 89 5 (some .boolean)) (N : Nat) (x4 : Int32) (σ : g_S) (r : Int32) (σe : g_S) (hf : Machine_takesUnit_b68 N x4 σ = some (r, σe)) : gw X (.inl (some (.int r))) (LC ao aa X.2.2.1 σe) (LC ao aa X.2.2.1 σ) [(0, .ref (ao 3)), (4, .int x4)] 68 [] := by
  unfold Machine_takesUnit_b68 at hf
  refine gw_iload hC 1 d_Machine_takesUnit_68 rfl ?_
  obtain ⟨q70, hq70, hf⟩ := g_bind hf
  refine gw_callS hC [.int x4] [] (Units_isLineEnd_m _ _ _ ao aa N _ _ _ _ hq70) kc_Machine_153 ⟨by decide, by decide⟩ (Nat.le_of_ble_eq_true rfl) [.int x4] [.int q70.1] rfl rfl d_Machine_takesUnit_70 ?_
  refine gw_if_ne hC 80 d_Machine_takesUnit_73 (by decide) (fun hh => ?_) (fun hh => ?_)
  · rw [if_neg hh] at hf
    refine gw_lv [0] rfl ?_
    exact Machine_takesUnit_p80 ao aa hC N _ _ _ hf
  · rw [if_pos hh] at hf
    refine gw_lv [0] rfl ?_
    exact Machine_takesUnit_p76 ao aa hC N _ _ _ hf
def Machine_takesUnit_b82 (N : Nat) (x2 : Int32) (x4 : Int32) (σ : g_S) : Option (Int32 × g_S) := (Units_inSet N x2 x4 σ).bind fun q85 => if gB q85.1 = true then some (q85.1, q85.2) else none
theorem Machine_takesUnit_p82 (ao aa : Nat → Nat) {X : g_X} (hC : gC X c_Machine_takesUnit R_Machine 4 89 5 (some .boolean)) (N : Nat) (x2 : Int32) (x4 : Int32) (σ : g_S) (r : Int32) (σe : g_S) (hf : Machine_takesUnit_b82 N x2 x4 σ = some (r, σe)) : gw X (.inl (some (.int r))) (LC ao aa X.2.2.1 σe) (LC ao aa X.2.2.1 σ) [(0, .ref (ao 3)), (2, .int x2), (4, .int x4)] 82 [] := by
  unfold Machine_takesUnit_b82 at hf
  refine gw_iload_n hC 1 d_Machine_takesUnit_82 rfl rfl ?_
  refine gw_iload hC 2 d_Machine_takesUnit_83 rfl ?_
  obtain ⟨q85, hq85, hf⟩ := g_bind hf
  refine gw_callS hC [.int x2, .int x4] [] (Units_inSet_m _ _ _ ao aa N _ _ _ _ _ hq85) kc_Machine_168 ⟨by decide, by decide⟩ (Nat.le_of_ble_eq_true rfl) [.int x4, .int x2] [.int q85.1] rfl rfl d_Machine_takesUnit_85 ?_
  obtain ⟨hg88, hf⟩ := g_guard hf
  cases hf
  exact gw_zret hC hg88 d_Machine_takesUnit_88
def Machine_takesUnit_b89 (N : Nat) (x2 : Int32) (x3 : Int32) (x4 : Int32) (σ : g_S) : Option (Int32 × g_S) := (Rows_read N 4 x3 σ).bind fun q99 => (Machine_hasMember N x2 q99.1 x4 q99.2).bind fun q104 => if gB q104.1 = true then some (q104.1, q104.2) else none
theorem Machine_takesUnit_p89 (ao aa : Nat → Nat) {X : g_X} (hC : gC X c_Machine_takesUnit R_Machine 4 89 5 (some .boolean)) (N : Nat) (x2 : Int32) (x3 : Int32) (x4 : Int32) (σ : g_S) (r : Int32) (σe : g_S) (hf : Machine_takesUnit_b89 N x2 x3 x4 σ = some (r, σe)) : gw X (.inl (some (.int r))) (LC ao aa X.2.2.1 σe) (LC ao aa X.2.2.1 σ) [(0, .ref (ao 3)), (2, .int x2), (3, .int x3), (4, .int x4)] 89 [] := by
  unfold Machine_takesUnit_b89 at hf
  refine gw_aload_n hC 0 d_Machine_takesUnit_89 rfl rfl ?_
  refine gw_iload_n hC 1 d_Machine_takesUnit_90 rfl rfl ?_
  refine gw_aload_n hC 0 d_Machine_takesUnit_91 rfl rfl ?_
  refine Cr_Machine_program hC kf_Machine_39 d_Machine_takesUnit_92 ?_
  refine Cr_Program_second hC kf_Machine_171 d_Machine_takesUnit_95 ?_
  refine gw_iload_n hC 2 d_Machine_takesUnit_98 rfl rfl ?_
  obtain ⟨q99, hq99, hf⟩ := g_bind hf
  refine gw_callS hC [.ref (aa 4), .int x3] [.int x2, .ref (ao 3)] (Rows_read_m _ _ _ ao aa N _ _ _ _ _ hq99) kc_Machine_43 ⟨by decide, by decide⟩ (Nat.le_of_ble_eq_true rfl) [.int x3, .ref (aa 4), .int x2, .ref (ao 3)] [.int q99.1, .int x2, .ref (ao 3)] rfl rfl d_Machine_takesUnit_99 ?_
  refine gw_iload hC 3 d_Machine_takesUnit_102 rfl ?_
  obtain ⟨q104, hq104, hf⟩ := g_bind hf
  refine gw_callV hC [.int x2, .int q99.1, .int x4] [] (Machine_hasMember_m _ _ _ ao aa N _ _ _ _ _ _ hq104) kc_Machine_174 3 (g_lay_obj rfl) rfl rfl ⟨by decide, by decide⟩ (Nat.le_of_ble_eq_true rfl) [.int x4, .int q99.1, .int x2, .ref (ao 3)] [.int q104.1] rfl rfl d_Machine_takesUnit_104 ?_
  obtain ⟨hg107, hf⟩ := g_guard hf
  cases hf
  exact gw_zret hC hg107 d_Machine_takesUnit_107
def Machine_takesUnit_b134 (N : Nat) (s0 : Int32) (σ : g_S) : Option (Int32 × g_S) := if gB s0 = true then some (s0, σ) else none
theorem Machine_takesUnit_p134 (ao aa : Nat → Nat) {X : g_X} (hC : gC X c_Machine_takesUnit R_Machine 4 89 5 (some .boolean)) (N : Nat) (s0 : Int32) (σ : g_S) (r : Int32) (σe : g_S) (hf : Machine_takesUnit_b134 N s0 σ = some (r, σe)) : gw X (.inl (some (.int r))) (LC ao aa X.2.2.1 σe) (LC ao aa X.2.2.1 σ) [(0, .ref (ao 3))] 134 [.int s0] := by
  unfold Machine_takesUnit_b134 at hf
  obtain ⟨hg134, hf⟩ := g_guard hf
  cases hf
  exact gw_zret hC hg134 d_Machine_takesUnit_134
def Machine_takesUnit_b133 (N : Nat) (σ : g_S) : Option (Int32 × g_S) := Machine_takesUnit_b134 N 0 σ
theorem Machine_takesUnit_p133 (ao aa : Nat → Nat) {X : g_X} (hC : gC X c_Machine_takesUnit R_Machine 4 89 5 (some .boolean)) (N : Nat) (σ : g_S) (r : Int32) (σe : g_S) (hf : Machine_takesUnit_b133 N σ = some (r, σe)) : gw X (.inl (some (.int r))) (LC ao aa X.2.2.1 σe) (LC ao aa X.2.2.1 σ) [(0, .ref (ao 3))] 133 [] := by
  unfold Machine_takesUnit_b133 at hf
  refine gw_iconst hC 0 d_Machine_takesUnit_133 (by decide) ?_
  exact Machine_takesUnit_p134 ao aa hC N _ _ _ _ hf
def Machine_takesUnit_b129 (N : Nat) (σ : g_S) : Option (Int32 × g_S) := Machine_takesUnit_b134 N 1 σ
theorem Machine_takesUnit_p129 (ao aa : Nat → Nat) {X : g_X} (hC : gC X c_Machine_takesUnit R_Machine 4 89 5 (some .boolean)) (N : Nat) (σ : g_S) (r : Int32) (σe : g_S) (hf : Machine_takesUnit_b129 N σ = some (r, σe)) : gw X (.inl (some (.int r))) (LC ao aa X.2.2.1 σe) (LC ao aa X.2.2.1 σ) [(0, .ref (ao 3))] 129 [] := by
  unfold Machine_takesUnit_b129 at hf
  refine gw_iconst hC 1 d_Machine_takesUnit_129 (by decide) ?_
  refine gw_goto hC 134 d_Machine_takesUnit_130 (by decide) ?_
  exact Machine_takesUnit_p134 ao aa hC N _ _ _ _ hf
def Machine_takesUnit_b108 (N : Nat) (x2 : Int32) (x3 : Int32) (x4 : Int32) (σ : g_S) : Option (Int32 × g_S) := (Rows_read N 4 x3 σ).bind fun q118 => (Machine_hasMember N x2 q118.1 x4 q118.2).bind fun q123 => if q123.1 = 0 then Machine_takesUnit_b129 N q123.2 else Machine_takesUnit_b133 N q123.2
theorem Machine_takesUnit_p108 (ao aa : Nat → Nat) {X : g_X} (hC : gC X c_Machine_takesUnit R_Machine 4 89 5 (some .boolean)) (N : Nat) (x2 : Int32) (x3 : Int32) (x4 : Int32) (σ : g_S) (r : Int32) (σe : g_S) (hf : Machine_takesUnit_b108 N x2 x3 x4 σ = some (r, σe)) : gw X (.inl (some (.int r))) (LC ao aa X.2.2.1 σe) (LC ao aa X.2.2.1 σ) [(0, .ref (ao 3)), (2, .int x2), (3, .int x3), (4, .int x4)] 108 [] := by
  unfold Machine_takesUnit_b108 at hf
  refine gw_aload_n hC 0 d_Machine_takesUnit_108 rfl rfl ?_
  refine gw_iload_n hC 1 d_Machine_takesUnit_109 rfl rfl ?_
  refine gw_aload_n hC 0 d_Machine_takesUnit_110 rfl rfl ?_
  refine Cr_Machine_program hC kf_Machine_39 d_Machine_takesUnit_111 ?_
  refine Cr_Program_second hC kf_Machine_171 d_Machine_takesUnit_114 ?_
  refine gw_iload_n hC 2 d_Machine_takesUnit_117 rfl rfl ?_
  obtain ⟨q118, hq118, hf⟩ := g_bind hf
  refine gw_callS hC [.ref (aa 4), .int x3] [.int x2, .ref (ao 3)] (Rows_read_m _ _ _ ao aa N _ _ _ _ _ hq118) kc_Machine_43 ⟨by decide, by decide⟩ (Nat.le_of_ble_eq_true rfl) [.int x3, .ref (aa 4), .int x2, .ref (ao 3)] [.int q118.1, .int x2, .ref (ao 3)] rfl rfl d_Machine_takesUnit_118 ?_
  refine gw_iload hC 3 d_Machine_takesUnit_121 rfl ?_
  obtain ⟨q123, hq123, hf⟩ := g_bind hf
  refine gw_callV hC [.int x2, .int q118.1, .int x4] [] (Machine_hasMember_m _ _ _ ao aa N _ _ _ _ _ _ hq123) kc_Machine_174 3 (g_lay_obj rfl) rfl rfl ⟨by decide, by decide⟩ (Nat.le_of_ble_eq_true rfl) [.int x4, .int q118.1, .int x2, .ref (ao 3)] [.int q123.1] rfl rfl d_Machine_takesUnit_123 ?_
  refine gw_if_ne hC 133 d_Machine_takesUnit_126 (by decide) (fun hh => ?_) (fun hh => ?_)
  · rw [if_neg hh] at hf
    refine gw_lv [0] rfl ?_
    exact Machine_takesUnit_p133 ao aa hC N _ _ _ hf
  · rw [if_pos hh] at hf
    refine gw_lv [0] rfl ?_
    exact Machine_takesUnit_p129 ao aa hC N _ _ _ hf
def Machine_takesUnit_b17 (N : Nat) (x1 : Int32) (x2 : Int32) (x3 : Int32) (x4 : Int32) (σ : g_S) : Option (Int32 × g_S) := if x1 = 1 then Machine_takesUnit_b60 N x2 x4 (gF σ 24 ((σ.1 24) + 1)) else if x1 = 2 then Machine_takesUnit_b68 N x4 (gF σ 24 ((σ.1 24) + 1)) else if x1 = 3 then Machine_takesUnit_b82 N x2 x4 (gF σ 24 ((σ.1 24) + 1)) else if x1 = 4 then Machine_takesUnit_b89 N x2 x3 x4 (gF σ 24 ((σ.1 24) + 1)) else Machine_takesUnit_b108 N x2 x3 x4 (gF σ 24 ((σ.1 24) + 1))
theorem Machine_takesUnit_p17 (ao aa : Nat → Nat) {X : g_X} (hC : gC X c_Machine_takesUnit R_Machine 4 89 5 (some .boolean)) (N : Nat) (x1 : Int32) (x2 : Int32) (x3 : Int32) (x4 : Int32) (σ : g_S) (r : Int32) (σe : g_S) (hf : Machine_takesUnit_b17 N x1 x2 x3 x4 σ = some (r, σe)) : gw X (.inl (some (.int r))) (LC ao aa X.2.2.1 σe) (LC ao aa X.2.2.1 σ) [(0, .ref (ao 3)), (1, .int x1), (2, .int x2), (3, .int x3), (4, .int x4)] 17 [] := by
  unfold Machine_takesUnit_b17 at hf
  refine gw_aload_n hC 0 d_Machine_takesUnit_17 rfl rfl ?_
  refine gw_dup hC d_Machine_takesUnit_18 rfl ?_
  refine Cg24 hC kf_Machine_67 d_Machine_takesUnit_19 (σ.1 24) rfl ?_
  refine gw_iconst hC 1 d_Machine_takesUnit_22 (by decide) ?_
  refine gw_iadd hC d_Machine_takesUnit_23 ?_
  refine Cp24 hC kf_Machine_67 d_Machine_takesUnit_24 ?_
  refine gw_iload_n hC 1 d_Machine_takesUnit_27 rfl rfl ?_
  by_cases hh0 : x1 = 1
  · rw [if_pos hh0] at hf
    refine gw_tableIn hC 32 60 d_Machine_takesUnit_28 (by rw [hh0]; decide) (by rw [hh0]; decide) (by rw [hh0]; rfl) (by decide) ?_
    refine gw_lv [0, 2, 4] rfl ?_
    exact Machine_takesUnit_p60 ao aa hC N _ _ _ _ _ hf
  · rw [if_neg hh0] at hf
    by_cases hh1 : x1 = 2
    · rw [if_pos hh1] at hf
      refine gw_tableIn hC 40 68 d_Machine_takesUnit_28 (by rw [hh1]; decide) (by rw [hh1]; decide) (by rw [hh1]; rfl) (by decide) ?_
      refine gw_lv [0, 4] rfl ?_
      exact Machine_takesUnit_p68 ao aa hC N _ _ _ _ hf
    · rw [if_neg hh1] at hf
      by_cases hh2 : x1 = 3
      · rw [if_pos hh2] at hf
        refine gw_tableIn hC 54 82 d_Machine_takesUnit_28 (by rw [hh2]; decide) (by rw [hh2]; decide) (by rw [hh2]; rfl) (by decide) ?_
        refine gw_lv [0, 2, 4] rfl ?_
        exact Machine_takesUnit_p82 ao aa hC N _ _ _ _ _ hf
      · rw [if_neg hh2] at hf
        by_cases hh3 : x1 = 4
        · rw [if_pos hh3] at hf
          refine gw_tableIn hC 61 89 d_Machine_takesUnit_28 (by rw [hh3]; decide) (by rw [hh3]; decide) (by rw [hh3]; rfl) (by decide) ?_
          refine gw_lv [0, 2, 3, 4] rfl ?_
          exact Machine_takesUnit_p89 ao aa hC N _ _ _ _ _ _ hf
        · rw [if_neg hh3] at hf
          have hto : (x1).toInt < 1 ∨ 4 < (x1).toInt := by
            refine g_tb ?_
            intro k h1 h2 hx
            obtain rfl | rfl | rfl | rfl : k = 1 ∨ k = 2 ∨ k = 3 ∨ k = 4 := by omega
            · exact hh0 (g_i hx)
            · exact hh1 (g_i hx)
            · exact hh2 (g_i hx)
            · exact hh3 (g_i hx)
          refine gw_tableOut hC 108 d_Machine_takesUnit_28 hto (by decide) ?_
          refine gw_lv [0, 2, 3, 4] rfl ?_
          exact Machine_takesUnit_p108 ao aa hC N _ _ _ _ _ _ hf
def Machine_takesUnit_b15 (N : Nat) (σ : g_S) : Option (Int32 × g_S) := some (0, σ)
theorem Machine_takesUnit_p15 (ao aa : Nat → Nat) {X : g_X} (hC : gC X c_Machine_takesUnit R_Machine 4 89 5 (some .boolean)) (N : Nat) (σ : g_S) (r : Int32) (σe : g_S) (hf : Machine_takesUnit_b15 N σ = some (r, σe)) : gw X (.inl (some (.int r))) (LC ao aa X.2.2.1 σe) (LC ao aa X.2.2.1 σ) [(0, .ref (ao 3))] 15 [] := by
  unfold Machine_takesUnit_b15 at hf
  refine gw_iconst hC 0 d_Machine_takesUnit_15 (by decide) ?_
  cases hf
  exact gw_zret hC (by decide) d_Machine_takesUnit_16
def Machine_takesUnit_b0 (N : Nat) (x1 : Int32) (x2 : Int32) (x3 : Int32) (σ : g_S) : Option (Int32 × g_S) := (Machine_unitAt N (σ.1 24) σ).bind fun q5 => if 0 ≤ q5.1 then Machine_takesUnit_b17 N x1 x2 x3 q5.1 q5.2 else Machine_takesUnit_b15 N q5.2
theorem Machine_takesUnit_p0 (ao aa : Nat → Nat) {X : g_X} (hC : gC X c_Machine_takesUnit R_Machine 4 89 5 (some .boolean)) (N : Nat) (x1 : Int32) (x2 : Int32) (x3 : Int32) (σ : g_S) (r : Int32) (σe : g_S) (hf : Machine_takesUnit_b0 N x1 x2 x3 σ = some (r, σe)) : gw X (.inl (some (.int r))) (LC ao aa X.2.2.1 σe) (LC ao aa X.2.2.1 σ) [(0, .ref (ao 3)), (1, .int x1), (2, .int x2), (3, .int x3)] 0 [] := by
  unfold Machine_takesUnit_b0 at hf
  refine gw_aload_n hC 0 d_Machine_takesUnit_0 rfl rfl ?_
  refine gw_aload_n hC 0 d_Machine_takesUnit_1 rfl rfl ?_
  refine Cg24 hC kf_Machine_67 d_Machine_takesUnit_2 (σ.1 24) rfl ?_
  obtain ⟨q5, hq5, hf⟩ := g_bind hf
  refine gw_callV hC [.int (σ.1 24)] [] (Machine_unitAt_m _ _ _ ao aa N _ _ _ _ hq5) kc_Machine_150 3 (g_lay_obj rfl) rfl rfl ⟨by decide, by decide⟩ (Nat.le_of_ble_eq_true rfl) [.int (σ.1 24), .ref (ao 3)] [.int q5.1] rfl rfl d_Machine_takesUnit_5 ?_
  refine gw_istore hC [(4, .int q5.1), (0, .ref (ao 3)), (1, .int x1), (2, .int x2), (3, .int x3)] d_Machine_takesUnit_8 (by decide) rfl ?_
  refine gw_iload hC 0 d_Machine_takesUnit_10 rfl ?_
  refine gw_if_ge hC 17 d_Machine_takesUnit_12 (by decide) (fun hh => ?_) (fun hh => ?_)
  · rw [if_pos hh] at hf
    refine gw_lv [1, 2, 3, 4, 0] rfl ?_
    exact Machine_takesUnit_p17 ao aa hC N _ _ _ _ _ _ _ hf
  · rw [if_neg hh] at hf
    refine gw_lv [1] rfl ?_
    exact Machine_takesUnit_p15 ao aa hC N _ _ _ hf
def Machine_takesUnit (N : Nat) (x1 : Int32) (x2 : Int32) (x3 : Int32) (σ : g_S) : Option (Int32 × g_S) := Machine_takesUnit_b0 N x1 x2 x3 σ
theorem Machine_takesUnit_m (l : Launch) (D : va_G) (cA : ClassId) (ao aa : Nat → Nat) (N : Nat) (x1 : Int32) (x2 : Int32) (x3 : Int32) (σ : g_S) (r : Int32) (σe : g_S) (hf : Machine_takesUnit N x1 x2 x3 σ = some (r, σe)) : Mt l D cA y_Machine_takesUnit c_Machine_takesUnit 5 (some .boolean) 4 89 [.ref (ao 3), .int x1, .int x2, .int x3] (LC ao aa cA σ) (some (.int r)) (LC ao aa cA σe) := by
  refine g_met (by decide +kernel) (by simp [lg_sl, Value.category]) (fun X e1 e2 e3 hC => ?_)
  subst e1 e2 e3
  refine gw_lv [0, 1, 2, 3] rfl ?_
  exact Machine_takesUnit_p0 ao aa hC N _ _ _ _ (r) _ hf
def Machine_takesGroupAgain_b89 (N : Nat) (x3 : Int32) (σ : g_S) : Option (Int32 × g_S) := some (1, (gF σ 24 ((σ.1 24) + x3)))
theorem Machine_takesGroupAgain_p89 (ao aa : Nat → Nat) {X : g_X} (hC : gC X c_Machine_takesGroupAgain R_Machine 2 42 5 (some .boolean)) (N : Nat) (x3 : Int32) (σ : g_S) (r : Int32) (σe : g_S) (hf : Machine_takesGroupAgain_b89 N x3 σ = some (r, σe)) : gw X (.inl (some (.int r))) (LC ao aa X.2.2.1 σe) (LC ao aa X.2.2.1 σ) [(0, .ref (ao 3)), (3, .int x3)] 89 [] := by
  unfold Machine_takesGroupAgain_b89 at hf
  refine gw_aload_n hC 0 d_Machine_takesGroupAgain_89 rfl rfl ?_
  refine gw_dup hC d_Machine_takesGroupAgain_90 rfl ?_
  refine Cg24 hC kf_Machine_67 d_Machine_takesGroupAgain_91 (σ.1 24) rfl ?_
  refine gw_iload_n hC 1 d_Machine_takesGroupAgain_94 rfl rfl ?_
  refine gw_iadd hC d_Machine_takesGroupAgain_95 ?_
  refine Cp24 hC kf_Machine_67 d_Machine_takesGroupAgain_96 ?_
  refine gw_iconst hC 1 d_Machine_takesGroupAgain_99 (by decide) ?_
  cases hf
  exact gw_zret hC (by decide) d_Machine_takesGroupAgain_100
def Machine_takesGroupAgain_b83 (N : Nat) (k49 : Int32 → Int32 → Int32 → g_S → Option (Int32 × g_S)) (x2 : Int32) (x3 : Int32) (x4 : Int32) (σ : g_S) : Option (Int32 × g_S) := k49 x2 x3 (x4 + 1) σ
theorem Machine_takesGroupAgain_p83 (ao aa : Nat → Nat) {X : g_X} (hC : gC X c_Machine_takesGroupAgain R_Machine 2 42 5 (some .boolean)) (N : Nat) (k49 : Int32 → Int32 → Int32 → g_S → Option (Int32 × g_S)) (hk49 : ∀ (x2 : Int32) (x3 : Int32) (x4 : Int32) (σ : g_S) (r : Int32) (σe : g_S), k49 x2 x3 x4 σ = some (r, σe) → gw X (.inl (some (.int r))) (LC ao aa X.2.2.1 σe) (LC ao aa X.2.2.1 σ) [(0, .ref (ao 3)), (2, .int x2), (3, .int x3), (4, .int x4)] 49 []) (x2 : Int32) (x3 : Int32) (x4 : Int32) (σ : g_S) (r : Int32) (σe : g_S) (hf : Machine_takesGroupAgain_b83 N k49 x2 x3 x4 σ = some (r, σe)) : gw X (.inl (some (.int r))) (LC ao aa X.2.2.1 σe) (LC ao aa X.2.2.1 σ) [(0, .ref (ao 3)), (2, .int x2), (3, .int x3), (4, .int x4)] 83 [] := by
  unfold Machine_takesGroupAgain_b83 at hf
  refine gw_iinc hC (x4 + 1) 3 [(4, .int (x4 + 1)), (0, .ref (ao 3)), (2, .int x2), (3, .int x3)] d_Machine_takesGroupAgain_83 rfl rfl (by decide) rfl ?_
  refine gw_goto hC 49 d_Machine_takesGroupAgain_86 (by decide) ?_
  refine gw_lv [1, 2, 3, 0] rfl ?_
  exact hk49 _ _ _ _ _ _ hf
def Machine_takesGroupAgain_b81 (N : Nat) (σ : g_S) : Option (Int32 × g_S) := some (0, σ)
theorem Machine_takesGroupAgain_p81 (ao aa : Nat → Nat) {X : g_X} (hC : gC X c_Machine_takesGroupAgain R_Machine 2 42 5 (some .boolean)) (N : Nat) (σ : g_S) (r : Int32) (σe : g_S) (hf : Machine_takesGroupAgain_b81 N σ = some (r, σe)) : gw X (.inl (some (.int r))) (LC ao aa X.2.2.1 σe) (LC ao aa X.2.2.1 σ) [(0, .ref (ao 3))] 81 [] := by
  unfold Machine_takesGroupAgain_b81 at hf
  refine gw_iconst hC 0 d_Machine_takesGroupAgain_81 (by decide) ?_
  cases hf
  exact gw_zret hC (by decide) d_Machine_takesGroupAgain_82
def Machine_takesGroupAgain_b55 (N : Nat) (k49 : Int32 → Int32 → Int32 → g_S → Option (Int32 × g_S)) (x2 : Int32) (x3 : Int32) (x4 : Int32) (σ : g_S) : Option (Int32 × g_S) := (Machine_unitAt N (x2 + x4) σ).bind fun q61 => (Machine_unitAt N ((q61.2.1 24) + x4) q61.2).bind fun q72 => (Machine_isSame N q61.1 q72.1 q72.2).bind fun q75 => if q75.1 = 0 then Machine_takesGroupAgain_b81 N q75.2 else Machine_takesGroupAgain_b83 N k49 x2 x3 x4 q75.2
theorem Machine_takesGroupAgain_p55 (ao aa : Nat → Nat) {X : g_X} (hC : gC X c_Machine_takesGroupAgain R_Machine 2 42 5 (some .boolean)) (N : Nat) (k49 : Int32 → Int32 → Int32 → g_S → Option (Int32 × g_S)) (hk49 : ∀ (x2 : Int32) (x3 : Int32) (x4 : Int32) (σ : g_S) (r : Int32) (σe : g_S), k49 x2 x3 x4 σ = some (r, σe) → gw X (.inl (some (.int r))) (LC ao aa X.2.2.1 σe) (LC ao aa X.2.2.1 σ) [(0, .ref (ao 3)), (2, .int x2), (3, .int x3), (4, .int x4)] 49 []) (x2 : Int32) (x3 : Int32) (x4 : Int32) (σ : g_S) (r : Int32) (σe : g_S) (hf : Machine_takesGroupAgain_b55 N k49 x2 x3 x4 σ = some (r, σe)) : gw X (.inl (some (.int r))) (LC ao aa X.2.2.1 σe) (LC ao aa X.2.2.1 σ) [(0, .ref (ao 3)), (2, .int x2), (3, .int x3), (4, .int x4)] 55 [] := by
  unfold Machine_takesGroupAgain_b55 at hf
  refine gw_aload_n hC 0 d_Machine_takesGroupAgain_55 rfl rfl ?_
  refine gw_aload_n hC 0 d_Machine_takesGroupAgain_56 rfl rfl ?_
  refine gw_iload_n hC 1 d_Machine_takesGroupAgain_57 rfl rfl ?_
  refine gw_iload hC 3 d_Machine_takesGroupAgain_58 rfl ?_
  refine gw_iadd hC d_Machine_takesGroupAgain_60 ?_
  obtain ⟨q61, hq61, hf⟩ := g_bind hf
  refine gw_callV hC [.int (x2 + x4)] [.ref (ao 3)] (Machine_unitAt_m _ _ _ ao aa N _ _ _ _ hq61) kc_Machine_150 3 (g_lay_obj rfl) rfl rfl ⟨by decide, by decide⟩ (Nat.le_of_ble_eq_true rfl) [.int (x2 + x4), .ref (ao 3), .ref (ao 3)] [.int q61.1, .ref (ao 3)] rfl rfl d_Machine_takesGroupAgain_61 ?_
  refine gw_aload_n hC 0 d_Machine_takesGroupAgain_64 rfl rfl ?_
  refine gw_aload_n hC 0 d_Machine_takesGroupAgain_65 rfl rfl ?_
  refine Cg24 hC kf_Machine_67 d_Machine_takesGroupAgain_66 (q61.2.1 24) rfl ?_
  refine gw_iload hC 3 d_Machine_takesGroupAgain_69 rfl ?_
  refine gw_iadd hC d_Machine_takesGroupAgain_71 ?_
  obtain ⟨q72, hq72, hf⟩ := g_bind hf
  refine gw_callV hC [.int ((q61.2.1 24) + x4)] [.int q61.1, .ref (ao 3)] (Machine_unitAt_m _ _ _ ao aa N _ _ _ _ hq72) kc_Machine_150 3 (g_lay_obj rfl) rfl rfl ⟨by decide, by decide⟩ (Nat.le_of_ble_eq_true rfl) [.int ((q61.2.1 24) + x4), .ref (ao 3), .int q61.1, .ref (ao 3)] [.int q72.1, .int q61.1, .ref (ao 3)] rfl rfl d_Machine_takesGroupAgain_72 ?_
  obtain ⟨q75, hq75, hf⟩ := g_bind hf
  refine gw_callV hC [.int q61.1, .int q72.1] [] (Machine_isSame_m _ _ _ ao aa N _ _ _ _ _ hq75) kc_Machine_165 3 (g_lay_obj rfl) rfl rfl ⟨by decide, by decide⟩ (Nat.le_of_ble_eq_true rfl) [.int q72.1, .int q61.1, .ref (ao 3)] [.int q75.1] rfl rfl d_Machine_takesGroupAgain_75 ?_
  refine gw_if_ne hC 83 d_Machine_takesGroupAgain_78 (by decide) (fun hh => ?_) (fun hh => ?_)
  · rw [if_neg hh] at hf
    exact Machine_takesGroupAgain_p83 ao aa hC N _ hk49 _ _ _ _ _ _ hf
  · rw [if_pos hh] at hf
    refine gw_lv [0] rfl ?_
    exact Machine_takesGroupAgain_p81 ao aa hC N _ _ _ hf
def Machine_takesGroupAgain_b49 (N : Nat) (k49 : Int32 → Int32 → Int32 → g_S → Option (Int32 × g_S)) (x2 : Int32) (x3 : Int32) (x4 : Int32) (σ : g_S) : Option (Int32 × g_S) := if x3 ≤ x4 then Machine_takesGroupAgain_b89 N x3 σ else Machine_takesGroupAgain_b55 N k49 x2 x3 x4 σ
theorem Machine_takesGroupAgain_p49 (ao aa : Nat → Nat) {X : g_X} (hC : gC X c_Machine_takesGroupAgain R_Machine 2 42 5 (some .boolean)) (N : Nat) (k49 : Int32 → Int32 → Int32 → g_S → Option (Int32 × g_S)) (hk49 : ∀ (x2 : Int32) (x3 : Int32) (x4 : Int32) (σ : g_S) (r : Int32) (σe : g_S), k49 x2 x3 x4 σ = some (r, σe) → gw X (.inl (some (.int r))) (LC ao aa X.2.2.1 σe) (LC ao aa X.2.2.1 σ) [(0, .ref (ao 3)), (2, .int x2), (3, .int x3), (4, .int x4)] 49 []) (x2 : Int32) (x3 : Int32) (x4 : Int32) (σ : g_S) (r : Int32) (σe : g_S) (hf : Machine_takesGroupAgain_b49 N k49 x2 x3 x4 σ = some (r, σe)) : gw X (.inl (some (.int r))) (LC ao aa X.2.2.1 σe) (LC ao aa X.2.2.1 σ) [(0, .ref (ao 3)), (2, .int x2), (3, .int x3), (4, .int x4)] 49 [] := by
  unfold Machine_takesGroupAgain_b49 at hf
  refine gw_iload hC 3 d_Machine_takesGroupAgain_49 rfl ?_
  refine gw_iload_n hC 2 d_Machine_takesGroupAgain_51 rfl rfl ?_
  refine gw_icmp_ge hC 89 d_Machine_takesGroupAgain_52 (by decide) (fun hh => ?_) (fun hh => ?_)
  · rw [if_pos hh] at hf
    refine gw_lv [0, 2] rfl ?_
    exact Machine_takesGroupAgain_p89 ao aa hC N _ _ _ _ hf
  · rw [if_neg hh] at hf
    exact Machine_takesGroupAgain_p55 ao aa hC N _ hk49 _ _ _ _ _ _ hf
def Machine_takesGroupAgain_l49 (N : Nat) : Nat → Int32 → Int32 → Int32 → g_S → Option (Int32 × g_S)
  | 0 => fun _ _ _ _ => none
  | n + 1 => fun x2 x3 x4 σ => Machine_takesGroupAgain_b49 N (Machine_takesGroupAgain_l49 N n) x2 x3 x4 σ
theorem Machine_takesGroupAgain_q49 (ao aa : Nat → Nat) {X : g_X} (hC : gC X c_Machine_takesGroupAgain R_Machine 2 42 5 (some .boolean)) (N : Nat) (n : Nat) : ∀ (x2 : Int32) (x3 : Int32) (x4 : Int32) (σ : g_S) (r : Int32) (σe : g_S), Machine_takesGroupAgain_l49 N n x2 x3 x4 σ = some (r, σe) → gw X (.inl (some (.int r))) (LC ao aa X.2.2.1 σe) (LC ao aa X.2.2.1 σ) [(0, .ref (ao 3)), (2, .int x2), (3, .int x3), (4, .int x4)] 49 [] := by
  induction n with
  | zero => intro x2 x3 x4 σ r σe hf; cases hf
  | succ n ih => intro x2 x3 x4 σ r σe hf; exact Machine_takesGroupAgain_p49 ao aa hC N _ (fun x2 x3 x4 σ r2 σ2 h2 => ih x2 x3 x4 σ r2 σ2 h2) x2 x3 x4 σ r σe hf
def Machine_takesGroupAgain_b46 (N : Nat) (x2 : Int32) (x3 : Int32) (σ : g_S) : Option (Int32 × g_S) := Machine_takesGroupAgain_l49 N N x2 x3 0 σ
theorem Machine_takesGroupAgain_p46 (ao aa : Nat → Nat) {X : g_X} (hC : gC X c_Machine_takesGroupAgain R_Machine 2 42 5 (some .boolean)) (N : Nat) (x2 : Int32) (x3 : Int32) (σ : g_S) (r : Int32) (σe : g_S) (hf : Machine_takesGroupAgain_b46 N x2 x3 σ = some (r, σe)) : gw X (.inl (some (.int r))) (LC ao aa X.2.2.1 σe) (LC ao aa X.2.2.1 σ) [(0, .ref (ao 3)), (2, .int x2), (3, .int x3)] 46 [] := by
  unfold Machine_takesGroupAgain_b46 at hf
  refine gw_iconst hC 0 d_Machine_takesGroupAgain_46 (by decide) ?_
  refine gw_istore hC [(4, .int 0), (0, .ref (ao 3)), (2, .int x2), (3, .int x3)] d_Machine_takesGroupAgain_47 (by decide) rfl ?_
  refine gw_lv [1, 2, 3, 0] rfl ?_
  exact Machine_takesGroupAgain_q49 ao aa hC N N _ _ _ _ _ _ hf
def Machine_takesGroupAgain_b44 (N : Nat) (σ : g_S) : Option (Int32 × g_S) := some (0, σ)
theorem Machine_takesGroupAgain_p44 (ao aa : Nat → Nat) {X : g_X} (hC : gC X c_Machine_takesGroupAgain R_Machine 2 42 5 (some .boolean)) (N : Nat) (σ : g_S) (r : Int32) (σe : g_S) (hf : Machine_takesGroupAgain_b44 N σ = some (r, σe)) : gw X (.inl (some (.int r))) (LC ao aa X.2.2.1 σe) (LC ao aa X.2.2.1 σ) [(0, .ref (ao 3))] 44 [] := by
  unfold Machine_takesGroupAgain_b44 at hf
  refine gw_iconst hC 0 d_Machine_takesGroupAgain_44 (by decide) ?_
  cases hf
  exact gw_zret hC (by decide) d_Machine_takesGroupAgain_45
def Machine_takesGroupAgain_b17 (N : Nat) (x1 : Int32) (x2 : Int32) (σ : g_S) : Option (Int32 × g_S) := (Rows_read N 18 (21 + x1) σ).bind fun q25 => if (q25.1 - x2) ≤ ((q25.2.1 26) - (q25.2.1 24)) then Machine_takesGroupAgain_b46 N x2 (q25.1 - x2) q25.2 else Machine_takesGroupAgain_b44 N q25.2
theorem Machine_takesGroupAgain_p17 (ao aa : Nat → Nat) {X : g_X} (hC : gC X c_Machine_takesGroupAgain R_Machine 2 42 5 (some .boolean)) (N : Nat) (x1 : Int32) (x2 : Int32) (σ : g_S) (r : Int32) (σe : g_S) (hf : Machine_takesGroupAgain_b17 N x1 x2 σ = some (r, σe)) : gw X (.inl (some (.int r))) (LC ao aa X.2.2.1 σe) (LC ao aa X.2.2.1 σ) [(0, .ref (ao 3)), (1, .int x1), (2, .int x2)] 17 [] := by
  unfold Machine_takesGroupAgain_b17 at hf
  refine gw_aload_n hC 0 d_Machine_takesGroupAgain_17 rfl rfl ?_
  refine Cr_Machine_cells hC kf_Machine_17 d_Machine_takesGroupAgain_18 ?_
  refine gw_bipush hC 21 d_Machine_takesGroupAgain_21 (by decide) ?_
  refine gw_iload_n hC 1 d_Machine_takesGroupAgain_23 rfl rfl ?_
  refine gw_iadd hC d_Machine_takesGroupAgain_24 ?_
  obtain ⟨q25, hq25, hf⟩ := g_bind hf
  refine gw_callS hC [.ref (aa 18), .int (21 + x1)] [] (Rows_read_m _ _ _ ao aa N _ _ _ _ _ hq25) kc_Machine_43 ⟨by decide, by decide⟩ (Nat.le_of_ble_eq_true rfl) [.int (21 + x1), .ref (aa 18)] [.int q25.1] rfl rfl d_Machine_takesGroupAgain_25 ?_
  refine gw_iload_n hC 2 d_Machine_takesGroupAgain_28 rfl rfl ?_
  refine gw_isub hC d_Machine_takesGroupAgain_29 ?_
  refine gw_istore_n hC [(3, .int (q25.1 - x2)), (0, .ref (ao 3)), (1, .int x1), (2, .int x2)] d_Machine_takesGroupAgain_30 rfl (by decide) rfl ?_
  refine gw_iload_n hC 0 d_Machine_takesGroupAgain_31 rfl rfl ?_
  refine gw_aload_n hC 1 d_Machine_takesGroupAgain_32 rfl rfl ?_
  refine Cg26 hC kf_Machine_53 d_Machine_takesGroupAgain_33 (q25.2.1 26) rfl ?_
  refine gw_aload_n hC 1 d_Machine_takesGroupAgain_36 rfl rfl ?_
  refine Cg24 hC kf_Machine_67 d_Machine_takesGroupAgain_37 (q25.2.1 24) rfl ?_
  refine gw_isub hC d_Machine_takesGroupAgain_40 ?_
  refine gw_icmp_le hC 46 d_Machine_takesGroupAgain_41 (by decide) (fun hh => ?_) (fun hh => ?_)
  · rw [if_pos hh] at hf
    refine gw_lv [1, 3, 0] rfl ?_
    exact Machine_takesGroupAgain_p46 ao aa hC N _ _ _ _ _ hf
  · rw [if_neg hh] at hf
    refine gw_lv [1] rfl ?_
    exact Machine_takesGroupAgain_p44 ao aa hC N _ _ _ hf
def Machine_takesGroupAgain_b15 (N : Nat) (σ : g_S) : Option (Int32 × g_S) := some (1, σ)
theorem Machine_takesGroupAgain_p15 (ao aa : Nat → Nat) {X : g_X} (hC : gC X c_Machine_takesGroupAgain R_Machine 2 42 5 (some .boolean)) (N : Nat) (σ : g_S) (r : Int32) (σe : g_S) (hf : Machine_takesGroupAgain_b15 N σ = some (r, σe)) : gw X (.inl (some (.int r))) (LC ao aa X.2.2.1 σe) (LC ao aa X.2.2.1 σ) [(0, .ref (ao 3))] 15 [] := by
  unfold Machine_takesGroupAgain_b15 at hf
  refine gw_iconst hC 1 d_Machine_takesGroupAgain_15 (by decide) ?_
  cases hf
  exact gw_zret hC (by decide) d_Machine_takesGroupAgain_16
def Machine_takesGroupAgain_b0 (N : Nat) (x1 : Int32) (σ : g_S) : Option (Int32 × g_S) := (Rows_read N 18 (0 + x1) σ).bind fun q7 => if 0 ≤ q7.1 then Machine_takesGroupAgain_b17 N x1 q7.1 q7.2 else Machine_takesGroupAgain_b15 N q7.2
theorem Machine_takesGroupAgain_p0 (ao aa : Nat → Nat) {X : g_X} (hC : gC X c_Machine_takesGroupAgain R_Machine 2 42 5 (some .boolean)) (N : Nat) (x1 : Int32) (σ : g_S) (r : Int32) (σe : g_S) (hf : Machine_takesGroupAgain_b0 N x1 σ = some (r, σe)) : gw X (.inl (some (.int r))) (LC ao aa X.2.2.1 σe) (LC ao aa X.2.2.1 σ) [(0, .ref (ao 3)), (1, .int x1)] 0 [] := by
  unfold Machine_takesGroupAgain_b0 at hf
  refine gw_aload_n hC 0 d_Machine_takesGroupAgain_0 rfl rfl ?_
  refine Cr_Machine_cells hC kf_Machine_17 d_Machine_takesGroupAgain_1 ?_
  refine gw_iconst hC 0 d_Machine_takesGroupAgain_4 (by decide) ?_
  refine gw_iload_n hC 1 d_Machine_takesGroupAgain_5 rfl rfl ?_
  refine gw_iadd hC d_Machine_takesGroupAgain_6 ?_
  obtain ⟨q7, hq7, hf⟩ := g_bind hf
  refine gw_callS hC [.ref (aa 18), .int (0 + x1)] [] (Rows_read_m _ _ _ ao aa N _ _ _ _ _ hq7) kc_Machine_43 ⟨by decide, by decide⟩ (Nat.le_of_ble_eq_true rfl) [.int (0 + x1), .ref (aa 18)] [.int q7.1] rfl rfl d_Machine_takesGroupAgain_7 ?_
  refine gw_istore_n hC [(2, .int q7.1), (0, .ref (ao 3)), (1, .int x1)] d_Machine_takesGroupAgain_10 rfl (by decide) rfl ?_
  refine gw_iload_n hC 0 d_Machine_takesGroupAgain_11 rfl rfl ?_
  refine gw_if_ge hC 17 d_Machine_takesGroupAgain_12 (by decide) (fun hh => ?_) (fun hh => ?_)
  · rw [if_pos hh] at hf
    refine gw_lv [1, 2, 0] rfl ?_
    exact Machine_takesGroupAgain_p17 ao aa hC N _ _ _ _ _ hf
  · rw [if_neg hh] at hf
    refine gw_lv [1] rfl ?_
    exact Machine_takesGroupAgain_p15 ao aa hC N _ _ _ hf
def Machine_takesGroupAgain (N : Nat) (x1 : Int32) (σ : g_S) : Option (Int32 × g_S) := Machine_takesGroupAgain_b0 N x1 σ
theorem Machine_takesGroupAgain_m (l : Launch) (D : va_G) (cA : ClassId) (ao aa : Nat → Nat) (N : Nat) (x1 : Int32) (σ : g_S) (r : Int32) (σe : g_S) (hf : Machine_takesGroupAgain N x1 σ = some (r, σe)) : Mt l D cA y_Machine_takesGroupAgain c_Machine_takesGroupAgain 5 (some .boolean) 2 42 [.ref (ao 3), .int x1] (LC ao aa cA σ) (some (.int r)) (LC ao aa cA σe) := by
  refine g_met (by decide +kernel) (by simp [lg_sl, Value.category]) (fun X e1 e2 e3 hC => ?_)
  subst e1 e2 e3
  refine gw_lv [0, 1] rfl ?_
  exact Machine_takesGroupAgain_p0 ao aa hC N _ _ (r) _ hf
def Machine_passes_b70 (N : Nat) (s0 : Int32) (σ : g_S) : Option (Int32 × g_S) := if gB s0 = true then some (s0, σ) else none
theorem Machine_passes_p70 (ao aa : Nat → Nat) {X : g_X} (hC : gC X c_Machine_passes R_Machine 3 66 3 (some .boolean)) (N : Nat) (s0 : Int32) (σ : g_S) (r : Int32) (σe : g_S) (hf : Machine_passes_b70 N s0 σ = some (r, σe)) : gw X (.inl (some (.int r))) (LC ao aa X.2.2.1 σe) (LC ao aa X.2.2.1 σ) [(0, .ref (ao 3))] 70 [.int s0] := by
  unfold Machine_passes_b70 at hf
  obtain ⟨hg70, hf⟩ := g_guard hf
  cases hf
  exact gw_zret hC hg70 d_Machine_passes_70
def Machine_passes_b65 (N : Nat) (σ : g_S) : Option (Int32 × g_S) := Machine_passes_b70 N 1 σ
theorem Machine_passes_p65 (ao aa : Nat → Nat) {X : g_X} (hC : gC X c_Machine_passes R_Machine 3 66 3 (some .boolean)) (N : Nat) (σ : g_S) (r : Int32) (σe : g_S) (hf : Machine_passes_b65 N σ = some (r, σe)) : gw X (.inl (some (.int r))) (LC ao aa X.2.2.1 σe) (LC ao aa X.2.2.1 σ) [(0, .ref (ao 3))] 65 [] := by
  unfold Machine_passes_b65 at hf
  refine gw_iconst hC 1 d_Machine_passes_65 (by decide) ?_
  refine gw_goto hC 70 d_Machine_passes_66 (by decide) ?_
  exact Machine_passes_p70 ao aa hC N _ _ _ _ hf
def Machine_passes_b69 (N : Nat) (σ : g_S) : Option (Int32 × g_S) := Machine_passes_b70 N 0 σ
theorem Machine_passes_p69 (ao aa : Nat → Nat) {X : g_X} (hC : gC X c_Machine_passes R_Machine 3 66 3 (some .boolean)) (N : Nat) (σ : g_S) (r : Int32) (σe : g_S) (hf : Machine_passes_b69 N σ = some (r, σe)) : gw X (.inl (some (.int r))) (LC ao aa X.2.2.1 σe) (LC ao aa X.2.2.1 σ) [(0, .ref (ao 3))] 69 [] := by
  unfold Machine_passes_b69 at hf
  refine gw_iconst hC 0 d_Machine_passes_69 (by decide) ?_
  exact Machine_passes_p70 ao aa hC N _ _ _ _ hf
def Machine_passes_b49 (N : Nat) (σ : g_S) : Option (Int32 × g_S) := (Machine_unitAt N ((σ.1 24) - 1) σ).bind fun q56 => (Units_isLineEnd N q56.1 q56.2).bind fun q59 => if q59.1 = 0 then Machine_passes_b69 N q59.2 else Machine_passes_b65 N q59.2
theorem Machine_passes_p49 (ao aa : Nat → Nat) {X : g_X} (hC : gC X c_Machine_passes R_Machine 3 66 3 (some .boolean)) (N : Nat) (σ : g_S) (r : Int32) (σe : g_S) (hf : Machine_passes_b49 N σ = some (r, σe)) : gw X (.inl (some (.int r))) (LC ao aa X.2.2.1 σe) (LC ao aa X.2.2.1 σ) [(0, .ref (ao 3))] 49 [] := by
  unfold Machine_passes_b49 at hf
  refine gw_aload_n hC 0 d_Machine_passes_49 rfl rfl ?_
  refine gw_aload_n hC 0 d_Machine_passes_50 rfl rfl ?_
  refine Cg24 hC kf_Machine_67 d_Machine_passes_51 (σ.1 24) rfl ?_
  refine gw_iconst hC 1 d_Machine_passes_54 (by decide) ?_
  refine gw_isub hC d_Machine_passes_55 ?_
  obtain ⟨q56, hq56, hf⟩ := g_bind hf
  refine gw_callV hC [.int ((σ.1 24) - 1)] [] (Machine_unitAt_m _ _ _ ao aa N _ _ _ _ hq56) kc_Machine_150 3 (g_lay_obj rfl) rfl rfl ⟨by decide, by decide⟩ (Nat.le_of_ble_eq_true rfl) [.int ((σ.1 24) - 1), .ref (ao 3)] [.int q56.1] rfl rfl d_Machine_passes_56 ?_
  obtain ⟨q59, hq59, hf⟩ := g_bind hf
  refine gw_callS hC [.int q56.1] [] (Units_isLineEnd_m _ _ _ ao aa N _ _ _ _ hq59) kc_Machine_153 ⟨by decide, by decide⟩ (Nat.le_of_ble_eq_true rfl) [.int q56.1] [.int q59.1] rfl rfl d_Machine_passes_59 ?_
  refine gw_if_eq hC 69 d_Machine_passes_62 (by decide) (fun hh => ?_) (fun hh => ?_)
  · rw [if_pos hh] at hf
    exact Machine_passes_p69 ao aa hC N _ _ _ hf
  · rw [if_neg hh] at hf
    exact Machine_passes_p65 ao aa hC N _ _ _ hf
def Machine_passes_b39 (N : Nat) (σ : g_S) : Option (Int32 × g_S) := if (σ.1 10) = 0 then Machine_passes_b69 N σ else Machine_passes_b49 N σ
theorem Machine_passes_p39 (ao aa : Nat → Nat) {X : g_X} (hC : gC X c_Machine_passes R_Machine 3 66 3 (some .boolean)) (N : Nat) (σ : g_S) (r : Int32) (σe : g_S) (hf : Machine_passes_b39 N σ = some (r, σe)) : gw X (.inl (some (.int r))) (LC ao aa X.2.2.1 σe) (LC ao aa X.2.2.1 σ) [(0, .ref (ao 3))] 39 [] := by
  unfold Machine_passes_b39 at hf
  refine gw_aload_n hC 0 d_Machine_passes_39 rfl rfl ?_
  refine Cr_Machine_program hC kf_Machine_39 d_Machine_passes_40 ?_
  refine Cg10 hC kf_Machine_146 d_Machine_passes_43 (σ.1 10) rfl ?_
  refine gw_if_eq hC 69 d_Machine_passes_46 (by decide) (fun hh => ?_) (fun hh => ?_)
  · rw [if_pos hh] at hf
    exact Machine_passes_p69 ao aa hC N _ _ _ hf
  · rw [if_neg hh] at hf
    exact Machine_passes_p49 ao aa hC N _ _ _ hf
def Machine_passes_b32 (N : Nat) (σ : g_S) : Option (Int32 × g_S) := if (σ.1 24) = 0 then Machine_passes_b65 N σ else Machine_passes_b39 N σ
theorem Machine_passes_p32 (ao aa : Nat → Nat) {X : g_X} (hC : gC X c_Machine_passes R_Machine 3 66 3 (some .boolean)) (N : Nat) (σ : g_S) (r : Int32) (σe : g_S) (hf : Machine_passes_b32 N σ = some (r, σe)) : gw X (.inl (some (.int r))) (LC ao aa X.2.2.1 σe) (LC ao aa X.2.2.1 σ) [(0, .ref (ao 3))] 32 [] := by
  unfold Machine_passes_b32 at hf
  refine gw_aload_n hC 0 d_Machine_passes_32 rfl rfl ?_
  refine Cg24 hC kf_Machine_67 d_Machine_passes_33 (σ.1 24) rfl ?_
  refine gw_if_eq hC 65 d_Machine_passes_36 (by decide) (fun hh => ?_) (fun hh => ?_)
  · rw [if_pos hh] at hf
    exact Machine_passes_p65 ao aa hC N _ _ _ hf
  · rw [if_neg hh] at hf
    exact Machine_passes_p39 ao aa hC N _ _ _ hf
def Machine_passes_b111 (N : Nat) (s0 : Int32) (σ : g_S) : Option (Int32 × g_S) := if gB s0 = true then some (s0, σ) else none
theorem Machine_passes_p111 (ao aa : Nat → Nat) {X : g_X} (hC : gC X c_Machine_passes R_Machine 3 66 3 (some .boolean)) (N : Nat) (s0 : Int32) (σ : g_S) (r : Int32) (σe : g_S) (hf : Machine_passes_b111 N s0 σ = some (r, σe)) : gw X (.inl (some (.int r))) (LC ao aa X.2.2.1 σe) (LC ao aa X.2.2.1 σ) [(0, .ref (ao 3))] 111 [.int s0] := by
  unfold Machine_passes_b111 at hf
  obtain ⟨hg111, hf⟩ := g_guard hf
  cases hf
  exact gw_zret hC hg111 d_Machine_passes_111
def Machine_passes_b106 (N : Nat) (σ : g_S) : Option (Int32 × g_S) := Machine_passes_b111 N 1 σ
theorem Machine_passes_p106 (ao aa : Nat → Nat) {X : g_X} (hC : gC X c_Machine_passes R_Machine 3 66 3 (some .boolean)) (N : Nat) (σ : g_S) (r : Int32) (σe : g_S) (hf : Machine_passes_b106 N σ = some (r, σe)) : gw X (.inl (some (.int r))) (LC ao aa X.2.2.1 σe) (LC ao aa X.2.2.1 σ) [(0, .ref (ao 3))] 106 [] := by
  unfold Machine_passes_b106 at hf
  refine gw_iconst hC 1 d_Machine_passes_106 (by decide) ?_
  refine gw_goto hC 111 d_Machine_passes_107 (by decide) ?_
  exact Machine_passes_p111 ao aa hC N _ _ _ _ hf
def Machine_passes_b110 (N : Nat) (σ : g_S) : Option (Int32 × g_S) := Machine_passes_b111 N 0 σ
theorem Machine_passes_p110 (ao aa : Nat → Nat) {X : g_X} (hC : gC X c_Machine_passes R_Machine 3 66 3 (some .boolean)) (N : Nat) (σ : g_S) (r : Int32) (σe : g_S) (hf : Machine_passes_b110 N σ = some (r, σe)) : gw X (.inl (some (.int r))) (LC ao aa X.2.2.1 σe) (LC ao aa X.2.2.1 σ) [(0, .ref (ao 3))] 110 [] := by
  unfold Machine_passes_b110 at hf
  refine gw_iconst hC 0 d_Machine_passes_110 (by decide) ?_
  exact Machine_passes_p111 ao aa hC N _ _ _ _ hf
def Machine_passes_b92 (N : Nat) (σ : g_S) : Option (Int32 × g_S) := (Machine_unitAt N (σ.1 24) σ).bind fun q97 => (Units_isLineEnd N q97.1 q97.2).bind fun q100 => if q100.1 = 0 then Machine_passes_b110 N q100.2 else Machine_passes_b106 N q100.2
theorem Machine_passes_p92 (ao aa : Nat → Nat) {X : g_X} (hC : gC X c_Machine_passes R_Machine 3 66 3 (some .boolean)) (N : Nat) (σ : g_S) (r : Int32) (σe : g_S) (hf : Machine_passes_b92 N σ = some (r, σe)) : gw X (.inl (some (.int r))) (LC ao aa X.2.2.1 σe) (LC ao aa X.2.2.1 σ) [(0, .ref (ao 3))] 92 [] := by
  unfold Machine_passes_b92 at hf
  refine gw_aload_n hC 0 d_Machine_passes_92 rfl rfl ?_
  refine gw_aload_n hC 0 d_Machine_passes_93 rfl rfl ?_
  refine Cg24 hC kf_Machine_67 d_Machine_passes_94 (σ.1 24) rfl ?_
  obtain ⟨q97, hq97, hf⟩ := g_bind hf
  refine gw_callV hC [.int (σ.1 24)] [] (Machine_unitAt_m _ _ _ ao aa N _ _ _ _ hq97) kc_Machine_150 3 (g_lay_obj rfl) rfl rfl ⟨by decide, by decide⟩ (Nat.le_of_ble_eq_true rfl) [.int (σ.1 24), .ref (ao 3)] [.int q97.1] rfl rfl d_Machine_passes_97 ?_
  obtain ⟨q100, hq100, hf⟩ := g_bind hf
  refine gw_callS hC [.int q97.1] [] (Units_isLineEnd_m _ _ _ ao aa N _ _ _ _ hq100) kc_Machine_153 ⟨by decide, by decide⟩ (Nat.le_of_ble_eq_true rfl) [.int q97.1] [.int q100.1] rfl rfl d_Machine_passes_100 ?_
  refine gw_if_eq hC 110 d_Machine_passes_103 (by decide) (fun hh => ?_) (fun hh => ?_)
  · rw [if_pos hh] at hf
    exact Machine_passes_p110 ao aa hC N _ _ _ hf
  · rw [if_neg hh] at hf
    exact Machine_passes_p106 ao aa hC N _ _ _ hf
def Machine_passes_b82 (N : Nat) (σ : g_S) : Option (Int32 × g_S) := if (σ.1 10) = 0 then Machine_passes_b110 N σ else Machine_passes_b92 N σ
theorem Machine_passes_p82 (ao aa : Nat → Nat) {X : g_X} (hC : gC X c_Machine_passes R_Machine 3 66 3 (some .boolean)) (N : Nat) (σ : g_S) (r : Int32) (σe : g_S) (hf : Machine_passes_b82 N σ = some (r, σe)) : gw X (.inl (some (.int r))) (LC ao aa X.2.2.1 σe) (LC ao aa X.2.2.1 σ) [(0, .ref (ao 3))] 82 [] := by
  unfold Machine_passes_b82 at hf
  refine gw_aload_n hC 0 d_Machine_passes_82 rfl rfl ?_
  refine Cr_Machine_program hC kf_Machine_39 d_Machine_passes_83 ?_
  refine Cg10 hC kf_Machine_146 d_Machine_passes_86 (σ.1 10) rfl ?_
  refine gw_if_eq hC 110 d_Machine_passes_89 (by decide) (fun hh => ?_) (fun hh => ?_)
  · rw [if_pos hh] at hf
    exact Machine_passes_p110 ao aa hC N _ _ _ hf
  · rw [if_neg hh] at hf
    exact Machine_passes_p92 ao aa hC N _ _ _ hf
def Machine_passes_b71 (N : Nat) (σ : g_S) : Option (Int32 × g_S) := if (σ.1 24) = (σ.1 26) then Machine_passes_b106 N σ else Machine_passes_b82 N σ
theorem Machine_passes_p71 (ao aa : Nat → Nat) {X : g_X} (hC : gC X c_Machine_passes R_Machine 3 66 3 (some .boolean)) (N : Nat) (σ : g_S) (r : Int32) (σe : g_S) (hf : Machine_passes_b71 N σ = some (r, σe)) : gw X (.inl (some (.int r))) (LC ao aa X.2.2.1 σe) (LC ao aa X.2.2.1 σ) [(0, .ref (ao 3))] 71 [] := by
  unfold Machine_passes_b71 at hf
  refine gw_aload_n hC 0 d_Machine_passes_71 rfl rfl ?_
  refine Cg24 hC kf_Machine_67 d_Machine_passes_72 (σ.1 24) rfl ?_
  refine gw_aload_n hC 0 d_Machine_passes_75 rfl rfl ?_
  refine Cg26 hC kf_Machine_53 d_Machine_passes_76 (σ.1 26) rfl ?_
  refine gw_icmp_eq hC 106 d_Machine_passes_79 (by decide) (fun hh => ?_) (fun hh => ?_)
  · rw [if_pos hh] at hf
    exact Machine_passes_p106 ao aa hC N _ _ _ hf
  · rw [if_neg hh] at hf
    exact Machine_passes_p82 ao aa hC N _ _ _ hf
def Machine_passes_b144 (N : Nat) (s0 : Int32) (σ : g_S) : Option (Int32 × g_S) := if gB s0 = true then some (s0, σ) else none
theorem Machine_passes_p144 (ao aa : Nat → Nat) {X : g_X} (hC : gC X c_Machine_passes R_Machine 3 66 3 (some .boolean)) (N : Nat) (s0 : Int32) (σ : g_S) (r : Int32) (σe : g_S) (hf : Machine_passes_b144 N s0 σ = some (r, σe)) : gw X (.inl (some (.int r))) (LC ao aa X.2.2.1 σe) (LC ao aa X.2.2.1 σ) [(0, .ref (ao 3))] 144 [.int s0] := by
  unfold Machine_passes_b144 at hf
  obtain ⟨hg144, hf⟩ := g_guard hf
  cases hf
  exact gw_zret hC hg144 d_Machine_passes_144
def Machine_passes_b143 (N : Nat) (σ : g_S) : Option (Int32 × g_S) := Machine_passes_b144 N 0 σ
theorem Machine_passes_p143 (ao aa : Nat → Nat) {X : g_X} (hC : gC X c_Machine_passes R_Machine 3 66 3 (some .boolean)) (N : Nat) (σ : g_S) (r : Int32) (σe : g_S) (hf : Machine_passes_b143 N σ = some (r, σe)) : gw X (.inl (some (.int r))) (LC ao aa X.2.2.1 σe) (LC ao aa X.2.2.1 σ) [(0, .ref (ao 3))] 143 [] := by
  unfold Machine_passes_b143 at hf
  refine gw_iconst hC 0 d_Machine_passes_143 (by decide) ?_
  exact Machine_passes_p144 ao aa hC N _ _ _ _ hf
def Machine_passes_b139 (N : Nat) (σ : g_S) : Option (Int32 × g_S) := Machine_passes_b144 N 1 σ
theorem Machine_passes_p139 (ao aa : Nat → Nat) {X : g_X} (hC : gC X c_Machine_passes R_Machine 3 66 3 (some .boolean)) (N : Nat) (σ : g_S) (r : Int32) (σe : g_S) (hf : Machine_passes_b139 N σ = some (r, σe)) : gw X (.inl (some (.int r))) (LC ao aa X.2.2.1 σe) (LC ao aa X.2.2.1 σ) [(0, .ref (ao 3))] 139 [] := by
  unfold Machine_passes_b139 at hf
  refine gw_iconst hC 1 d_Machine_passes_139 (by decide) ?_
  refine gw_goto hC 144 d_Machine_passes_140 (by decide) ?_
  exact Machine_passes_p144 ao aa hC N _ _ _ _ hf
def Machine_passes_b112 (N : Nat) (σ : g_S) : Option (Int32 × g_S) := (Machine_unitAt N ((σ.1 24) - 1) σ).bind fun q119 => (Units_isWord N q119.1 q119.2).bind fun q122 => (Machine_unitAt N (q122.2.1 24) q122.2).bind fun q130 => (Units_isWord N q130.1 q130.2).bind fun q133 => if q122.1 = q133.1 then Machine_passes_b143 N q133.2 else Machine_passes_b139 N q133.2
theorem Machine_passes_p112 (ao aa : Nat → Nat) {X : g_X} (hC : gC X c_Machine_passes R_Machine 3 66 3 (some .boolean)) (N : Nat) (σ : g_S) (r : Int32) (σe : g_S) (hf : Machine_passes_b112 N σ = some (r, σe)) : gw X (.inl (some (.int r))) (LC ao aa X.2.2.1 σe) (LC ao aa X.2.2.1 σ) [(0, .ref (ao 3))] 112 [] := by
  unfold Machine_passes_b112 at hf
  refine gw_aload_n hC 0 d_Machine_passes_112 rfl rfl ?_
  refine gw_aload_n hC 0 d_Machine_passes_113 rfl rfl ?_
  refine Cg24 hC kf_Machine_67 d_Machine_passes_114 (σ.1 24) rfl ?_
  refine gw_iconst hC 1 d_Machine_passes_117 (by decide) ?_
  refine gw_isub hC d_Machine_passes_118 ?_
  obtain ⟨q119, hq119, hf⟩ := g_bind hf
  refine gw_callV hC [.int ((σ.1 24) - 1)] [] (Machine_unitAt_m _ _ _ ao aa N _ _ _ _ hq119) kc_Machine_150 3 (g_lay_obj rfl) rfl rfl ⟨by decide, by decide⟩ (Nat.le_of_ble_eq_true rfl) [.int ((σ.1 24) - 1), .ref (ao 3)] [.int q119.1] rfl rfl d_Machine_passes_119 ?_
  obtain ⟨q122, hq122, hf⟩ := g_bind hf
  refine gw_callS hC [.int q119.1] [] (Units_isWord_m _ _ _ ao aa N _ _ _ _ hq122) kc_Machine_159 ⟨by decide, by decide⟩ (Nat.le_of_ble_eq_true rfl) [.int q119.1] [.int q122.1] rfl rfl d_Machine_passes_122 ?_
  refine gw_aload_n hC 0 d_Machine_passes_125 rfl rfl ?_
  refine gw_aload_n hC 0 d_Machine_passes_126 rfl rfl ?_
  refine Cg24 hC kf_Machine_67 d_Machine_passes_127 (q122.2.1 24) rfl ?_
  obtain ⟨q130, hq130, hf⟩ := g_bind hf
  refine gw_callV hC [.int (q122.2.1 24)] [.int q122.1] (Machine_unitAt_m _ _ _ ao aa N _ _ _ _ hq130) kc_Machine_150 3 (g_lay_obj rfl) rfl rfl ⟨by decide, by decide⟩ (Nat.le_of_ble_eq_true rfl) [.int (q122.2.1 24), .ref (ao 3), .int q122.1] [.int q130.1, .int q122.1] rfl rfl d_Machine_passes_130 ?_
  obtain ⟨q133, hq133, hf⟩ := g_bind hf
  refine gw_callS hC [.int q130.1] [.int q122.1] (Units_isWord_m _ _ _ ao aa N _ _ _ _ hq133) kc_Machine_159 ⟨by decide, by decide⟩ (Nat.le_of_ble_eq_true rfl) [.int q130.1, .int q122.1] [.int q133.1, .int q122.1] rfl rfl d_Machine_passes_133 ?_
  refine gw_icmp_eq hC 143 d_Machine_passes_136 (by decide) (fun hh => ?_) (fun hh => ?_)
  · rw [if_pos hh] at hf
    exact Machine_passes_p143 ao aa hC N _ _ _ hf
  · rw [if_neg hh] at hf
    exact Machine_passes_p139 ao aa hC N _ _ _ hf
def Machine_passes_b177 (N : Nat) (s0 : Int32) (σ : g_S) : Option (Int32 × g_S) := if gB s0 = true then some (s0, σ) else none
theorem Machine_passes_p177 (ao aa : Nat → Nat) {X : g_X} (hC : gC X c_Machine_passes R_Machine 3 66 3 (some .boolean)) (N : Nat) (s0 : Int32) (σ : g_S) (r : Int32) (σe : g_S) (hf : Machine_passes_b177 N s0 σ = some (r, σe)) : gw X (.inl (some (.int r))) (LC ao aa X.2.2.1 σe) (LC ao aa X.2.2.1 σ) [(0, .ref (ao 3))] 177 [.int s0] := by
  unfold Machine_passes_b177 at hf
  obtain ⟨hg177, hf⟩ := g_guard hf
  cases hf
  exact gw_zret hC hg177 d_Machine_passes_177
def Machine_passes_b176 (N : Nat) (σ : g_S) : Option (Int32 × g_S) := Machine_passes_b177 N 0 σ
theorem Machine_passes_p176 (ao aa : Nat → Nat) {X : g_X} (hC : gC X c_Machine_passes R_Machine 3 66 3 (some .boolean)) (N : Nat) (σ : g_S) (r : Int32) (σe : g_S) (hf : Machine_passes_b176 N σ = some (r, σe)) : gw X (.inl (some (.int r))) (LC ao aa X.2.2.1 σe) (LC ao aa X.2.2.1 σ) [(0, .ref (ao 3))] 176 [] := by
  unfold Machine_passes_b176 at hf
  refine gw_iconst hC 0 d_Machine_passes_176 (by decide) ?_
  exact Machine_passes_p177 ao aa hC N _ _ _ _ hf
def Machine_passes_b172 (N : Nat) (σ : g_S) : Option (Int32 × g_S) := Machine_passes_b177 N 1 σ
theorem Machine_passes_p172 (ao aa : Nat → Nat) {X : g_X} (hC : gC X c_Machine_passes R_Machine 3 66 3 (some .boolean)) (N : Nat) (σ : g_S) (r : Int32) (σe : g_S) (hf : Machine_passes_b172 N σ = some (r, σe)) : gw X (.inl (some (.int r))) (LC ao aa X.2.2.1 σe) (LC ao aa X.2.2.1 σ) [(0, .ref (ao 3))] 172 [] := by
  unfold Machine_passes_b172 at hf
  refine gw_iconst hC 1 d_Machine_passes_172 (by decide) ?_
  refine gw_goto hC 177 d_Machine_passes_173 (by decide) ?_
  exact Machine_passes_p177 ao aa hC N _ _ _ _ hf
def Machine_passes_b145 (N : Nat) (σ : g_S) : Option (Int32 × g_S) := (Machine_unitAt N ((σ.1 24) - 1) σ).bind fun q152 => (Units_isWord N q152.1 q152.2).bind fun q155 => (Machine_unitAt N (q155.2.1 24) q155.2).bind fun q163 => (Units_isWord N q163.1 q163.2).bind fun q166 => if q155.1 = q166.1 then Machine_passes_b172 N q166.2 else Machine_passes_b176 N q166.2
theorem Machine_passes_p145 (ao aa : Nat → Nat) {X : g_X} (hC : gC X c_Machine_passes R_Machine 3 66 3 (some .boolean)) (N : Nat) (σ : g_S) (r : Int32) (σe : g_S) (hf : Machine_passes_b145 N σ = some (r, σe)) : gw X (.inl (some (.int r))) (LC ao aa X.2.2.1 σe) (LC ao aa X.2.2.1 σ) [(0, .ref (ao 3))] 145 [] := by
  unfold Machine_passes_b145 at hf
  refine gw_aload_n hC 0 d_Machine_passes_145 rfl rfl ?_
  refine gw_aload_n hC 0 d_Machine_passes_146 rfl rfl ?_
  refine Cg24 hC kf_Machine_67 d_Machine_passes_147 (σ.1 24) rfl ?_
  refine gw_iconst hC 1 d_Machine_passes_150 (by decide) ?_
  refine gw_isub hC d_Machine_passes_151 ?_
  obtain ⟨q152, hq152, hf⟩ := g_bind hf
  refine gw_callV hC [.int ((σ.1 24) - 1)] [] (Machine_unitAt_m _ _ _ ao aa N _ _ _ _ hq152) kc_Machine_150 3 (g_lay_obj rfl) rfl rfl ⟨by decide, by decide⟩ (Nat.le_of_ble_eq_true rfl) [.int ((σ.1 24) - 1), .ref (ao 3)] [.int q152.1] rfl rfl d_Machine_passes_152 ?_
  obtain ⟨q155, hq155, hf⟩ := g_bind hf
  refine gw_callS hC [.int q152.1] [] (Units_isWord_m _ _ _ ao aa N _ _ _ _ hq155) kc_Machine_159 ⟨by decide, by decide⟩ (Nat.le_of_ble_eq_true rfl) [.int q152.1] [.int q155.1] rfl rfl d_Machine_passes_155 ?_
  refine gw_aload_n hC 0 d_Machine_passes_158 rfl rfl ?_
  refine gw_aload_n hC 0 d_Machine_passes_159 rfl rfl ?_
  refine Cg24 hC kf_Machine_67 d_Machine_passes_160 (q155.2.1 24) rfl ?_
  obtain ⟨q163, hq163, hf⟩ := g_bind hf
  refine gw_callV hC [.int (q155.2.1 24)] [.int q155.1] (Machine_unitAt_m _ _ _ ao aa N _ _ _ _ hq163) kc_Machine_150 3 (g_lay_obj rfl) rfl rfl ⟨by decide, by decide⟩ (Nat.le_of_ble_eq_true rfl) [.int (q155.2.1 24), .ref (ao 3), .int q155.1] [.int q163.1, .int q155.1] rfl rfl d_Machine_passes_163 ?_
  obtain ⟨q166, hq166, hf⟩ := g_bind hf
  refine gw_callS hC [.int q163.1] [.int q155.1] (Units_isWord_m _ _ _ ao aa N _ _ _ _ hq166) kc_Machine_159 ⟨by decide, by decide⟩ (Nat.le_of_ble_eq_true rfl) [.int q163.1, .int q155.1] [.int q166.1, .int q155.1] rfl rfl d_Machine_passes_166 ?_
  refine gw_icmp_ne hC 176 d_Machine_passes_169 (by decide) (fun hh => ?_) (fun hh => ?_)
  · rw [if_neg hh] at hf
    exact Machine_passes_p176 ao aa hC N _ _ _ hf
  · rw [if_pos hh] at hf
    exact Machine_passes_p172 ao aa hC N _ _ _ hf
def Machine_passes_b178 (N : Nat) (x2 : Int32) (σ : g_S) : Option (Int32 × g_S) := (Machine_takesGroupAgain N x2 σ).bind fun q180 => if gB q180.1 = true then some (q180.1, q180.2) else none
theorem Machine_passes_p178 (ao aa : Nat → Nat) {X : g_X} (hC : gC X c_Machine_passes R_Machine 3 66 3 (some .boolean)) (N : Nat) (x2 : Int32) (σ : g_S) (r : Int32) (σe : g_S) (hf : Machine_passes_b178 N x2 σ = some (r, σe)) : gw X (.inl (some (.int r))) (LC ao aa X.2.2.1 σe) (LC ao aa X.2.2.1 σ) [(0, .ref (ao 3)), (2, .int x2)] 178 [] := by
  unfold Machine_passes_b178 at hf
  refine gw_aload_n hC 0 d_Machine_passes_178 rfl rfl ?_
  refine gw_iload_n hC 1 d_Machine_passes_179 rfl rfl ?_
  obtain ⟨q180, hq180, hf⟩ := g_bind hf
  refine gw_callV hC [.int x2] [] (Machine_takesGroupAgain_m _ _ _ ao aa N _ _ _ _ hq180) kc_Machine_162 3 (g_lay_obj rfl) rfl rfl ⟨by decide, by decide⟩ (Nat.le_of_ble_eq_true rfl) [.int x2, .ref (ao 3)] [.int q180.1] rfl rfl d_Machine_passes_180 ?_
  obtain ⟨hg183, hf⟩ := g_guard hf
  cases hf
  exact gw_zret hC hg183 d_Machine_passes_183
def Machine_passes_b0 (N : Nat) (x1 : Int32) (x2 : Int32) (σ : g_S) : Option (Int32 × g_S) := if x1 = 7 then Machine_passes_b32 N σ else if x1 = 8 then Machine_passes_b71 N σ else if x1 = 9 then Machine_passes_b112 N σ else if x1 = 10 then Machine_passes_b145 N σ else Machine_passes_b178 N x2 σ
theorem Machine_passes_p0 (ao aa : Nat → Nat) {X : g_X} (hC : gC X c_Machine_passes R_Machine 3 66 3 (some .boolean)) (N : Nat) (x1 : Int32) (x2 : Int32) (σ : g_S) (r : Int32) (σe : g_S) (hf : Machine_passes_b0 N x1 x2 σ = some (r, σe)) : gw X (.inl (some (.int r))) (LC ao aa X.2.2.1 σe) (LC ao aa X.2.2.1 σ) [(0, .ref (ao 3)), (1, .int x1), (2, .int x2)] 0 [] := by
  unfold Machine_passes_b0 at hf
  refine gw_iload_n hC 1 d_Machine_passes_0 rfl rfl ?_
  by_cases hh0 : x1 = 7
  · rw [if_pos hh0] at hf
    refine gw_tableIn hC 31 32 d_Machine_passes_1 (by rw [hh0]; decide) (by rw [hh0]; decide) (by rw [hh0]; rfl) (by decide) ?_
    refine gw_lv [0] rfl ?_
    exact Machine_passes_p32 ao aa hC N _ _ _ hf
  · rw [if_neg hh0] at hf
    by_cases hh1 : x1 = 8
    · rw [if_pos hh1] at hf
      refine gw_tableIn hC 70 71 d_Machine_passes_1 (by rw [hh1]; decide) (by rw [hh1]; decide) (by rw [hh1]; rfl) (by decide) ?_
      refine gw_lv [0] rfl ?_
      exact Machine_passes_p71 ao aa hC N _ _ _ hf
    · rw [if_neg hh1] at hf
      by_cases hh2 : x1 = 9
      · rw [if_pos hh2] at hf
        refine gw_tableIn hC 111 112 d_Machine_passes_1 (by rw [hh2]; decide) (by rw [hh2]; decide) (by rw [hh2]; rfl) (by decide) ?_
        refine gw_lv [0] rfl ?_
        exact Machine_passes_p112 ao aa hC N _ _ _ hf
      · rw [if_neg hh2] at hf
        by_cases hh3 : x1 = 10
        · rw [if_pos hh3] at hf
          refine gw_tableIn hC 144 145 d_Machine_passes_1 (by rw [hh3]; decide) (by rw [hh3]; decide) (by rw [hh3]; rfl) (by decide) ?_
          refine gw_lv [0] rfl ?_
          exact Machine_passes_p145 ao aa hC N _ _ _ hf
        · rw [if_neg hh3] at hf
          have hto : (x1).toInt < 7 ∨ 10 < (x1).toInt := by
            refine g_tb ?_
            intro k h1 h2 hx
            obtain rfl | rfl | rfl | rfl : k = 7 ∨ k = 8 ∨ k = 9 ∨ k = 10 := by omega
            · exact hh0 (g_i hx)
            · exact hh1 (g_i hx)
            · exact hh2 (g_i hx)
            · exact hh3 (g_i hx)
          refine gw_tableOut hC 178 d_Machine_passes_1 hto (by decide) ?_
          refine gw_lv [0, 2] rfl ?_
          exact Machine_passes_p178 ao aa hC N _ _ _ _ hf
def Machine_passes (N : Nat) (x1 : Int32) (x2 : Int32) (σ : g_S) : Option (Int32 × g_S) := Machine_passes_b0 N x1 x2 σ
theorem Machine_passes_m (l : Launch) (D : va_G) (cA : ClassId) (ao aa : Nat → Nat) (N : Nat) (x1 : Int32) (x2 : Int32) (σ : g_S) (r : Int32) (σe : g_S) (hf : Machine_passes N x1 x2 σ = some (r, σe)) : Mt l D cA y_Machine_passes c_Machine_passes 3 (some .boolean) 3 66 [.ref (ao 3), .int x1, .int x2] (LC ao aa cA σ) (some (.int r)) (LC ao aa cA σe) := by
  refine g_met (by decide +kernel) (by simp [lg_sl, Value.category]) (fun X e1 e2 e3 hC => ?_)
  subst e1 e2 e3
  refine gw_lv [0, 1, 2] rfl ?_
  exact Machine_passes_p0 ao aa hC N _ _ _ (r) _ hf
