theorem kf_Machine_20 : Cond.fieldLink R_Machine 20 "PatternDesk$Machine" "choiceNode" "[I" ∈ g_TB := g_mem (List.mem_append_right _ (List.mem_append_left _ (List.mem_of_getElem? (i := 184) (by decide +kernel)))) rfl
theorem kf_Machine_70 : Cond.fieldLink R_Machine 70 "PatternDesk$Machine" "choices" "I" ∈ g_TB := g_mem (List.mem_append_right _ (List.mem_append_left _ (List.mem_of_getElem? (i := 190) (by decide +kernel)))) rfl
theorem kf_Machine_23 : Cond.fieldLink R_Machine 23 "PatternDesk$Machine" "choiceAt" "[I" ∈ g_TB := g_mem (List.mem_append_right _ (List.mem_append_left _ (List.mem_of_getElem? (i := 185) (by decide +kernel)))) rfl
theorem kf_Machine_26 : Cond.fieldLink R_Machine 26 "PatternDesk$Machine" "choiceTrail" "[I" ∈ g_TB := g_mem (List.mem_append_right _ (List.mem_append_left _ (List.mem_of_getElem? (i := 186) (by decide +kernel)))) rfl
theorem kf_Machine_73 : Cond.fieldLink R_Machine 73 "PatternDesk$Machine" "trailed" "I" ∈ g_TB := g_mem (List.mem_append_right _ (List.mem_append_left _ (List.mem_of_getElem? (i := 191) (by decide +kernel)))) rfl
theorem kf_Machine_30 : Cond.fieldLink R_Machine 30 "PatternDesk$Machine" "trail" "[I" ∈ g_TB := g_mem (List.mem_append_right _ (List.mem_append_left _ (List.mem_of_getElem? (i := 187) (by decide +kernel)))) rfl
theorem kc_Machine_106 : g_okV R_Machine 106 y_Machine_addChoice c_Machine_addChoice 2 none 1 := ⟨g_mem (List.mem_append_right _ (List.mem_append_right _ (List.mem_append_right _ (List.mem_append_left _ (List.mem_of_getElem? (i := 132) rfl))))) rfl, g_mem (List.mem_append_right _ (List.mem_append_left _ (List.mem_of_getElem? (i := 4) (by decide +kernel)))) rfl, g_mem (List.mem_append_right _ (List.mem_append_right _ (List.mem_append_right _ (List.mem_append_left _ (List.mem_of_getElem? (i := 129) (by decide +kernel)))))) rfl, g_mem (List.mem_append_right _ (List.mem_append_right _ (List.mem_append_right _ (List.mem_append_left _ (List.mem_of_getElem? (i := 131) (by decide +kernel)))))) rfl, g_mem (List.mem_append_left _ (List.mem_of_getElem? (i := 37) (by decide +kernel))) rfl, by decide +kernel, by decide +kernel, by decide +kernel⟩
theorem kf_Machine_137 : Cond.fieldLink R_Machine 137 "PatternDesk$Program" "lazy" "[I" ∈ g_TB := g_mem (List.mem_append_right _ (List.mem_append_left _ (List.mem_of_getElem? (i := 50) (by decide +kernel)))) rfl
theorem kf_Machine_134 : Cond.fieldLink R_Machine 134 "PatternDesk$Program" "least" "[I" ∈ g_TB := g_mem (List.mem_append_right _ (List.mem_append_left _ (List.mem_of_getElem? (i := 44) (by decide +kernel)))) rfl
theorem kf_Machine_128 : Cond.fieldLink R_Machine 128 "PatternDesk$Program" "head" "[I" ∈ g_TB := g_mem (List.mem_append_right _ (List.mem_append_left _ (List.mem_of_getElem? (i := 59) (by decide +kernel)))) rfl
theorem kf_Machine_88 : Cond.fieldLink R_Machine 88 "PatternDesk$Program" "next" "[I" ∈ g_TB := g_mem (List.mem_append_right _ (List.mem_append_left _ (List.mem_of_getElem? (i := 32) (by decide +kernel)))) rfl
theorem kf_Machine_131 : Cond.fieldLink R_Machine 131 "PatternDesk$Program" "most" "[I" ∈ g_TB := g_mem (List.mem_append_right _ (List.mem_append_left _ (List.mem_of_getElem? (i := 47) (by decide +kernel)))) rfl
theorem kc_Machine_110 : g_okV R_Machine 110 y_Machine_setCell c_Machine_setCell 4 none 2 := ⟨g_mem (List.mem_append_right _ (List.mem_append_right _ (List.mem_append_right _ (List.mem_append_left _ (List.mem_of_getElem? (i := 136) rfl))))) rfl, g_mem (List.mem_append_right _ (List.mem_append_left _ (List.mem_of_getElem? (i := 4) (by decide +kernel)))) rfl, g_mem (List.mem_append_right _ (List.mem_append_right _ (List.mem_append_right _ (List.mem_append_left _ (List.mem_of_getElem? (i := 133) (by decide +kernel)))))) rfl, g_mem (List.mem_append_right _ (List.mem_append_right _ (List.mem_append_right _ (List.mem_append_left _ (List.mem_of_getElem? (i := 135) (by decide +kernel)))))) rfl, g_mem (List.mem_append_left _ (List.mem_of_getElem? (i := 38) (by decide +kernel))) rfl, by decide +kernel, by decide +kernel, by decide +kernel⟩
theorem kf_Machine_140 : Cond.fieldLink R_Machine 140 "PatternDesk$Program" "groupsThrough" "[I" ∈ g_TB := g_mem (List.mem_append_right _ (List.mem_append_left _ (List.mem_of_getElem? (i := 56) (by decide +kernel)))) rfl
theorem kf_Machine_143 : Cond.fieldLink R_Machine 143 "PatternDesk$Program" "groupsBefore" "[I" ∈ g_TB := g_mem (List.mem_append_right _ (List.mem_append_left _ (List.mem_of_getElem? (i := 53) (by decide +kernel)))) rfl
theorem kc_Machine_114 : g_okV R_Machine 114 y_Machine_goOnOrEnd c_Machine_goOnOrEnd 6 (some .int) 2 := ⟨g_mem (List.mem_append_right _ (List.mem_append_right _ (List.mem_append_right _ (List.mem_append_left _ (List.mem_of_getElem? (i := 140) rfl))))) rfl, g_mem (List.mem_append_right _ (List.mem_append_left _ (List.mem_of_getElem? (i := 4) (by decide +kernel)))) rfl, g_mem (List.mem_append_right _ (List.mem_append_right _ (List.mem_append_right _ (List.mem_append_left _ (List.mem_of_getElem? (i := 137) (by decide +kernel)))))) rfl, g_mem (List.mem_append_right _ (List.mem_append_right _ (List.mem_append_right _ (List.mem_append_left _ (List.mem_of_getElem? (i := 139) (by decide +kernel)))))) rfl, g_mem (List.mem_append_left _ (List.mem_of_getElem? (i := 39) (by decide +kernel))) rfl, by decide +kernel, by decide +kernel, by decide +kernel⟩
theorem kc_Machine_94 : g_okV R_Machine 94 y_Machine_takesStep c_Machine_takesStep 1 (some .boolean) 0 := ⟨g_mem (List.mem_append_right _ (List.mem_append_right _ (List.mem_append_right _ (List.mem_append_left _ (List.mem_of_getElem? (i := 81) rfl))))) rfl, g_mem (List.mem_append_right _ (List.mem_append_left _ (List.mem_of_getElem? (i := 4) (by decide +kernel)))) rfl, g_mem (List.mem_append_right _ (List.mem_append_right _ (List.mem_append_right _ (List.mem_append_left _ (List.mem_of_getElem? (i := 78) (by decide +kernel)))))) rfl, g_mem (List.mem_append_right _ (List.mem_append_right _ (List.mem_append_right _ (List.mem_append_left _ (List.mem_of_getElem? (i := 80) (by decide +kernel)))))) rfl, g_mem (List.mem_append_left _ (List.mem_of_getElem? (i := 30) (by decide +kernel))) rfl, by decide +kernel, by decide +kernel, by decide +kernel⟩
theorem kf_Machine_33 : Cond.fieldLink R_Machine 33 "PatternDesk$Machine" "lookChoices" "[I" ∈ g_TB := g_mem (List.mem_append_right _ (List.mem_append_left _ (List.mem_of_getElem? (i := 188) (by decide +kernel)))) rfl
theorem kf_Machine_36 : Cond.fieldLink R_Machine 36 "PatternDesk$Machine" "lookAt" "[I" ∈ g_TB := g_mem (List.mem_append_right _ (List.mem_append_left _ (List.mem_of_getElem? (i := 189) (by decide +kernel)))) rfl
theorem kc_Machine_118 : g_okV R_Machine 118 y_Machine_enterRepetition c_Machine_enterRepetition 4 none 1 := ⟨g_mem (List.mem_append_right _ (List.mem_append_right _ (List.mem_append_right _ (List.mem_append_left _ (List.mem_of_getElem? (i := 144) rfl))))) rfl, g_mem (List.mem_append_right _ (List.mem_append_left _ (List.mem_of_getElem? (i := 4) (by decide +kernel)))) rfl, g_mem (List.mem_append_right _ (List.mem_append_right _ (List.mem_append_right _ (List.mem_append_left _ (List.mem_of_getElem? (i := 141) (by decide +kernel)))))) rfl, g_mem (List.mem_append_right _ (List.mem_append_right _ (List.mem_append_right _ (List.mem_append_left _ (List.mem_of_getElem? (i := 143) (by decide +kernel)))))) rfl, g_mem (List.mem_append_left _ (List.mem_of_getElem? (i := 40) (by decide +kernel))) rfl, by decide +kernel, by decide +kernel, by decide +kernel⟩
theorem kc_Machine_121 : g_okV R_Machine 121 y_Machine_endRepetition c_Machine_endRepetition 4 (some .int) 1 := ⟨g_mem (List.mem_append_right _ (List.mem_append_right _ (List.mem_append_right _ (List.mem_append_left _ (List.mem_of_getElem? (i := 148) rfl))))) rfl, g_mem (List.mem_append_right _ (List.mem_append_left _ (List.mem_of_getElem? (i := 4) (by decide +kernel)))) rfl, g_mem (List.mem_append_right _ (List.mem_append_right _ (List.mem_append_right _ (List.mem_append_left _ (List.mem_of_getElem? (i := 145) (by decide +kernel)))))) rfl, g_mem (List.mem_append_right _ (List.mem_append_right _ (List.mem_append_right _ (List.mem_append_left _ (List.mem_of_getElem? (i := 147) (by decide +kernel)))))) rfl, g_mem (List.mem_append_left _ (List.mem_of_getElem? (i := 41) (by decide +kernel))) rfl, by decide +kernel, by decide +kernel, by decide +kernel⟩
theorem kc_Machine_124 : g_okV R_Machine 124 y_Machine_beginLook c_Machine_beginLook 4 none 3 := ⟨g_mem (List.mem_append_right _ (List.mem_append_right _ (List.mem_append_right _ (List.mem_append_left _ (List.mem_of_getElem? (i := 152) rfl))))) rfl, g_mem (List.mem_append_right _ (List.mem_append_left _ (List.mem_of_getElem? (i := 4) (by decide +kernel)))) rfl, g_mem (List.mem_append_right _ (List.mem_append_right _ (List.mem_append_right _ (List.mem_append_left _ (List.mem_of_getElem? (i := 149) (by decide +kernel)))))) rfl, g_mem (List.mem_append_right _ (List.mem_append_right _ (List.mem_append_right _ (List.mem_append_left _ (List.mem_of_getElem? (i := 151) (by decide +kernel)))))) rfl, g_mem (List.mem_append_left _ (List.mem_of_getElem? (i := 42) (by decide +kernel))) rfl, by decide +kernel, by decide +kernel, by decide +kernel⟩
theorem kc_Machine_102 : g_okV R_Machine 102 y_Machine_passes c_Machine_passes 3 (some .boolean) 2 := ⟨g_mem (List.mem_append_right _ (List.mem_append_right _ (List.mem_append_right _ (List.mem_append_left _ (List.mem_of_getElem? (i := 123) rfl))))) rfl, g_mem (List.mem_append_right _ (List.mem_append_left _ (List.mem_of_getElem? (i := 4) (by decide +kernel)))) rfl, g_mem (List.mem_append_right _ (List.mem_append_right _ (List.mem_append_right _ (List.mem_append_left _ (List.mem_of_getElem? (i := 120) (by decide +kernel)))))) rfl, g_mem (List.mem_append_right _ (List.mem_append_right _ (List.mem_append_right _ (List.mem_append_left _ (List.mem_of_getElem? (i := 122) (by decide +kernel)))))) rfl, g_mem (List.mem_append_left _ (List.mem_of_getElem? (i := 35) (by decide +kernel))) rfl, by decide +kernel, by decide +kernel, by decide +kernel⟩
theorem kc_Machine_98 : g_okV R_Machine 98 y_Machine_takesUnit c_Machine_takesUnit 5 (some .boolean) 3 := ⟨g_mem (List.mem_append_right _ (List.mem_append_right _ (List.mem_append_right _ (List.mem_append_left _ (List.mem_of_getElem? (i := 85) rfl))))) rfl, g_mem (List.mem_append_right _ (List.mem_append_left _ (List.mem_of_getElem? (i := 4) (by decide +kernel)))) rfl, g_mem (List.mem_append_right _ (List.mem_append_right _ (List.mem_append_right _ (List.mem_append_left _ (List.mem_of_getElem? (i := 82) (by decide +kernel)))))) rfl, g_mem (List.mem_append_right _ (List.mem_append_right _ (List.mem_append_right _ (List.mem_append_left _ (List.mem_of_getElem? (i := 84) (by decide +kernel)))))) rfl, g_mem (List.mem_append_left _ (List.mem_of_getElem? (i := 31) (by decide +kernel))) rfl, by decide +kernel, by decide +kernel, by decide +kernel⟩
theorem kf_Machine_85 : Cond.fieldLink R_Machine 85 "PatternDesk$Program" "kind" "[I" ∈ g_TB := g_mem (List.mem_append_right _ (List.mem_append_left _ (List.mem_of_getElem? (i := 30) (by decide +kernel)))) rfl
theorem kf_Machine_91 : Cond.fieldLink R_Machine 91 "PatternDesk$Program" "first" "[I" ∈ g_TB := g_mem (List.mem_append_right _ (List.mem_append_left _ (List.mem_of_getElem? (i := 35) (by decide +kernel)))) rfl
theorem d_Machine_addChoice_0 : decode c_Machine_addChoice 0 = .ok (.aload_n 0, 1) := by decide +kernel
theorem d_Machine_addChoice_1 : decode c_Machine_addChoice 1 = .ok (.getfield 20, 3) := by decide +kernel
theorem d_Machine_addChoice_4 : decode c_Machine_addChoice 4 = .ok (.aload_n 0, 1) := by decide +kernel
theorem d_Machine_addChoice_5 : decode c_Machine_addChoice 5 = .ok (.getfield 70, 3) := by decide +kernel
theorem d_Machine_addChoice_8 : decode c_Machine_addChoice 8 = .ok (.iload_n 1, 1) := by decide +kernel
theorem d_Machine_addChoice_9 : decode c_Machine_addChoice 9 = .ok (.invokestatic 49, 3) := by decide +kernel
theorem d_Machine_addChoice_12 : decode c_Machine_addChoice 12 = .ok (.aload_n 0, 1) := by decide +kernel
theorem d_Machine_addChoice_13 : decode c_Machine_addChoice 13 = .ok (.getfield 23, 3) := by decide +kernel
theorem d_Machine_addChoice_16 : decode c_Machine_addChoice 16 = .ok (.aload_n 0, 1) := by decide +kernel
theorem d_Machine_addChoice_17 : decode c_Machine_addChoice 17 = .ok (.getfield 70, 3) := by decide +kernel
theorem d_Machine_addChoice_20 : decode c_Machine_addChoice 20 = .ok (.aload_n 0, 1) := by decide +kernel
theorem d_Machine_addChoice_21 : decode c_Machine_addChoice 21 = .ok (.getfield 67, 3) := by decide +kernel
theorem d_Machine_addChoice_24 : decode c_Machine_addChoice 24 = .ok (.invokestatic 49, 3) := by decide +kernel
theorem d_Machine_addChoice_27 : decode c_Machine_addChoice 27 = .ok (.aload_n 0, 1) := by decide +kernel
theorem d_Machine_addChoice_28 : decode c_Machine_addChoice 28 = .ok (.getfield 26, 3) := by decide +kernel
theorem d_Machine_addChoice_31 : decode c_Machine_addChoice 31 = .ok (.aload_n 0, 1) := by decide +kernel
theorem d_Machine_addChoice_32 : decode c_Machine_addChoice 32 = .ok (.getfield 70, 3) := by decide +kernel
theorem d_Machine_addChoice_35 : decode c_Machine_addChoice 35 = .ok (.aload_n 0, 1) := by decide +kernel
theorem d_Machine_addChoice_36 : decode c_Machine_addChoice 36 = .ok (.getfield 73, 3) := by decide +kernel
theorem d_Machine_addChoice_39 : decode c_Machine_addChoice 39 = .ok (.invokestatic 49, 3) := by decide +kernel
theorem d_Machine_addChoice_42 : decode c_Machine_addChoice 42 = .ok (.aload_n 0, 1) := by decide +kernel
theorem d_Machine_addChoice_43 : decode c_Machine_addChoice 43 = .ok (.dup, 1) := by decide +kernel
theorem d_Machine_addChoice_44 : decode c_Machine_addChoice 44 = .ok (.getfield 70, 3) := by decide +kernel
theorem d_Machine_addChoice_47 : decode c_Machine_addChoice 47 = .ok (.iconst 1, 1) := by decide +kernel
theorem d_Machine_addChoice_48 : decode c_Machine_addChoice 48 = .ok (.iadd, 1) := by decide +kernel
theorem d_Machine_addChoice_49 : decode c_Machine_addChoice 49 = .ok (.putfield 70, 3) := by decide +kernel
theorem d_Machine_addChoice_52 : decode c_Machine_addChoice 52 = .ok (.return_, 1) := by decide +kernel
theorem d_Machine_setCell_0 : decode c_Machine_setCell 0 = .ok (.aload_n 0, 1) := by decide +kernel
theorem d_Machine_setCell_1 : decode c_Machine_setCell 1 = .ok (.getfield 17, 3) := by decide +kernel
theorem d_Machine_setCell_4 : decode c_Machine_setCell 4 = .ok (.iload_n 1, 1) := by decide +kernel
theorem d_Machine_setCell_5 : decode c_Machine_setCell 5 = .ok (.invokestatic 43, 3) := by decide +kernel
theorem d_Machine_setCell_8 : decode c_Machine_setCell 8 = .ok (.istore_n 3, 1) := by decide +kernel
theorem d_Machine_setCell_9 : decode c_Machine_setCell 9 = .ok (.iload_n 3, 1) := by decide +kernel
theorem d_Machine_setCell_10 : decode c_Machine_setCell 10 = .ok (.iload_n 2, 1) := by decide +kernel
theorem d_Machine_setCell_11 : decode c_Machine_setCell 11 = .ok (.if_icmp .eq 41, 3) := by decide +kernel
theorem d_Machine_setCell_14 : decode c_Machine_setCell 14 = .ok (.aload_n 0, 1) := by decide +kernel
theorem d_Machine_setCell_15 : decode c_Machine_setCell 15 = .ok (.getfield 30, 3) := by decide +kernel
theorem d_Machine_setCell_18 : decode c_Machine_setCell 18 = .ok (.aload_n 0, 1) := by decide +kernel
theorem d_Machine_setCell_19 : decode c_Machine_setCell 19 = .ok (.getfield 73, 3) := by decide +kernel
theorem d_Machine_setCell_22 : decode c_Machine_setCell 22 = .ok (.iload_n 1, 1) := by decide +kernel
theorem d_Machine_setCell_23 : decode c_Machine_setCell 23 = .ok (.bipush 16, 2) := by decide +kernel
theorem d_Machine_setCell_25 : decode c_Machine_setCell 25 = .ok (.ishl, 1) := by decide +kernel
theorem d_Machine_setCell_26 : decode c_Machine_setCell 26 = .ok (.iload_n 3, 1) := by decide +kernel
theorem d_Machine_setCell_27 : decode c_Machine_setCell 27 = .ok (.iconst 1, 1) := by decide +kernel
theorem d_Machine_setCell_28 : decode c_Machine_setCell 28 = .ok (.iadd, 1) := by decide +kernel
theorem d_Machine_setCell_29 : decode c_Machine_setCell 29 = .ok (.ior, 1) := by decide +kernel
theorem d_Machine_setCell_30 : decode c_Machine_setCell 30 = .ok (.invokestatic 49, 3) := by decide +kernel
theorem d_Machine_setCell_33 : decode c_Machine_setCell 33 = .ok (.aload_n 0, 1) := by decide +kernel
theorem d_Machine_setCell_34 : decode c_Machine_setCell 34 = .ok (.dup, 1) := by decide +kernel
theorem d_Machine_setCell_35 : decode c_Machine_setCell 35 = .ok (.getfield 73, 3) := by decide +kernel
theorem d_Machine_setCell_38 : decode c_Machine_setCell 38 = .ok (.iconst 1, 1) := by decide +kernel
theorem d_Machine_setCell_39 : decode c_Machine_setCell 39 = .ok (.iadd, 1) := by decide +kernel
theorem d_Machine_setCell_40 : decode c_Machine_setCell 40 = .ok (.putfield 73, 3) := by decide +kernel
theorem d_Machine_setCell_43 : decode c_Machine_setCell 43 = .ok (.aload_n 0, 1) := by decide +kernel
theorem d_Machine_setCell_44 : decode c_Machine_setCell 44 = .ok (.getfield 17, 3) := by decide +kernel
theorem d_Machine_setCell_47 : decode c_Machine_setCell 47 = .ok (.iload_n 1, 1) := by decide +kernel
theorem d_Machine_setCell_48 : decode c_Machine_setCell 48 = .ok (.iload_n 2, 1) := by decide +kernel
theorem d_Machine_setCell_49 : decode c_Machine_setCell 49 = .ok (.invokestatic 49, 3) := by decide +kernel
theorem d_Machine_setCell_52 : decode c_Machine_setCell 52 = .ok (.return_, 1) := by decide +kernel
theorem d_Machine_goOnOrEnd_0 : decode c_Machine_goOnOrEnd 0 = .ok (.aload_n 0, 1) := by decide +kernel
theorem d_Machine_goOnOrEnd_1 : decode c_Machine_goOnOrEnd 1 = .ok (.getfield 39, 3) := by decide +kernel
theorem d_Machine_goOnOrEnd_4 : decode c_Machine_goOnOrEnd 4 = .ok (.getfield 128, 3) := by decide +kernel
theorem d_Machine_goOnOrEnd_7 : decode c_Machine_goOnOrEnd 7 = .ok (.iload_n 1, 1) := by decide +kernel
theorem d_Machine_goOnOrEnd_8 : decode c_Machine_goOnOrEnd 8 = .ok (.invokestatic 43, 3) := by decide +kernel
theorem d_Machine_goOnOrEnd_11 : decode c_Machine_goOnOrEnd 11 = .ok (.istore_n 3, 1) := by decide +kernel
theorem d_Machine_goOnOrEnd_12 : decode c_Machine_goOnOrEnd 12 = .ok (.aload_n 0, 1) := by decide +kernel
theorem d_Machine_goOnOrEnd_13 : decode c_Machine_goOnOrEnd 13 = .ok (.getfield 39, 3) := by decide +kernel
theorem d_Machine_goOnOrEnd_16 : decode c_Machine_goOnOrEnd 16 = .ok (.getfield 88, 3) := by decide +kernel
theorem d_Machine_goOnOrEnd_19 : decode c_Machine_goOnOrEnd 19 = .ok (.iload_n 3, 1) := by decide +kernel
theorem d_Machine_goOnOrEnd_20 : decode c_Machine_goOnOrEnd 20 = .ok (.invokestatic 43, 3) := by decide +kernel
theorem d_Machine_goOnOrEnd_23 : decode c_Machine_goOnOrEnd 23 = .ok (.istore 4, 2) := by decide +kernel
theorem d_Machine_goOnOrEnd_25 : decode c_Machine_goOnOrEnd 25 = .ok (.iload_n 3, 1) := by decide +kernel
theorem d_Machine_goOnOrEnd_26 : decode c_Machine_goOnOrEnd 26 = .ok (.iconst 1, 1) := by decide +kernel
theorem d_Machine_goOnOrEnd_27 : decode c_Machine_goOnOrEnd 27 = .ok (.iadd, 1) := by decide +kernel
theorem d_Machine_goOnOrEnd_28 : decode c_Machine_goOnOrEnd 28 = .ok (.istore 5, 2) := by decide +kernel
theorem d_Machine_goOnOrEnd_30 : decode c_Machine_goOnOrEnd 30 = .ok (.iload_n 2, 1) := by decide +kernel
theorem d_Machine_goOnOrEnd_31 : decode c_Machine_goOnOrEnd 31 = .ok (.aload_n 0, 1) := by decide +kernel
theorem d_Machine_goOnOrEnd_32 : decode c_Machine_goOnOrEnd 32 = .ok (.getfield 39, 3) := by decide +kernel
theorem d_Machine_goOnOrEnd_35 : decode c_Machine_goOnOrEnd 35 = .ok (.getfield 131, 3) := by decide +kernel
theorem d_Machine_goOnOrEnd_38 : decode c_Machine_goOnOrEnd 38 = .ok (.iload_n 1, 1) := by decide +kernel
theorem d_Machine_goOnOrEnd_39 : decode c_Machine_goOnOrEnd 39 = .ok (.invokestatic 43, 3) := by decide +kernel
theorem d_Machine_goOnOrEnd_42 : decode c_Machine_goOnOrEnd 42 = .ok (.if_icmp .lt 6, 3) := by decide +kernel
theorem d_Machine_goOnOrEnd_45 : decode c_Machine_goOnOrEnd 45 = .ok (.iload 4, 2) := by decide +kernel
theorem d_Machine_goOnOrEnd_47 : decode c_Machine_goOnOrEnd 47 = .ok (.ireturn, 1) := by decide +kernel
theorem d_Machine_goOnOrEnd_48 : decode c_Machine_goOnOrEnd 48 = .ok (.iload_n 2, 1) := by decide +kernel
theorem d_Machine_goOnOrEnd_49 : decode c_Machine_goOnOrEnd 49 = .ok (.aload_n 0, 1) := by decide +kernel
theorem d_Machine_goOnOrEnd_50 : decode c_Machine_goOnOrEnd 50 = .ok (.getfield 39, 3) := by decide +kernel
theorem d_Machine_goOnOrEnd_53 : decode c_Machine_goOnOrEnd 53 = .ok (.getfield 134, 3) := by decide +kernel
theorem d_Machine_goOnOrEnd_56 : decode c_Machine_goOnOrEnd 56 = .ok (.iload_n 1, 1) := by decide +kernel
theorem d_Machine_goOnOrEnd_57 : decode c_Machine_goOnOrEnd 57 = .ok (.invokestatic 43, 3) := by decide +kernel
theorem d_Machine_goOnOrEnd_60 : decode c_Machine_goOnOrEnd 60 = .ok (.if_icmp .ge 6, 3) := by decide +kernel
theorem d_Machine_goOnOrEnd_63 : decode c_Machine_goOnOrEnd 63 = .ok (.iload 5, 2) := by decide +kernel
theorem d_Machine_goOnOrEnd_65 : decode c_Machine_goOnOrEnd 65 = .ok (.ireturn, 1) := by decide +kernel
theorem d_Machine_goOnOrEnd_66 : decode c_Machine_goOnOrEnd 66 = .ok (.aload_n 0, 1) := by decide +kernel
theorem d_Machine_goOnOrEnd_67 : decode c_Machine_goOnOrEnd 67 = .ok (.getfield 39, 3) := by decide +kernel
theorem d_Machine_goOnOrEnd_70 : decode c_Machine_goOnOrEnd 70 = .ok (.getfield 137, 3) := by decide +kernel
theorem d_Machine_goOnOrEnd_73 : decode c_Machine_goOnOrEnd 73 = .ok (.iload_n 1, 1) := by decide +kernel
theorem d_Machine_goOnOrEnd_74 : decode c_Machine_goOnOrEnd 74 = .ok (.invokestatic 43, 3) := by decide +kernel
theorem d_Machine_goOnOrEnd_77 : decode c_Machine_goOnOrEnd 77 = .ok (.ifCond .eq 12, 3) := by decide +kernel
theorem d_Machine_goOnOrEnd_80 : decode c_Machine_goOnOrEnd 80 = .ok (.aload_n 0, 1) := by decide +kernel
theorem d_Machine_goOnOrEnd_81 : decode c_Machine_goOnOrEnd 81 = .ok (.iload 5, 2) := by decide +kernel
theorem d_Machine_goOnOrEnd_83 : decode c_Machine_goOnOrEnd 83 = .ok (.invokevirtual 106, 3) := by decide +kernel
theorem d_Machine_goOnOrEnd_86 : decode c_Machine_goOnOrEnd 86 = .ok (.iload 4, 2) := by decide +kernel
theorem d_Machine_goOnOrEnd_88 : decode c_Machine_goOnOrEnd 88 = .ok (.ireturn, 1) := by decide +kernel
theorem d_Machine_goOnOrEnd_89 : decode c_Machine_goOnOrEnd 89 = .ok (.aload_n 0, 1) := by decide +kernel
theorem d_Machine_goOnOrEnd_90 : decode c_Machine_goOnOrEnd 90 = .ok (.iload 4, 2) := by decide +kernel
theorem d_Machine_goOnOrEnd_92 : decode c_Machine_goOnOrEnd 92 = .ok (.invokevirtual 106, 3) := by decide +kernel
theorem d_Machine_goOnOrEnd_95 : decode c_Machine_goOnOrEnd 95 = .ok (.iload 5, 2) := by decide +kernel
theorem d_Machine_goOnOrEnd_97 : decode c_Machine_goOnOrEnd 97 = .ok (.ireturn, 1) := by decide +kernel
theorem d_Machine_enterRepetition_0 : decode c_Machine_enterRepetition 0 = .ok (.aload_n 0, 1) := by decide +kernel
theorem d_Machine_enterRepetition_1 : decode c_Machine_enterRepetition 1 = .ok (.sipush 163, 3) := by decide +kernel
theorem d_Machine_enterRepetition_4 : decode c_Machine_enterRepetition 4 = .ok (.iload_n 1, 1) := by decide +kernel
theorem d_Machine_enterRepetition_5 : decode c_Machine_enterRepetition 5 = .ok (.iadd, 1) := by decide +kernel
theorem d_Machine_enterRepetition_6 : decode c_Machine_enterRepetition 6 = .ok (.aload_n 0, 1) := by decide +kernel
theorem d_Machine_enterRepetition_7 : decode c_Machine_enterRepetition 7 = .ok (.getfield 67, 3) := by decide +kernel
theorem d_Machine_enterRepetition_10 : decode c_Machine_enterRepetition 10 = .ok (.invokevirtual 110, 3) := by decide +kernel
theorem d_Machine_enterRepetition_13 : decode c_Machine_enterRepetition 13 = .ok (.aload_n 0, 1) := by decide +kernel
theorem d_Machine_enterRepetition_14 : decode c_Machine_enterRepetition 14 = .ok (.getfield 39, 3) := by decide +kernel
theorem d_Machine_enterRepetition_17 : decode c_Machine_enterRepetition 17 = .ok (.getfield 140, 3) := by decide +kernel
theorem d_Machine_enterRepetition_20 : decode c_Machine_enterRepetition 20 = .ok (.iload_n 1, 1) := by decide +kernel
theorem d_Machine_enterRepetition_21 : decode c_Machine_enterRepetition 21 = .ok (.invokestatic 43, 3) := by decide +kernel
theorem d_Machine_enterRepetition_24 : decode c_Machine_enterRepetition 24 = .ok (.istore_n 2, 1) := by decide +kernel
theorem d_Machine_enterRepetition_25 : decode c_Machine_enterRepetition 25 = .ok (.aload_n 0, 1) := by decide +kernel
theorem d_Machine_enterRepetition_26 : decode c_Machine_enterRepetition 26 = .ok (.getfield 39, 3) := by decide +kernel
theorem d_Machine_enterRepetition_29 : decode c_Machine_enterRepetition 29 = .ok (.getfield 143, 3) := by decide +kernel
theorem d_Machine_enterRepetition_32 : decode c_Machine_enterRepetition 32 = .ok (.iload_n 1, 1) := by decide +kernel
theorem d_Machine_enterRepetition_33 : decode c_Machine_enterRepetition 33 = .ok (.invokestatic 43, 3) := by decide +kernel
theorem d_Machine_enterRepetition_36 : decode c_Machine_enterRepetition 36 = .ok (.iconst 1, 1) := by decide +kernel
theorem d_Machine_enterRepetition_37 : decode c_Machine_enterRepetition 37 = .ok (.iadd, 1) := by decide +kernel
theorem d_Machine_enterRepetition_38 : decode c_Machine_enterRepetition 38 = .ok (.istore_n 3, 1) := by decide +kernel
theorem d_Machine_enterRepetition_39 : decode c_Machine_enterRepetition 39 = .ok (.iload_n 3, 1) := by decide +kernel
theorem d_Machine_enterRepetition_40 : decode c_Machine_enterRepetition 40 = .ok (.iload_n 2, 1) := by decide +kernel
theorem d_Machine_enterRepetition_41 : decode c_Machine_enterRepetition 41 = .ok (.if_icmp .gt 17, 3) := by decide +kernel
theorem d_Machine_enterRepetition_44 : decode c_Machine_enterRepetition 44 = .ok (.aload_n 0, 1) := by decide +kernel
theorem d_Machine_enterRepetition_45 : decode c_Machine_enterRepetition 45 = .ok (.iconst 0, 1) := by decide +kernel
theorem d_Machine_enterRepetition_46 : decode c_Machine_enterRepetition 46 = .ok (.iload_n 3, 1) := by decide +kernel
theorem d_Machine_enterRepetition_47 : decode c_Machine_enterRepetition 47 = .ok (.iadd, 1) := by decide +kernel
theorem d_Machine_enterRepetition_48 : decode c_Machine_enterRepetition 48 = .ok (.iconst (-1), 1) := by decide +kernel
theorem d_Machine_enterRepetition_49 : decode c_Machine_enterRepetition 49 = .ok (.invokevirtual 110, 3) := by decide +kernel
theorem d_Machine_enterRepetition_52 : decode c_Machine_enterRepetition 52 = .ok (.iinc 3 1, 3) := by decide +kernel
theorem d_Machine_enterRepetition_55 : decode c_Machine_enterRepetition 55 = .ok (.goto (-16), 3) := by decide +kernel
theorem d_Machine_enterRepetition_58 : decode c_Machine_enterRepetition 58 = .ok (.return_, 1) := by decide +kernel
theorem d_Machine_endRepetition_0 : decode c_Machine_endRepetition 0 = .ok (.aload_n 0, 1) := by decide +kernel
theorem d_Machine_endRepetition_1 : decode c_Machine_endRepetition 1 = .ok (.getfield 17, 3) := by decide +kernel
theorem d_Machine_endRepetition_4 : decode c_Machine_endRepetition 4 = .ok (.bipush 63, 2) := by decide +kernel
theorem d_Machine_endRepetition_6 : decode c_Machine_endRepetition 6 = .ok (.iload_n 1, 1) := by decide +kernel
theorem d_Machine_endRepetition_7 : decode c_Machine_endRepetition 7 = .ok (.iadd, 1) := by decide +kernel
theorem d_Machine_endRepetition_8 : decode c_Machine_endRepetition 8 = .ok (.invokestatic 43, 3) := by decide +kernel
theorem d_Machine_endRepetition_11 : decode c_Machine_endRepetition 11 = .ok (.istore_n 2, 1) := by decide +kernel
theorem d_Machine_endRepetition_12 : decode c_Machine_endRepetition 12 = .ok (.iload_n 2, 1) := by decide +kernel
theorem d_Machine_endRepetition_13 : decode c_Machine_endRepetition 13 = .ok (.aload_n 0, 1) := by decide +kernel
theorem d_Machine_endRepetition_14 : decode c_Machine_endRepetition 14 = .ok (.getfield 39, 3) := by decide +kernel
theorem d_Machine_endRepetition_17 : decode c_Machine_endRepetition 17 = .ok (.getfield 134, 3) := by decide +kernel
theorem d_Machine_endRepetition_20 : decode c_Machine_endRepetition 20 = .ok (.iload_n 1, 1) := by decide +kernel
theorem d_Machine_endRepetition_21 : decode c_Machine_endRepetition 21 = .ok (.invokestatic 43, 3) := by decide +kernel
theorem d_Machine_endRepetition_24 : decode c_Machine_endRepetition 24 = .ok (.if_icmp .lt 7, 3) := by decide +kernel
theorem d_Machine_endRepetition_27 : decode c_Machine_endRepetition 27 = .ok (.iconst 1, 1) := by decide +kernel
theorem d_Machine_endRepetition_28 : decode c_Machine_endRepetition 28 = .ok (.goto 4, 3) := by decide +kernel
theorem d_Machine_endRepetition_31 : decode c_Machine_endRepetition 31 = .ok (.iconst 0, 1) := by decide +kernel
theorem d_Machine_endRepetition_32 : decode c_Machine_endRepetition 32 = .ok (.istore_n 3, 1) := by decide +kernel
theorem d_Machine_endRepetition_33 : decode c_Machine_endRepetition 33 = .ok (.iload_n 3, 1) := by decide +kernel
theorem d_Machine_endRepetition_34 : decode c_Machine_endRepetition 34 = .ok (.ifCond .eq 25, 3) := by decide +kernel
theorem d_Machine_endRepetition_37 : decode c_Machine_endRepetition 37 = .ok (.aload_n 0, 1) := by decide +kernel
theorem d_Machine_endRepetition_38 : decode c_Machine_endRepetition 38 = .ok (.getfield 67, 3) := by decide +kernel
theorem d_Machine_endRepetition_41 : decode c_Machine_endRepetition 41 = .ok (.aload_n 0, 1) := by decide +kernel
theorem d_Machine_endRepetition_42 : decode c_Machine_endRepetition 42 = .ok (.getfield 17, 3) := by decide +kernel
theorem d_Machine_endRepetition_45 : decode c_Machine_endRepetition 45 = .ok (.sipush 163, 3) := by decide +kernel
theorem d_Machine_endRepetition_48 : decode c_Machine_endRepetition 48 = .ok (.iload_n 1, 1) := by decide +kernel
theorem d_Machine_endRepetition_49 : decode c_Machine_endRepetition 49 = .ok (.iadd, 1) := by decide +kernel
theorem d_Machine_endRepetition_50 : decode c_Machine_endRepetition 50 = .ok (.invokestatic 43, 3) := by decide +kernel
theorem d_Machine_endRepetition_53 : decode c_Machine_endRepetition 53 = .ok (.if_icmp .ne 6, 3) := by decide +kernel
theorem d_Machine_endRepetition_56 : decode c_Machine_endRepetition 56 = .ok (.bipush (-2), 2) := by decide +kernel
theorem d_Machine_endRepetition_58 : decode c_Machine_endRepetition 58 = .ok (.ireturn, 1) := by decide +kernel
theorem d_Machine_endRepetition_59 : decode c_Machine_endRepetition 59 = .ok (.aload_n 0, 1) := by decide +kernel
theorem d_Machine_endRepetition_60 : decode c_Machine_endRepetition 60 = .ok (.invokevirtual 94, 3) := by decide +kernel
theorem d_Machine_endRepetition_63 : decode c_Machine_endRepetition 63 = .ok (.ifCond .ne 6, 3) := by decide +kernel
theorem d_Machine_endRepetition_66 : decode c_Machine_endRepetition 66 = .ok (.bipush (-3), 2) := by decide +kernel
theorem d_Machine_endRepetition_68 : decode c_Machine_endRepetition 68 = .ok (.ireturn, 1) := by decide +kernel
theorem d_Machine_endRepetition_69 : decode c_Machine_endRepetition 69 = .ok (.aload_n 0, 1) := by decide +kernel
theorem d_Machine_endRepetition_70 : decode c_Machine_endRepetition 70 = .ok (.bipush 63, 2) := by decide +kernel
theorem d_Machine_endRepetition_72 : decode c_Machine_endRepetition 72 = .ok (.iload_n 1, 1) := by decide +kernel
theorem d_Machine_endRepetition_73 : decode c_Machine_endRepetition 73 = .ok (.iadd, 1) := by decide +kernel
theorem d_Machine_endRepetition_74 : decode c_Machine_endRepetition 74 = .ok (.iload_n 2, 1) := by decide +kernel
theorem d_Machine_endRepetition_75 : decode c_Machine_endRepetition 75 = .ok (.iconst 1, 1) := by decide +kernel
theorem d_Machine_endRepetition_76 : decode c_Machine_endRepetition 76 = .ok (.iadd, 1) := by decide +kernel
theorem d_Machine_endRepetition_77 : decode c_Machine_endRepetition 77 = .ok (.invokevirtual 110, 3) := by decide +kernel
theorem d_Machine_endRepetition_80 : decode c_Machine_endRepetition 80 = .ok (.aload_n 0, 1) := by decide +kernel
theorem d_Machine_endRepetition_81 : decode c_Machine_endRepetition 81 = .ok (.iload_n 1, 1) := by decide +kernel
theorem d_Machine_endRepetition_82 : decode c_Machine_endRepetition 82 = .ok (.iload_n 2, 1) := by decide +kernel
theorem d_Machine_endRepetition_83 : decode c_Machine_endRepetition 83 = .ok (.iconst 1, 1) := by decide +kernel
theorem d_Machine_endRepetition_84 : decode c_Machine_endRepetition 84 = .ok (.iadd, 1) := by decide +kernel
theorem d_Machine_endRepetition_85 : decode c_Machine_endRepetition 85 = .ok (.invokevirtual 114, 3) := by decide +kernel
theorem d_Machine_endRepetition_88 : decode c_Machine_endRepetition 88 = .ok (.ireturn, 1) := by decide +kernel
theorem d_Machine_beginLook_0 : decode c_Machine_beginLook 0 = .ok (.aload_n 0, 1) := by decide +kernel
theorem d_Machine_beginLook_1 : decode c_Machine_beginLook 1 = .ok (.getfield 33, 3) := by decide +kernel
theorem d_Machine_beginLook_4 : decode c_Machine_beginLook 4 = .ok (.iload_n 2, 1) := by decide +kernel
theorem d_Machine_beginLook_5 : decode c_Machine_beginLook 5 = .ok (.aload_n 0, 1) := by decide +kernel
theorem d_Machine_beginLook_6 : decode c_Machine_beginLook 6 = .ok (.getfield 70, 3) := by decide +kernel
theorem d_Machine_beginLook_9 : decode c_Machine_beginLook 9 = .ok (.invokestatic 49, 3) := by decide +kernel
theorem d_Machine_beginLook_12 : decode c_Machine_beginLook 12 = .ok (.aload_n 0, 1) := by decide +kernel
theorem d_Machine_beginLook_13 : decode c_Machine_beginLook 13 = .ok (.getfield 36, 3) := by decide +kernel
theorem d_Machine_beginLook_16 : decode c_Machine_beginLook 16 = .ok (.iload_n 2, 1) := by decide +kernel
theorem d_Machine_beginLook_17 : decode c_Machine_beginLook 17 = .ok (.aload_n 0, 1) := by decide +kernel
theorem d_Machine_beginLook_18 : decode c_Machine_beginLook 18 = .ok (.getfield 67, 3) := by decide +kernel
theorem d_Machine_beginLook_21 : decode c_Machine_beginLook 21 = .ok (.invokestatic 49, 3) := by decide +kernel
theorem d_Machine_beginLook_24 : decode c_Machine_beginLook 24 = .ok (.iload_n 1, 1) := by decide +kernel
theorem d_Machine_beginLook_25 : decode c_Machine_beginLook 25 = .ok (.bipush 21, 2) := by decide +kernel
theorem d_Machine_beginLook_27 : decode c_Machine_beginLook 27 = .ok (.if_icmp .ne 20, 3) := by decide +kernel
theorem d_Machine_beginLook_30 : decode c_Machine_beginLook 30 = .ok (.aload_n 0, 1) := by decide +kernel
theorem d_Machine_beginLook_31 : decode c_Machine_beginLook 31 = .ok (.aload_n 0, 1) := by decide +kernel
theorem d_Machine_beginLook_32 : decode c_Machine_beginLook 32 = .ok (.getfield 39, 3) := by decide +kernel
theorem d_Machine_beginLook_35 : decode c_Machine_beginLook 35 = .ok (.getfield 88, 3) := by decide +kernel
theorem d_Machine_beginLook_38 : decode c_Machine_beginLook 38 = .ok (.iload_n 3, 1) := by decide +kernel
theorem d_Machine_beginLook_39 : decode c_Machine_beginLook 39 = .ok (.iconst 1, 1) := by decide +kernel
theorem d_Machine_beginLook_40 : decode c_Machine_beginLook 40 = .ok (.iadd, 1) := by decide +kernel
theorem d_Machine_beginLook_41 : decode c_Machine_beginLook 41 = .ok (.invokestatic 43, 3) := by decide +kernel
theorem d_Machine_beginLook_44 : decode c_Machine_beginLook 44 = .ok (.invokevirtual 106, 3) := by decide +kernel
theorem d_Machine_beginLook_47 : decode c_Machine_beginLook 47 = .ok (.return_, 1) := by decide +kernel
theorem d_Machine_perform_0 : decode c_Machine_perform 0 = .ok (.aload_n 0, 1) := by decide +kernel
theorem d_Machine_perform_1 : decode c_Machine_perform 1 = .ok (.getfield 39, 3) := by decide +kernel
theorem d_Machine_perform_4 : decode c_Machine_perform 4 = .ok (.getfield 85, 3) := by decide +kernel
theorem d_Machine_perform_7 : decode c_Machine_perform 7 = .ok (.iload_n 1, 1) := by decide +kernel
theorem d_Machine_perform_8 : decode c_Machine_perform 8 = .ok (.invokestatic 43, 3) := by decide +kernel
theorem d_Machine_perform_11 : decode c_Machine_perform 11 = .ok (.istore_n 2, 1) := by decide +kernel
theorem d_Machine_perform_12 : decode c_Machine_perform 12 = .ok (.aload_n 0, 1) := by decide +kernel
theorem d_Machine_perform_13 : decode c_Machine_perform 13 = .ok (.getfield 39, 3) := by decide +kernel
theorem d_Machine_perform_16 : decode c_Machine_perform 16 = .ok (.getfield 88, 3) := by decide +kernel
theorem d_Machine_perform_19 : decode c_Machine_perform 19 = .ok (.iload_n 1, 1) := by decide +kernel
theorem d_Machine_perform_20 : decode c_Machine_perform 20 = .ok (.invokestatic 43, 3) := by decide +kernel
theorem d_Machine_perform_23 : decode c_Machine_perform 23 = .ok (.istore_n 3, 1) := by decide +kernel
theorem d_Machine_perform_24 : decode c_Machine_perform 24 = .ok (.aload_n 0, 1) := by decide +kernel
theorem d_Machine_perform_25 : decode c_Machine_perform 25 = .ok (.getfield 39, 3) := by decide +kernel
theorem d_Machine_perform_28 : decode c_Machine_perform 28 = .ok (.getfield 91, 3) := by decide +kernel
theorem d_Machine_perform_31 : decode c_Machine_perform 31 = .ok (.iload_n 1, 1) := by decide +kernel
theorem d_Machine_perform_32 : decode c_Machine_perform 32 = .ok (.invokestatic 43, 3) := by decide +kernel
theorem d_Machine_perform_35 : decode c_Machine_perform 35 = .ok (.istore 4, 2) := by decide +kernel
theorem d_Machine_perform_37 : decode c_Machine_perform 37 = .ok (.iload_n 2, 1) := by decide +kernel
theorem d_Machine_perform_38 : decode c_Machine_perform 38 = .ok (.ifCond .ne 5, 3) := by decide +kernel
theorem d_Machine_perform_41 : decode c_Machine_perform 41 = .ok (.iconst (-1), 1) := by decide +kernel
theorem d_Machine_perform_42 : decode c_Machine_perform 42 = .ok (.ireturn, 1) := by decide +kernel
theorem d_Machine_perform_43 : decode c_Machine_perform 43 = .ok (.iload_n 2, 1) := by decide +kernel
theorem d_Machine_perform_44 : decode c_Machine_perform 44 = .ok (.bipush 12, 2) := by decide +kernel
theorem d_Machine_perform_46 : decode c_Machine_perform 46 = .ok (.if_icmp .gt 13, 3) := by decide +kernel
theorem d_Machine_perform_49 : decode c_Machine_perform 49 = .ok (.aload_n 0, 1) := by decide +kernel
theorem d_Machine_perform_50 : decode c_Machine_perform 50 = .ok (.invokevirtual 94, 3) := by decide +kernel
theorem d_Machine_perform_53 : decode c_Machine_perform 53 = .ok (.ifCond .ne 6, 3) := by decide +kernel
theorem d_Machine_perform_56 : decode c_Machine_perform 56 = .ok (.bipush (-3), 2) := by decide +kernel
theorem d_Machine_perform_58 : decode c_Machine_perform 58 = .ok (.ireturn, 1) := by decide +kernel
theorem d_Machine_perform_59 : decode c_Machine_perform 59 = .ok (.iload_n 2, 1) := by decide +kernel
theorem d_Machine_perform_60 : decode c_Machine_perform 60 = .ok (.iconst 5, 1) := by decide +kernel
theorem d_Machine_perform_61 : decode c_Machine_perform 61 = .ok (.if_icmp .gt 21, 3) := by decide +kernel
theorem d_Machine_perform_64 : decode c_Machine_perform 64 = .ok (.aload_n 0, 1) := by decide +kernel
theorem d_Machine_perform_65 : decode c_Machine_perform 65 = .ok (.iload_n 2, 1) := by decide +kernel
theorem d_Machine_perform_66 : decode c_Machine_perform 66 = .ok (.iload 4, 2) := by decide +kernel
theorem d_Machine_perform_68 : decode c_Machine_perform 68 = .ok (.iload_n 1, 1) := by decide +kernel
theorem d_Machine_perform_69 : decode c_Machine_perform 69 = .ok (.invokevirtual 98, 3) := by decide +kernel
theorem d_Machine_perform_72 : decode c_Machine_perform 72 = .ok (.ifCond .eq 7, 3) := by decide +kernel
theorem d_Machine_perform_75 : decode c_Machine_perform 75 = .ok (.iload_n 3, 1) := by decide +kernel
theorem d_Machine_perform_76 : decode c_Machine_perform 76 = .ok (.goto 5, 3) := by decide +kernel
theorem d_Machine_perform_79 : decode c_Machine_perform 79 = .ok (.bipush (-2), 2) := by decide +kernel
theorem d_Machine_perform_81 : decode c_Machine_perform 81 = .ok (.ireturn, 1) := by decide +kernel
theorem d_Machine_perform_82 : decode c_Machine_perform 82 = .ok (.iload_n 2, 1) := by decide +kernel
theorem d_Machine_perform_83 : decode c_Machine_perform 83 = .ok (.bipush 10, 2) := by decide +kernel
theorem d_Machine_perform_85 : decode c_Machine_perform 85 = .ok (.if_icmp .gt 20, 3) := by decide +kernel
theorem d_Machine_perform_88 : decode c_Machine_perform 88 = .ok (.aload_n 0, 1) := by decide +kernel
theorem d_Machine_perform_89 : decode c_Machine_perform 89 = .ok (.iload_n 2, 1) := by decide +kernel
theorem d_Machine_perform_90 : decode c_Machine_perform 90 = .ok (.iload 4, 2) := by decide +kernel
theorem d_Machine_perform_92 : decode c_Machine_perform 92 = .ok (.invokevirtual 102, 3) := by decide +kernel
theorem d_Machine_perform_95 : decode c_Machine_perform 95 = .ok (.ifCond .eq 7, 3) := by decide +kernel
theorem d_Machine_perform_98 : decode c_Machine_perform 98 = .ok (.iload_n 3, 1) := by decide +kernel
theorem d_Machine_perform_99 : decode c_Machine_perform 99 = .ok (.goto 5, 3) := by decide +kernel
theorem d_Machine_perform_102 : decode c_Machine_perform 102 = .ok (.bipush (-2), 2) := by decide +kernel
theorem d_Machine_perform_104 : decode c_Machine_perform 104 = .ok (.ireturn, 1) := by decide +kernel
theorem d_Machine_perform_105 : decode c_Machine_perform 105 = .ok (.iload_n 2, 1) := by decide +kernel
theorem d_Machine_perform_106 : decode c_Machine_perform 106 = .ok (.tableswitch 213 11 22 #[62, 76, 94, 102, 109, 124, 213, 213, 159, 169, 159, 197], 62) := by decide +kernel
theorem d_Machine_perform_168 : decode c_Machine_perform 168 = .ok (.iload 4, 2) := by decide +kernel
theorem d_Machine_perform_170 : decode c_Machine_perform 170 = .ok (.iconst (-1), 1) := by decide +kernel
theorem d_Machine_perform_171 : decode c_Machine_perform 171 = .ok (.if_icmp .eq 9, 3) := by decide +kernel
theorem d_Machine_perform_174 : decode c_Machine_perform 174 = .ok (.aload_n 0, 1) := by decide +kernel
theorem d_Machine_perform_175 : decode c_Machine_perform 175 = .ok (.iload 4, 2) := by decide +kernel
theorem d_Machine_perform_177 : decode c_Machine_perform 177 = .ok (.invokevirtual 106, 3) := by decide +kernel
theorem d_Machine_perform_180 : decode c_Machine_perform 180 = .ok (.iload_n 3, 1) := by decide +kernel
theorem d_Machine_perform_181 : decode c_Machine_perform 181 = .ok (.ireturn, 1) := by decide +kernel
theorem d_Machine_perform_182 : decode c_Machine_perform 182 = .ok (.aload_n 0, 1) := by decide +kernel
theorem d_Machine_perform_183 : decode c_Machine_perform 183 = .ok (.bipush 63, 2) := by decide +kernel
theorem d_Machine_perform_185 : decode c_Machine_perform 185 = .ok (.iload 4, 2) := by decide +kernel
theorem d_Machine_perform_187 : decode c_Machine_perform 187 = .ok (.iadd, 1) := by decide +kernel
theorem d_Machine_perform_188 : decode c_Machine_perform 188 = .ok (.iconst 0, 1) := by decide +kernel
theorem d_Machine_perform_189 : decode c_Machine_perform 189 = .ok (.invokevirtual 110, 3) := by decide +kernel
theorem d_Machine_perform_192 : decode c_Machine_perform 192 = .ok (.aload_n 0, 1) := by decide +kernel
theorem d_Machine_perform_193 : decode c_Machine_perform 193 = .ok (.iload 4, 2) := by decide +kernel
theorem d_Machine_perform_195 : decode c_Machine_perform 195 = .ok (.iconst 0, 1) := by decide +kernel
theorem d_Machine_perform_196 : decode c_Machine_perform 196 = .ok (.invokevirtual 114, 3) := by decide +kernel
theorem d_Machine_perform_199 : decode c_Machine_perform 199 = .ok (.ireturn, 1) := by decide +kernel
theorem d_Machine_perform_200 : decode c_Machine_perform 200 = .ok (.aload_n 0, 1) := by decide +kernel
theorem d_Machine_perform_201 : decode c_Machine_perform 201 = .ok (.iload 4, 2) := by decide +kernel
theorem d_Machine_perform_203 : decode c_Machine_perform 203 = .ok (.invokevirtual 118, 3) := by decide +kernel
theorem d_Machine_perform_206 : decode c_Machine_perform 206 = .ok (.iload_n 3, 1) := by decide +kernel
theorem d_Machine_perform_207 : decode c_Machine_perform 207 = .ok (.ireturn, 1) := by decide +kernel
theorem d_Machine_perform_208 : decode c_Machine_perform 208 = .ok (.aload_n 0, 1) := by decide +kernel
theorem d_Machine_perform_209 : decode c_Machine_perform 209 = .ok (.iload 4, 2) := by decide +kernel
theorem d_Machine_perform_211 : decode c_Machine_perform 211 = .ok (.invokevirtual 121, 3) := by decide +kernel
theorem d_Machine_perform_214 : decode c_Machine_perform 214 = .ok (.ireturn, 1) := by decide +kernel
theorem d_Machine_perform_215 : decode c_Machine_perform 215 = .ok (.aload_n 0, 1) := by decide +kernel
theorem d_Machine_perform_216 : decode c_Machine_perform 216 = .ok (.bipush 42, 2) := by decide +kernel
theorem d_Machine_perform_218 : decode c_Machine_perform 218 = .ok (.iload 4, 2) := by decide +kernel
theorem d_Machine_perform_220 : decode c_Machine_perform 220 = .ok (.iadd, 1) := by decide +kernel
theorem d_Machine_perform_221 : decode c_Machine_perform 221 = .ok (.aload_n 0, 1) := by decide +kernel
theorem d_Machine_perform_222 : decode c_Machine_perform 222 = .ok (.getfield 67, 3) := by decide +kernel
theorem d_Machine_perform_225 : decode c_Machine_perform 225 = .ok (.invokevirtual 110, 3) := by decide +kernel
theorem d_Machine_perform_228 : decode c_Machine_perform 228 = .ok (.iload_n 3, 1) := by decide +kernel
theorem d_Machine_perform_229 : decode c_Machine_perform 229 = .ok (.ireturn, 1) := by decide +kernel
theorem d_Machine_perform_230 : decode c_Machine_perform 230 = .ok (.aload_n 0, 1) := by decide +kernel
theorem d_Machine_perform_231 : decode c_Machine_perform 231 = .ok (.iconst 0, 1) := by decide +kernel
theorem d_Machine_perform_232 : decode c_Machine_perform 232 = .ok (.iload 4, 2) := by decide +kernel
theorem d_Machine_perform_234 : decode c_Machine_perform 234 = .ok (.iadd, 1) := by decide +kernel
theorem d_Machine_perform_235 : decode c_Machine_perform 235 = .ok (.aload_n 0, 1) := by decide +kernel
theorem d_Machine_perform_236 : decode c_Machine_perform 236 = .ok (.getfield 17, 3) := by decide +kernel
theorem d_Machine_perform_239 : decode c_Machine_perform 239 = .ok (.bipush 42, 2) := by decide +kernel
theorem d_Machine_perform_241 : decode c_Machine_perform 241 = .ok (.iload 4, 2) := by decide +kernel
theorem d_Machine_perform_243 : decode c_Machine_perform 243 = .ok (.iadd, 1) := by decide +kernel
theorem d_Machine_perform_244 : decode c_Machine_perform 244 = .ok (.invokestatic 43, 3) := by decide +kernel
theorem d_Machine_perform_247 : decode c_Machine_perform 247 = .ok (.invokevirtual 110, 3) := by decide +kernel
theorem d_Machine_perform_250 : decode c_Machine_perform 250 = .ok (.aload_n 0, 1) := by decide +kernel
theorem d_Machine_perform_251 : decode c_Machine_perform 251 = .ok (.bipush 21, 2) := by decide +kernel
theorem d_Machine_perform_253 : decode c_Machine_perform 253 = .ok (.iload 4, 2) := by decide +kernel
theorem d_Machine_perform_255 : decode c_Machine_perform 255 = .ok (.iadd, 1) := by decide +kernel
theorem d_Machine_perform_256 : decode c_Machine_perform 256 = .ok (.aload_n 0, 1) := by decide +kernel
theorem d_Machine_perform_257 : decode c_Machine_perform 257 = .ok (.getfield 67, 3) := by decide +kernel
theorem d_Machine_perform_260 : decode c_Machine_perform 260 = .ok (.invokevirtual 110, 3) := by decide +kernel
theorem d_Machine_perform_263 : decode c_Machine_perform 263 = .ok (.iload_n 3, 1) := by decide +kernel
theorem d_Machine_perform_264 : decode c_Machine_perform 264 = .ok (.ireturn, 1) := by decide +kernel
theorem d_Machine_perform_265 : decode c_Machine_perform 265 = .ok (.aload_n 0, 1) := by decide +kernel
theorem d_Machine_perform_266 : decode c_Machine_perform 266 = .ok (.iload_n 2, 1) := by decide +kernel
theorem d_Machine_perform_267 : decode c_Machine_perform 267 = .ok (.iload 4, 2) := by decide +kernel
theorem d_Machine_perform_269 : decode c_Machine_perform 269 = .ok (.iload_n 1, 1) := by decide +kernel
theorem d_Machine_perform_270 : decode c_Machine_perform 270 = .ok (.invokevirtual 124, 3) := by decide +kernel
theorem d_Machine_perform_273 : decode c_Machine_perform 273 = .ok (.iload_n 3, 1) := by decide +kernel
theorem d_Machine_perform_274 : decode c_Machine_perform 274 = .ok (.ireturn, 1) := by decide +kernel
theorem d_Machine_perform_275 : decode c_Machine_perform 275 = .ok (.aload_n 0, 1) := by decide +kernel
theorem d_Machine_perform_276 : decode c_Machine_perform 276 = .ok (.aload_n 0, 1) := by decide +kernel
theorem d_Machine_perform_277 : decode c_Machine_perform 277 = .ok (.getfield 33, 3) := by decide +kernel
theorem d_Machine_perform_280 : decode c_Machine_perform 280 = .ok (.iload 4, 2) := by decide +kernel
theorem d_Machine_perform_282 : decode c_Machine_perform 282 = .ok (.invokestatic 43, 3) := by decide +kernel
theorem d_Machine_perform_285 : decode c_Machine_perform 285 = .ok (.putfield 70, 3) := by decide +kernel
theorem d_Machine_perform_288 : decode c_Machine_perform 288 = .ok (.aload_n 0, 1) := by decide +kernel
theorem d_Machine_perform_289 : decode c_Machine_perform 289 = .ok (.aload_n 0, 1) := by decide +kernel
theorem d_Machine_perform_290 : decode c_Machine_perform 290 = .ok (.getfield 36, 3) := by decide +kernel
theorem d_Machine_perform_293 : decode c_Machine_perform 293 = .ok (.iload 4, 2) := by decide +kernel
theorem d_Machine_perform_295 : decode c_Machine_perform 295 = .ok (.invokestatic 43, 3) := by decide +kernel
theorem d_Machine_perform_298 : decode c_Machine_perform 298 = .ok (.putfield 67, 3) := by decide +kernel
theorem d_Machine_perform_301 : decode c_Machine_perform 301 = .ok (.iload_n 3, 1) := by decide +kernel
theorem d_Machine_perform_302 : decode c_Machine_perform 302 = .ok (.ireturn, 1) := by decide +kernel
theorem d_Machine_perform_303 : decode c_Machine_perform 303 = .ok (.aload_n 0, 1) := by decide +kernel
theorem d_Machine_perform_304 : decode c_Machine_perform 304 = .ok (.aload_n 0, 1) := by decide +kernel
theorem d_Machine_perform_305 : decode c_Machine_perform 305 = .ok (.getfield 33, 3) := by decide +kernel
theorem d_Machine_perform_308 : decode c_Machine_perform 308 = .ok (.iload 4, 2) := by decide +kernel
theorem d_Machine_perform_310 : decode c_Machine_perform 310 = .ok (.invokestatic 43, 3) := by decide +kernel
theorem d_Machine_perform_313 : decode c_Machine_perform 313 = .ok (.putfield 70, 3) := by decide +kernel
theorem d_Machine_perform_316 : decode c_Machine_perform 316 = .ok (.bipush (-2), 2) := by decide +kernel
theorem d_Machine_perform_318 : decode c_Machine_perform 318 = .ok (.ireturn, 1) := by decide +kernel
theorem d_Machine_perform_319 : decode c_Machine_perform 319 = .ok (.iload_n 3, 1) := by decide +kernel
theorem d_Machine_perform_320 : decode c_Machine_perform 320 = .ok (.ireturn, 1) := by decide +kernel
def Machine_addChoice_b0 (N : Nat) (x1 : Int32) (σ : g_S) : Option (Int32 × g_S) := (Rows_write N 19 (σ.1 22) x1 σ).bind fun q9 => (Rows_write N 20 (q9.2.1 22) (q9.2.1 24) q9.2).bind fun q24 => (Rows_write N 21 (q24.2.1 22) (q24.2.1 23) q24.2).bind fun q39 => some (0, (gF q39.2 22 ((q39.2.1 22) + 1)))
theorem Machine_addChoice_p0 (ao aa : Nat → Nat) {X : g_X} (hC : gC X c_Machine_addChoice R_Machine 1 22 2 none) (N : Nat) (x1 : Int32) (σ : g_S) (r : Int32) (σe : g_S) (hf : Machine_addChoice_b0 N x1 σ = some (r, σe)) : gw X (.inl none) (LC ao aa X.2.2.1 σe) (LC ao aa X.2.2.1 σ) [(0, .ref (ao 3)), (1, .int x1)] 0 [] := by
  unfold Machine_addChoice_b0 at hf
  refine gw_aload_n hC 0 d_Machine_addChoice_0 rfl rfl ?_
  refine Cr_Machine_choiceNode hC kf_Machine_20 d_Machine_addChoice_1 ?_
  refine gw_aload_n hC 0 d_Machine_addChoice_4 rfl rfl ?_
  refine Cg22 hC kf_Machine_70 d_Machine_addChoice_5 (σ.1 22) rfl ?_
  refine gw_iload_n hC 1 d_Machine_addChoice_8 rfl rfl ?_
  obtain ⟨q9, hq9, hf⟩ := g_bind hf
  refine gw_callS hC [.ref (aa 19), .int (σ.1 22), .int x1] [] (Rows_write_m _ _ _ ao aa N _ _ _ _ _ _ hq9) kc_Machine_49 ⟨by decide, by decide⟩ (Nat.le_of_ble_eq_true rfl) [.int x1, .int (σ.1 22), .ref (aa 19)] [] rfl rfl d_Machine_addChoice_9 ?_
  refine gw_aload_n hC 0 d_Machine_addChoice_12 rfl rfl ?_
  refine Cr_Machine_choiceAt hC kf_Machine_23 d_Machine_addChoice_13 ?_
  refine gw_aload_n hC 0 d_Machine_addChoice_16 rfl rfl ?_
  refine Cg22 hC kf_Machine_70 d_Machine_addChoice_17 (q9.2.1 22) rfl ?_
  refine gw_aload_n hC 0 d_Machine_addChoice_20 rfl rfl ?_
  refine Cg24 hC kf_Machine_67 d_Machine_addChoice_21 (q9.2.1 24) rfl ?_
  obtain ⟨q24, hq24, hf⟩ := g_bind hf
  refine gw_callS hC [.ref (aa 20), .int (q9.2.1 22), .int (q9.2.1 24)] [] (Rows_write_m _ _ _ ao aa N _ _ _ _ _ _ hq24) kc_Machine_49 ⟨by decide, by decide⟩ (Nat.le_of_ble_eq_true rfl) [.int (q9.2.1 24), .int (q9.2.1 22), .ref (aa 20)] [] rfl rfl d_Machine_addChoice_24 ?_
  refine gw_aload_n hC 0 d_Machine_addChoice_27 rfl rfl ?_
  refine Cr_Machine_choiceTrail hC kf_Machine_26 d_Machine_addChoice_28 ?_
  refine gw_aload_n hC 0 d_Machine_addChoice_31 rfl rfl ?_
  refine Cg22 hC kf_Machine_70 d_Machine_addChoice_32 (q24.2.1 22) rfl ?_
  refine gw_aload_n hC 0 d_Machine_addChoice_35 rfl rfl ?_
  refine Cg23 hC kf_Machine_73 d_Machine_addChoice_36 (q24.2.1 23) rfl ?_
  obtain ⟨q39, hq39, hf⟩ := g_bind hf
  refine gw_callS hC [.ref (aa 21), .int (q24.2.1 22), .int (q24.2.1 23)] [] (Rows_write_m _ _ _ ao aa N _ _ _ _ _ _ hq39) kc_Machine_49 ⟨by decide, by decide⟩ (Nat.le_of_ble_eq_true rfl) [.int (q24.2.1 23), .int (q24.2.1 22), .ref (aa 21)] [] rfl rfl d_Machine_addChoice_39 ?_
  refine gw_aload_n hC 0 d_Machine_addChoice_42 rfl rfl ?_
  refine gw_dup hC d_Machine_addChoice_43 rfl ?_
  refine Cg22 hC kf_Machine_70 d_Machine_addChoice_44 (q39.2.1 22) rfl ?_
  refine gw_iconst hC 1 d_Machine_addChoice_47 (by decide) ?_
  refine gw_iadd hC d_Machine_addChoice_48 ?_
  refine Cp22 hC kf_Machine_70 d_Machine_addChoice_49 ?_
  cases hf
  exact gw_vret hC d_Machine_addChoice_52
def Machine_addChoice (N : Nat) (x1 : Int32) (σ : g_S) : Option (Int32 × g_S) := Machine_addChoice_b0 N x1 σ
theorem Machine_addChoice_m (l : Launch) (D : va_G) (cA : ClassId) (ao aa : Nat → Nat) (N : Nat) (x1 : Int32) (σ : g_S) (r : Int32) (σe : g_S) (hf : Machine_addChoice N x1 σ = some (r, σe)) : Mt l D cA y_Machine_addChoice c_Machine_addChoice 2 none 1 22 [.ref (ao 3), .int x1] (LC ao aa cA σ) none (LC ao aa cA σe) := by
  refine g_met (by decide +kernel) (by simp [lg_sl, Value.category]) (fun X e1 e2 e3 hC => ?_)
  subst e1 e2 e3
  refine gw_lv [0, 1] rfl ?_
  exact Machine_addChoice_p0 ao aa hC N _ _ (r) _ hf
def Machine_setCell_b52 (N : Nat) (σ : g_S) : Option (Int32 × g_S) := some (0, σ)
theorem Machine_setCell_p52 (ao aa : Nat → Nat) {X : g_X} (hC : gC X c_Machine_setCell R_Machine 1 22 4 none) (N : Nat) (σ : g_S) (r : Int32) (σe : g_S) (hf : Machine_setCell_b52 N σ = some (r, σe)) : gw X (.inl none) (LC ao aa X.2.2.1 σe) (LC ao aa X.2.2.1 σ) [(0, .ref (ao 3))] 52 [] := by
  unfold Machine_setCell_b52 at hf
  cases hf
  exact gw_vret hC d_Machine_setCell_52
def Machine_setCell_b14 (N : Nat) (x1 : Int32) (x2 : Int32) (x3 : Int32) (σ : g_S) : Option (Int32 × g_S) := (Rows_write N 22 (σ.1 23) ((x1 <<< (16 &&& 31)) ||| (x3 + 1)) σ).bind fun q30 => (Rows_write N 18 x1 x2 (gF q30.2 23 ((q30.2.1 23) + 1))).bind fun q49 => Machine_setCell_b52 N q49.2
theorem Machine_setCell_p14 (ao aa : Nat → Nat) {X : g_X} (hC : gC X c_Machine_setCell R_Machine 1 22 4 none) (N : Nat) (x1 : Int32) (x2 : Int32) (x3 : Int32) (σ : g_S) (r : Int32) (σe : g_S) (hf : Machine_setCell_b14 N x1 x2 x3 σ = some (r, σe)) : gw X (.inl none) (LC ao aa X.2.2.1 σe) (LC ao aa X.2.2.1 σ) [(0, .ref (ao 3)), (1, .int x1), (2, .int x2), (3, .int x3)] 14 [] := by
  unfold Machine_setCell_b14 at hf
  refine gw_aload_n hC 0 d_Machine_setCell_14 rfl rfl ?_
  refine Cr_Machine_trail hC kf_Machine_30 d_Machine_setCell_15 ?_
  refine gw_aload_n hC 0 d_Machine_setCell_18 rfl rfl ?_
  refine Cg23 hC kf_Machine_73 d_Machine_setCell_19 (σ.1 23) rfl ?_
  refine gw_iload_n hC 1 d_Machine_setCell_22 rfl rfl ?_
  refine gw_bipush hC 16 d_Machine_setCell_23 (by decide) ?_
  refine gw_ishl hC d_Machine_setCell_25 ?_
  refine gw_iload_n hC 3 d_Machine_setCell_26 rfl rfl ?_
  refine gw_iconst hC 1 d_Machine_setCell_27 (by decide) ?_
  refine gw_iadd hC d_Machine_setCell_28 ?_
  refine gw_ior hC d_Machine_setCell_29 ?_
  obtain ⟨q30, hq30, hf⟩ := g_bind hf
  refine gw_callS hC [.ref (aa 22), .int (σ.1 23), .int ((x1 <<< (16 &&& 31)) ||| (x3 + 1))] [] (Rows_write_m _ _ _ ao aa N _ _ _ _ _ _ hq30) kc_Machine_49 ⟨by decide, by decide⟩ (Nat.le_of_ble_eq_true rfl) [.int ((x1 <<< (16 &&& 31)) ||| (x3 + 1)), .int (σ.1 23), .ref (aa 22)] [] rfl rfl d_Machine_setCell_30 ?_
  refine gw_aload_n hC 0 d_Machine_setCell_33 rfl rfl ?_
  refine gw_dup hC d_Machine_setCell_34 rfl ?_
  refine Cg23 hC kf_Machine_73 d_Machine_setCell_35 (q30.2.1 23) rfl ?_
  refine gw_iconst hC 1 d_Machine_setCell_38 (by decide) ?_
  refine gw_iadd hC d_Machine_setCell_39 ?_
  refine Cp23 hC kf_Machine_73 d_Machine_setCell_40 ?_
  refine gw_aload_n hC 0 d_Machine_setCell_43 rfl rfl ?_
  refine Cr_Machine_cells hC kf_Machine_17 d_Machine_setCell_44 ?_
  refine gw_iload_n hC 1 d_Machine_setCell_47 rfl rfl ?_
  refine gw_iload_n hC 2 d_Machine_setCell_48 rfl rfl ?_
  obtain ⟨q49, hq49, hf⟩ := g_bind hf
  refine gw_callS hC [.ref (aa 18), .int x1, .int x2] [] (Rows_write_m _ _ _ ao aa N _ _ _ _ _ _ hq49) kc_Machine_49 ⟨by decide, by decide⟩ (Nat.le_of_ble_eq_true rfl) [.int x2, .int x1, .ref (aa 18)] [] rfl rfl d_Machine_setCell_49 ?_
  refine gw_lv [0] rfl ?_
  exact Machine_setCell_p52 ao aa hC N _ _ _ hf
def Machine_setCell_b0 (N : Nat) (x1 : Int32) (x2 : Int32) (σ : g_S) : Option (Int32 × g_S) := (Rows_read N 18 x1 σ).bind fun q5 => if q5.1 = x2 then Machine_setCell_b52 N q5.2 else Machine_setCell_b14 N x1 x2 q5.1 q5.2
theorem Machine_setCell_p0 (ao aa : Nat → Nat) {X : g_X} (hC : gC X c_Machine_setCell R_Machine 1 22 4 none) (N : Nat) (x1 : Int32) (x2 : Int32) (σ : g_S) (r : Int32) (σe : g_S) (hf : Machine_setCell_b0 N x1 x2 σ = some (r, σe)) : gw X (.inl none) (LC ao aa X.2.2.1 σe) (LC ao aa X.2.2.1 σ) [(0, .ref (ao 3)), (1, .int x1), (2, .int x2)] 0 [] := by
  unfold Machine_setCell_b0 at hf
  refine gw_aload_n hC 0 d_Machine_setCell_0 rfl rfl ?_
  refine Cr_Machine_cells hC kf_Machine_17 d_Machine_setCell_1 ?_
  refine gw_iload_n hC 1 d_Machine_setCell_4 rfl rfl ?_
  obtain ⟨q5, hq5, hf⟩ := g_bind hf
  refine gw_callS hC [.ref (aa 18), .int x1] [] (Rows_read_m _ _ _ ao aa N _ _ _ _ _ hq5) kc_Machine_43 ⟨by decide, by decide⟩ (Nat.le_of_ble_eq_true rfl) [.int x1, .ref (aa 18)] [.int q5.1] rfl rfl d_Machine_setCell_5 ?_
  refine gw_istore_n hC [(3, .int q5.1), (0, .ref (ao 3)), (1, .int x1), (2, .int x2)] d_Machine_setCell_8 rfl (by decide) rfl ?_
  refine gw_iload_n hC 0 d_Machine_setCell_9 rfl rfl ?_
  refine gw_iload_n hC 3 d_Machine_setCell_10 rfl rfl ?_
  refine gw_icmp_eq hC 52 d_Machine_setCell_11 (by decide) (fun hh => ?_) (fun hh => ?_)
  · rw [if_pos hh] at hf
    refine gw_lv [1] rfl ?_
    exact Machine_setCell_p52 ao aa hC N _ _ _ hf
  · rw [if_neg hh] at hf
    refine gw_lv [1, 2, 3, 0] rfl ?_
    exact Machine_setCell_p14 ao aa hC N _ _ _ _ _ _ hf
def Machine_setCell (N : Nat) (x1 : Int32) (x2 : Int32) (σ : g_S) : Option (Int32 × g_S) := Machine_setCell_b0 N x1 x2 σ
theorem Machine_setCell_m (l : Launch) (D : va_G) (cA : ClassId) (ao aa : Nat → Nat) (N : Nat) (x1 : Int32) (x2 : Int32) (σ : g_S) (r : Int32) (σe : g_S) (hf : Machine_setCell N x1 x2 σ = some (r, σe)) : Mt l D cA y_Machine_setCell c_Machine_setCell 4 none 1 22 [.ref (ao 3), .int x1, .int x2] (LC ao aa cA σ) none (LC ao aa cA σe) := by
  refine g_met (by decide +kernel) (by simp [lg_sl, Value.category]) (fun X e1 e2 e3 hC => ?_)
  subst e1 e2 e3
  refine gw_lv [0, 1, 2] rfl ?_
  exact Machine_setCell_p0 ao aa hC N _ _ _ (r) _ hf
def Machine_goOnOrEnd_b89 (N : Nat) (x4 : Int32) (x5 : Int32) (σ : g_S) : Option (Int32 × g_S) := (Machine_addChoice N x4 σ).bind fun q92 => some (x5, q92.2)
theorem Machine_goOnOrEnd_p89 (ao aa : Nat → Nat) {X : g_X} (hC : gC X c_Machine_goOnOrEnd R_Machine 2 43 6 (some .int)) (N : Nat) (x4 : Int32) (x5 : Int32) (σ : g_S) (r : Int32) (σe : g_S) (hf : Machine_goOnOrEnd_b89 N x4 x5 σ = some (r, σe)) : gw X (.inl (some (.int r))) (LC ao aa X.2.2.1 σe) (LC ao aa X.2.2.1 σ) [(0, .ref (ao 3)), (4, .int x4), (5, .int x5)] 89 [] := by
  unfold Machine_goOnOrEnd_b89 at hf
  refine gw_aload_n hC 0 d_Machine_goOnOrEnd_89 rfl rfl ?_
  refine gw_iload hC 1 d_Machine_goOnOrEnd_90 rfl ?_
  obtain ⟨q92, hq92, hf⟩ := g_bind hf
  refine gw_callV hC [.int x4] [] (Machine_addChoice_m _ _ _ ao aa N _ _ _ _ hq92) kc_Machine_106 3 (g_lay_obj rfl) rfl rfl ⟨by decide, by decide⟩ (Nat.le_of_ble_eq_true rfl) [.int x4, .ref (ao 3)] [] rfl rfl d_Machine_goOnOrEnd_92 ?_
  refine gw_iload hC 2 d_Machine_goOnOrEnd_95 rfl ?_
  cases hf
  exact gw_iret hC d_Machine_goOnOrEnd_97
def Machine_goOnOrEnd_b80 (N : Nat) (x4 : Int32) (x5 : Int32) (σ : g_S) : Option (Int32 × g_S) := (Machine_addChoice N x5 σ).bind fun q83 => some (x4, q83.2)
theorem Machine_goOnOrEnd_p80 (ao aa : Nat → Nat) {X : g_X} (hC : gC X c_Machine_goOnOrEnd R_Machine 2 43 6 (some .int)) (N : Nat) (x4 : Int32) (x5 : Int32) (σ : g_S) (r : Int32) (σe : g_S) (hf : Machine_goOnOrEnd_b80 N x4 x5 σ = some (r, σe)) : gw X (.inl (some (.int r))) (LC ao aa X.2.2.1 σe) (LC ao aa X.2.2.1 σ) [(0, .ref (ao 3)), (4, .int x4), (5, .int x5)] 80 [] := by
  unfold Machine_goOnOrEnd_b80 at hf
  refine gw_aload_n hC 0 d_Machine_goOnOrEnd_80 rfl rfl ?_
  refine gw_iload hC 2 d_Machine_goOnOrEnd_81 rfl ?_
  obtain ⟨q83, hq83, hf⟩ := g_bind hf
  refine gw_callV hC [.int x5] [] (Machine_addChoice_m _ _ _ ao aa N _ _ _ _ hq83) kc_Machine_106 3 (g_lay_obj rfl) rfl rfl ⟨by decide, by decide⟩ (Nat.le_of_ble_eq_true rfl) [.int x5, .ref (ao 3)] [] rfl rfl d_Machine_goOnOrEnd_83 ?_
  refine gw_iload hC 1 d_Machine_goOnOrEnd_86 rfl ?_
  cases hf
  exact gw_iret hC d_Machine_goOnOrEnd_88
def Machine_goOnOrEnd_b66 (N : Nat) (x1 : Int32) (x4 : Int32) (x5 : Int32) (σ : g_S) : Option (Int32 × g_S) := (Rows_read N 9 x1 σ).bind fun q74 => if q74.1 = 0 then Machine_goOnOrEnd_b89 N x4 x5 q74.2 else Machine_goOnOrEnd_b80 N x4 x5 q74.2
theorem Machine_goOnOrEnd_p66 (ao aa : Nat → Nat) {X : g_X} (hC : gC X c_Machine_goOnOrEnd R_Machine 2 43 6 (some .int)) (N : Nat) (x1 : Int32) (x4 : Int32) (x5 : Int32) (σ : g_S) (r : Int32) (σe : g_S) (hf : Machine_goOnOrEnd_b66 N x1 x4 x5 σ = some (r, σe)) : gw X (.inl (some (.int r))) (LC ao aa X.2.2.1 σe) (LC ao aa X.2.2.1 σ) [(0, .ref (ao 3)), (1, .int x1), (4, .int x4), (5, .int x5)] 66 [] := by
  unfold Machine_goOnOrEnd_b66 at hf
  refine gw_aload_n hC 0 d_Machine_goOnOrEnd_66 rfl rfl ?_
  refine Cr_Machine_program hC kf_Machine_39 d_Machine_goOnOrEnd_67 ?_
  refine Cr_Program_lazy hC kf_Machine_137 d_Machine_goOnOrEnd_70 ?_
  refine gw_iload_n hC 1 d_Machine_goOnOrEnd_73 rfl rfl ?_
  obtain ⟨q74, hq74, hf⟩ := g_bind hf
  refine gw_callS hC [.ref (aa 9), .int x1] [] (Rows_read_m _ _ _ ao aa N _ _ _ _ _ hq74) kc_Machine_43 ⟨by decide, by decide⟩ (Nat.le_of_ble_eq_true rfl) [.int x1, .ref (aa 9)] [.int q74.1] rfl rfl d_Machine_goOnOrEnd_74 ?_
  refine gw_if_eq hC 89 d_Machine_goOnOrEnd_77 (by decide) (fun hh => ?_) (fun hh => ?_)
  · rw [if_pos hh] at hf
    refine gw_lv [0, 2, 3] rfl ?_
    exact Machine_goOnOrEnd_p89 ao aa hC N _ _ _ _ _ hf
  · rw [if_neg hh] at hf
    refine gw_lv [0, 2, 3] rfl ?_
    exact Machine_goOnOrEnd_p80 ao aa hC N _ _ _ _ _ hf
def Machine_goOnOrEnd_b63 (N : Nat) (x5 : Int32) (σ : g_S) : Option (Int32 × g_S) := some (x5, σ)
theorem Machine_goOnOrEnd_p63 (ao aa : Nat → Nat) {X : g_X} (hC : gC X c_Machine_goOnOrEnd R_Machine 2 43 6 (some .int)) (N : Nat) (x5 : Int32) (σ : g_S) (r : Int32) (σe : g_S) (hf : Machine_goOnOrEnd_b63 N x5 σ = some (r, σe)) : gw X (.inl (some (.int r))) (LC ao aa X.2.2.1 σe) (LC ao aa X.2.2.1 σ) [(0, .ref (ao 3)), (5, .int x5)] 63 [] := by
  unfold Machine_goOnOrEnd_b63 at hf
  refine gw_iload hC 1 d_Machine_goOnOrEnd_63 rfl ?_
  cases hf
  exact gw_iret hC d_Machine_goOnOrEnd_65
def Machine_goOnOrEnd_b48 (N : Nat) (x1 : Int32) (x2 : Int32) (x4 : Int32) (x5 : Int32) (σ : g_S) : Option (Int32 × g_S) := (Rows_read N 7 x1 σ).bind fun q57 => if q57.1 ≤ x2 then Machine_goOnOrEnd_b66 N x1 x4 x5 q57.2 else Machine_goOnOrEnd_b63 N x5 q57.2
theorem Machine_goOnOrEnd_p48 (ao aa : Nat → Nat) {X : g_X} (hC : gC X c_Machine_goOnOrEnd R_Machine 2 43 6 (some .int)) (N : Nat) (x1 : Int32) (x2 : Int32) (x4 : Int32) (x5 : Int32) (σ : g_S) (r : Int32) (σe : g_S) (hf : Machine_goOnOrEnd_b48 N x1 x2 x4 x5 σ = some (r, σe)) : gw X (.inl (some (.int r))) (LC ao aa X.2.2.1 σe) (LC ao aa X.2.2.1 σ) [(0, .ref (ao 3)), (1, .int x1), (2, .int x2), (4, .int x4), (5, .int x5)] 48 [] := by
  unfold Machine_goOnOrEnd_b48 at hf
  refine gw_iload_n hC 2 d_Machine_goOnOrEnd_48 rfl rfl ?_
  refine gw_aload_n hC 0 d_Machine_goOnOrEnd_49 rfl rfl ?_
  refine Cr_Machine_program hC kf_Machine_39 d_Machine_goOnOrEnd_50 ?_
  refine Cr_Program_least hC kf_Machine_134 d_Machine_goOnOrEnd_53 ?_
  refine gw_iload_n hC 1 d_Machine_goOnOrEnd_56 rfl rfl ?_
  obtain ⟨q57, hq57, hf⟩ := g_bind hf
  refine gw_callS hC [.ref (aa 7), .int x1] [.int x2] (Rows_read_m _ _ _ ao aa N _ _ _ _ _ hq57) kc_Machine_43 ⟨by decide, by decide⟩ (Nat.le_of_ble_eq_true rfl) [.int x1, .ref (aa 7), .int x2] [.int q57.1, .int x2] rfl rfl d_Machine_goOnOrEnd_57 ?_
  refine gw_icmp_ge hC 66 d_Machine_goOnOrEnd_60 (by decide) (fun hh => ?_) (fun hh => ?_)
  · rw [if_pos hh] at hf
    refine gw_lv [0, 1, 3, 4] rfl ?_
    exact Machine_goOnOrEnd_p66 ao aa hC N _ _ _ _ _ _ hf
  · rw [if_neg hh] at hf
    refine gw_lv [0, 4] rfl ?_
    exact Machine_goOnOrEnd_p63 ao aa hC N _ _ _ _ hf
def Machine_goOnOrEnd_b45 (N : Nat) (x4 : Int32) (σ : g_S) : Option (Int32 × g_S) := some (x4, σ)
theorem Machine_goOnOrEnd_p45 (ao aa : Nat → Nat) {X : g_X} (hC : gC X c_Machine_goOnOrEnd R_Machine 2 43 6 (some .int)) (N : Nat) (x4 : Int32) (σ : g_S) (r : Int32) (σe : g_S) (hf : Machine_goOnOrEnd_b45 N x4 σ = some (r, σe)) : gw X (.inl (some (.int r))) (LC ao aa X.2.2.1 σe) (LC ao aa X.2.2.1 σ) [(0, .ref (ao 3)), (4, .int x4)] 45 [] := by
  unfold Machine_goOnOrEnd_b45 at hf
  refine gw_iload hC 1 d_Machine_goOnOrEnd_45 rfl ?_
  cases hf
  exact gw_iret hC d_Machine_goOnOrEnd_47
def Machine_goOnOrEnd_b0 (N : Nat) (x1 : Int32) (x2 : Int32) (σ : g_S) : Option (Int32 × g_S) := (Rows_read N 12 x1 σ).bind fun q8 => (Rows_read N 2 q8.1 q8.2).bind fun q20 => (Rows_read N 8 x1 q20.2).bind fun q39 => if x2 < q39.1 then Machine_goOnOrEnd_b48 N x1 x2 q20.1 (q8.1 + 1) q39.2 else Machine_goOnOrEnd_b45 N q20.1 q39.2
theorem Machine_goOnOrEnd_p0 (ao aa : Nat → Nat) {X : g_X} (hC : gC X c_Machine_goOnOrEnd R_Machine 2 43 6 (some .int)) (N : Nat) (x1 : Int32) (x2 : Int32) (σ : g_S) (r : Int32) (σe : g_S) (hf : Machine_goOnOrEnd_b0 N x1 x2 σ = some (r, σe)) : gw X (.inl (some (.int r))) (LC ao aa X.2.2.1 σe) (LC ao aa X.2.2.1 σ) [(0, .ref (ao 3)), (1, .int x1), (2, .int x2)] 0 [] := by
  unfold Machine_goOnOrEnd_b0 at hf
  refine gw_aload_n hC 0 d_Machine_goOnOrEnd_0 rfl rfl ?_
  refine Cr_Machine_program hC kf_Machine_39 d_Machine_goOnOrEnd_1 ?_
  refine Cr_Program_head hC kf_Machine_128 d_Machine_goOnOrEnd_4 ?_
  refine gw_iload_n hC 1 d_Machine_goOnOrEnd_7 rfl rfl ?_
  obtain ⟨q8, hq8, hf⟩ := g_bind hf
  refine gw_callS hC [.ref (aa 12), .int x1] [] (Rows_read_m _ _ _ ao aa N _ _ _ _ _ hq8) kc_Machine_43 ⟨by decide, by decide⟩ (Nat.le_of_ble_eq_true rfl) [.int x1, .ref (aa 12)] [.int q8.1] rfl rfl d_Machine_goOnOrEnd_8 ?_
  refine gw_istore_n hC [(3, .int q8.1), (0, .ref (ao 3)), (1, .int x1), (2, .int x2)] d_Machine_goOnOrEnd_11 rfl (by decide) rfl ?_
  refine gw_aload_n hC 1 d_Machine_goOnOrEnd_12 rfl rfl ?_
  refine Cr_Machine_program hC kf_Machine_39 d_Machine_goOnOrEnd_13 ?_
  refine Cr_Program_next hC kf_Machine_88 d_Machine_goOnOrEnd_16 ?_
  refine gw_iload_n hC 0 d_Machine_goOnOrEnd_19 rfl rfl ?_
  obtain ⟨q20, hq20, hf⟩ := g_bind hf
  refine gw_callS hC [.ref (aa 2), .int q8.1] [] (Rows_read_m _ _ _ ao aa N _ _ _ _ _ hq20) kc_Machine_43 ⟨by decide, by decide⟩ (Nat.le_of_ble_eq_true rfl) [.int q8.1, .ref (aa 2)] [.int q20.1] rfl rfl d_Machine_goOnOrEnd_20 ?_
  refine gw_istore hC [(4, .int q20.1), (3, .int q8.1), (0, .ref (ao 3)), (1, .int x1), (2, .int x2)] d_Machine_goOnOrEnd_23 (by decide) rfl ?_
  refine gw_iload_n hC 1 d_Machine_goOnOrEnd_25 rfl rfl ?_
  refine gw_iconst hC 1 d_Machine_goOnOrEnd_26 (by decide) ?_
  refine gw_iadd hC d_Machine_goOnOrEnd_27 ?_
  refine gw_istore hC [(5, .int (q8.1 + 1)), (4, .int q20.1), (3, .int q8.1), (0, .ref (ao 3)), (1, .int x1), (2, .int x2)] d_Machine_goOnOrEnd_28 (by decide) rfl ?_
  refine gw_iload_n hC 5 d_Machine_goOnOrEnd_30 rfl rfl ?_
  refine gw_aload_n hC 3 d_Machine_goOnOrEnd_31 rfl rfl ?_
  refine Cr_Machine_program hC kf_Machine_39 d_Machine_goOnOrEnd_32 ?_
  refine Cr_Program_most hC kf_Machine_131 d_Machine_goOnOrEnd_35 ?_
  refine gw_iload_n hC 4 d_Machine_goOnOrEnd_38 rfl rfl ?_
  obtain ⟨q39, hq39, hf⟩ := g_bind hf
  refine gw_callS hC [.ref (aa 8), .int x1] [.int x2] (Rows_read_m _ _ _ ao aa N _ _ _ _ _ hq39) kc_Machine_43 ⟨by decide, by decide⟩ (Nat.le_of_ble_eq_true rfl) [.int x1, .ref (aa 8), .int x2] [.int q39.1, .int x2] rfl rfl d_Machine_goOnOrEnd_39 ?_
  refine gw_icmp_lt hC 48 d_Machine_goOnOrEnd_42 (by decide) (fun hh => ?_) (fun hh => ?_)
  · rw [if_pos hh] at hf
    refine gw_lv [3, 4, 5, 1, 0] rfl ?_
    exact Machine_goOnOrEnd_p48 ao aa hC N _ _ _ _ _ _ _ hf
  · rw [if_neg hh] at hf
    refine gw_lv [3, 1] rfl ?_
    exact Machine_goOnOrEnd_p45 ao aa hC N _ _ _ _ hf
def Machine_goOnOrEnd (N : Nat) (x1 : Int32) (x2 : Int32) (σ : g_S) : Option (Int32 × g_S) := Machine_goOnOrEnd_b0 N x1 x2 σ
theorem Machine_goOnOrEnd_m (l : Launch) (D : va_G) (cA : ClassId) (ao aa : Nat → Nat) (N : Nat) (x1 : Int32) (x2 : Int32) (σ : g_S) (r : Int32) (σe : g_S) (hf : Machine_goOnOrEnd N x1 x2 σ = some (r, σe)) : Mt l D cA y_Machine_goOnOrEnd c_Machine_goOnOrEnd 6 (some .int) 2 43 [.ref (ao 3), .int x1, .int x2] (LC ao aa cA σ) (some (.int r)) (LC ao aa cA σe) := by
  refine g_met (by decide +kernel) (by simp [lg_sl, Value.category]) (fun X e1 e2 e3 hC => ?_)
  subst e1 e2 e3
  refine gw_lv [0, 1, 2] rfl ?_
  exact Machine_goOnOrEnd_p0 ao aa hC N _ _ _ (r) _ hf
def Machine_enterRepetition_b58 (N : Nat) (σ : g_S) : Option (Int32 × g_S) := some (0, σ)
theorem Machine_enterRepetition_p58 (ao aa : Nat → Nat) {X : g_X} (hC : gC X c_Machine_enterRepetition R_Machine 2 45 4 none) (N : Nat) (σ : g_S) (r : Int32) (σe : g_S) (hf : Machine_enterRepetition_b58 N σ = some (r, σe)) : gw X (.inl none) (LC ao aa X.2.2.1 σe) (LC ao aa X.2.2.1 σ) [(0, .ref (ao 3))] 58 [] := by
  unfold Machine_enterRepetition_b58 at hf
  cases hf
  exact gw_vret hC d_Machine_enterRepetition_58
def Machine_enterRepetition_b44 (N : Nat) (k39 : Int32 → Int32 → g_S → Option (Int32 × g_S)) (x2 : Int32) (x3 : Int32) (σ : g_S) : Option (Int32 × g_S) := (Machine_setCell N (0 + x3) (-1) σ).bind fun q49 => k39 x2 (x3 + 1) q49.2
theorem Machine_enterRepetition_p44 (ao aa : Nat → Nat) {X : g_X} (hC : gC X c_Machine_enterRepetition R_Machine 2 45 4 none) (N : Nat) (k39 : Int32 → Int32 → g_S → Option (Int32 × g_S)) (hk39 : ∀ (x2 : Int32) (x3 : Int32) (σ : g_S) (r : Int32) (σe : g_S), k39 x2 x3 σ = some (r, σe) → gw X (.inl none) (LC ao aa X.2.2.1 σe) (LC ao aa X.2.2.1 σ) [(0, .ref (ao 3)), (2, .int x2), (3, .int x3)] 39 []) (x2 : Int32) (x3 : Int32) (σ : g_S) (r : Int32) (σe : g_S) (hf : Machine_enterRepetition_b44 N k39 x2 x3 σ = some (r, σe)) : gw X (.inl none) (LC ao aa X.2.2.1 σe) (LC ao aa X.2.2.1 σ) [(0, .ref (ao 3)), (2, .int x2), (3, .int x3)] 44 [] := by
  unfold Machine_enterRepetition_b44 at hf
  refine gw_aload_n hC 0 d_Machine_enterRepetition_44 rfl rfl ?_
  refine gw_iconst hC 0 d_Machine_enterRepetition_45 (by decide) ?_
  refine gw_iload_n hC 2 d_Machine_enterRepetition_46 rfl rfl ?_
  refine gw_iadd hC d_Machine_enterRepetition_47 ?_
  refine gw_iconst hC (-1) d_Machine_enterRepetition_48 (by decide) ?_
  obtain ⟨q49, hq49, hf⟩ := g_bind hf
  refine gw_callV hC [.int (0 + x3), .int (-1)] [] (Machine_setCell_m _ _ _ ao aa N _ _ _ _ _ hq49) kc_Machine_110 3 (g_lay_obj rfl) rfl rfl ⟨by decide, by decide⟩ (Nat.le_of_ble_eq_true rfl) [.int (-1), .int (0 + x3), .ref (ao 3)] [] rfl rfl d_Machine_enterRepetition_49 ?_
  refine gw_iinc hC (x3 + 1) 2 [(3, .int (x3 + 1)), (0, .ref (ao 3)), (2, .int x2)] d_Machine_enterRepetition_52 rfl rfl (by decide) rfl ?_
  refine gw_goto hC 39 d_Machine_enterRepetition_55 (by decide) ?_
  refine gw_lv [1, 2, 0] rfl ?_
  exact hk39 _ _ _ _ _ hf
def Machine_enterRepetition_b39 (N : Nat) (k39 : Int32 → Int32 → g_S → Option (Int32 × g_S)) (x2 : Int32) (x3 : Int32) (σ : g_S) : Option (Int32 × g_S) := if x2 < x3 then Machine_enterRepetition_b58 N σ else Machine_enterRepetition_b44 N k39 x2 x3 σ
theorem Machine_enterRepetition_p39 (ao aa : Nat → Nat) {X : g_X} (hC : gC X c_Machine_enterRepetition R_Machine 2 45 4 none) (N : Nat) (k39 : Int32 → Int32 → g_S → Option (Int32 × g_S)) (hk39 : ∀ (x2 : Int32) (x3 : Int32) (σ : g_S) (r : Int32) (σe : g_S), k39 x2 x3 σ = some (r, σe) → gw X (.inl none) (LC ao aa X.2.2.1 σe) (LC ao aa X.2.2.1 σ) [(0, .ref (ao 3)), (2, .int x2), (3, .int x3)] 39 []) (x2 : Int32) (x3 : Int32) (σ : g_S) (r : Int32) (σe : g_S) (hf : Machine_enterRepetition_b39 N k39 x2 x3 σ = some (r, σe)) : gw X (.inl none) (LC ao aa X.2.2.1 σe) (LC ao aa X.2.2.1 σ) [(0, .ref (ao 3)), (2, .int x2), (3, .int x3)] 39 [] := by
  unfold Machine_enterRepetition_b39 at hf
  refine gw_iload_n hC 2 d_Machine_enterRepetition_39 rfl rfl ?_
  refine gw_iload_n hC 1 d_Machine_enterRepetition_40 rfl rfl ?_
  refine gw_icmp_gt hC 58 d_Machine_enterRepetition_41 (by decide) (fun hh => ?_) (fun hh => ?_)
  · rw [if_pos hh] at hf
    refine gw_lv [0] rfl ?_
    exact Machine_enterRepetition_p58 ao aa hC N _ _ _ hf
  · rw [if_neg hh] at hf
    exact Machine_enterRepetition_p44 ao aa hC N _ hk39 _ _ _ _ _ hf
def Machine_enterRepetition_l39 (N : Nat) : Nat → Int32 → Int32 → g_S → Option (Int32 × g_S)
  | 0 => fun _ _ _ => none
  | n + 1 => fun x2 x3 σ => Machine_enterRepetition_b39 N (Machine_enterRepetition_l39 N n) x2 x3 σ
theorem Machine_enterRepetition_q39 (ao aa : Nat → Nat) {X : g_X} (hC : gC X c_Machine_enterRepetition R_Machine 2 45 4 none) (N : Nat) (n : Nat) : ∀ (x2 : Int32) (x3 : Int32) (σ : g_S) (r : Int32) (σe : g_S), Machine_enterRepetition_l39 N n x2 x3 σ = some (r, σe) → gw X (.inl none) (LC ao aa X.2.2.1 σe) (LC ao aa X.2.2.1 σ) [(0, .ref (ao 3)), (2, .int x2), (3, .int x3)] 39 [] := by
  induction n with
  | zero => intro x2 x3 σ r σe hf; cases hf
  | succ n ih => intro x2 x3 σ r σe hf; exact Machine_enterRepetition_p39 ao aa hC N _ (fun x2 x3 σ r2 σ2 h2 => ih x2 x3 σ r2 σ2 h2) x2 x3 σ r σe hf
def Machine_enterRepetition_b0 (N : Nat) (x1 : Int32) (σ : g_S) : Option (Int32 × g_S) := (Machine_setCell N (163 + x1) (σ.1 24) σ).bind fun q10 => (Rows_read N 11 x1 q10.2).bind fun q21 => (Rows_read N 10 x1 q21.2).bind fun q33 => Machine_enterRepetition_l39 N N q21.1 (q33.1 + 1) q33.2
theorem Machine_enterRepetition_p0 (ao aa : Nat → Nat) {X : g_X} (hC : gC X c_Machine_enterRepetition R_Machine 2 45 4 none) (N : Nat) (x1 : Int32) (σ : g_S) (r : Int32) (σe : g_S) (hf : Machine_enterRepetition_b0 N x1 σ = some (r, σe)) : gw X (.inl none) (LC ao aa X.2.2.1 σe) (LC ao aa X.2.2.1 σ) [(0, .ref (ao 3)), (1, .int x1)] 0 [] := by
  unfold Machine_enterRepetition_b0 at hf
  refine gw_aload_n hC 0 d_Machine_enterRepetition_0 rfl rfl ?_
  refine gw_sipush hC 163 d_Machine_enterRepetition_1 (by decide) ?_
  refine gw_iload_n hC 1 d_Machine_enterRepetition_4 rfl rfl ?_
  refine gw_iadd hC d_Machine_enterRepetition_5 ?_
  refine gw_aload_n hC 0 d_Machine_enterRepetition_6 rfl rfl ?_
  refine Cg24 hC kf_Machine_67 d_Machine_enterRepetition_7 (σ.1 24) rfl ?_
  obtain ⟨q10, hq10, hf⟩ := g_bind hf
  refine gw_callV hC [.int (163 + x1), .int (σ.1 24)] [] (Machine_setCell_m _ _ _ ao aa N _ _ _ _ _ hq10) kc_Machine_110 3 (g_lay_obj rfl) rfl rfl ⟨by decide, by decide⟩ (Nat.le_of_ble_eq_true rfl) [.int (σ.1 24), .int (163 + x1), .ref (ao 3)] [] rfl rfl d_Machine_enterRepetition_10 ?_
  refine gw_aload_n hC 0 d_Machine_enterRepetition_13 rfl rfl ?_
  refine Cr_Machine_program hC kf_Machine_39 d_Machine_enterRepetition_14 ?_
  refine Cr_Program_groupsThrough hC kf_Machine_140 d_Machine_enterRepetition_17 ?_
  refine gw_iload_n hC 1 d_Machine_enterRepetition_20 rfl rfl ?_
  obtain ⟨q21, hq21, hf⟩ := g_bind hf
  refine gw_callS hC [.ref (aa 11), .int x1] [] (Rows_read_m _ _ _ ao aa N _ _ _ _ _ hq21) kc_Machine_43 ⟨by decide, by decide⟩ (Nat.le_of_ble_eq_true rfl) [.int x1, .ref (aa 11)] [.int q21.1] rfl rfl d_Machine_enterRepetition_21 ?_
  refine gw_istore_n hC [(2, .int q21.1), (0, .ref (ao 3)), (1, .int x1)] d_Machine_enterRepetition_24 rfl (by decide) rfl ?_
  refine gw_aload_n hC 1 d_Machine_enterRepetition_25 rfl rfl ?_
  refine Cr_Machine_program hC kf_Machine_39 d_Machine_enterRepetition_26 ?_
  refine Cr_Program_groupsBefore hC kf_Machine_143 d_Machine_enterRepetition_29 ?_
  refine gw_iload_n hC 2 d_Machine_enterRepetition_32 rfl rfl ?_
  obtain ⟨q33, hq33, hf⟩ := g_bind hf
  refine gw_callS hC [.ref (aa 10), .int x1] [] (Rows_read_m _ _ _ ao aa N _ _ _ _ _ hq33) kc_Machine_43 ⟨by decide, by decide⟩ (Nat.le_of_ble_eq_true rfl) [.int x1, .ref (aa 10)] [.int q33.1] rfl rfl d_Machine_enterRepetition_33 ?_
  refine gw_iconst hC 1 d_Machine_enterRepetition_36 (by decide) ?_
  refine gw_iadd hC d_Machine_enterRepetition_37 ?_
  refine gw_istore_n hC [(3, .int (q33.1 + 1)), (2, .int q21.1), (0, .ref (ao 3)), (1, .int x1)] d_Machine_enterRepetition_38 rfl (by decide) rfl ?_
  refine gw_lv [2, 1, 0] rfl ?_
  exact Machine_enterRepetition_q39 ao aa hC N N _ _ _ _ _ hf
def Machine_enterRepetition (N : Nat) (x1 : Int32) (σ : g_S) : Option (Int32 × g_S) := Machine_enterRepetition_b0 N x1 σ
theorem Machine_enterRepetition_m (l : Launch) (D : va_G) (cA : ClassId) (ao aa : Nat → Nat) (N : Nat) (x1 : Int32) (σ : g_S) (r : Int32) (σe : g_S) (hf : Machine_enterRepetition N x1 σ = some (r, σe)) : Mt l D cA y_Machine_enterRepetition c_Machine_enterRepetition 4 none 2 45 [.ref (ao 3), .int x1] (LC ao aa cA σ) none (LC ao aa cA σe) := by
  refine g_met (by decide +kernel) (by simp [lg_sl, Value.category]) (fun X e1 e2 e3 hC => ?_)
  subst e1 e2 e3
  refine gw_lv [0, 1] rfl ?_
  exact Machine_enterRepetition_p0 ao aa hC N _ _ (r) _ hf
def Machine_endRepetition_b69 (N : Nat) (x1 : Int32) (x2 : Int32) (σ : g_S) : Option (Int32 × g_S) := (Machine_setCell N (63 + x1) (x2 + 1) σ).bind fun q77 => (Machine_goOnOrEnd N x1 (x2 + 1) q77.2).bind fun q85 => some (q85.1, q85.2)
theorem Machine_endRepetition_p69 (ao aa : Nat → Nat) {X : g_X} (hC : gC X c_Machine_endRepetition R_Machine 3 68 4 (some .int)) (N : Nat) (x1 : Int32) (x2 : Int32) (σ : g_S) (r : Int32) (σe : g_S) (hf : Machine_endRepetition_b69 N x1 x2 σ = some (r, σe)) : gw X (.inl (some (.int r))) (LC ao aa X.2.2.1 σe) (LC ao aa X.2.2.1 σ) [(0, .ref (ao 3)), (1, .int x1), (2, .int x2)] 69 [] := by
  unfold Machine_endRepetition_b69 at hf
  refine gw_aload_n hC 0 d_Machine_endRepetition_69 rfl rfl ?_
  refine gw_bipush hC 63 d_Machine_endRepetition_70 (by decide) ?_
  refine gw_iload_n hC 1 d_Machine_endRepetition_72 rfl rfl ?_
  refine gw_iadd hC d_Machine_endRepetition_73 ?_
  refine gw_iload_n hC 2 d_Machine_endRepetition_74 rfl rfl ?_
  refine gw_iconst hC 1 d_Machine_endRepetition_75 (by decide) ?_
  refine gw_iadd hC d_Machine_endRepetition_76 ?_
  obtain ⟨q77, hq77, hf⟩ := g_bind hf
  refine gw_callV hC [.int (63 + x1), .int (x2 + 1)] [] (Machine_setCell_m _ _ _ ao aa N _ _ _ _ _ hq77) kc_Machine_110 3 (g_lay_obj rfl) rfl rfl ⟨by decide, by decide⟩ (Nat.le_of_ble_eq_true rfl) [.int (x2 + 1), .int (63 + x1), .ref (ao 3)] [] rfl rfl d_Machine_endRepetition_77 ?_
  refine gw_aload_n hC 0 d_Machine_endRepetition_80 rfl rfl ?_
  refine gw_iload_n hC 1 d_Machine_endRepetition_81 rfl rfl ?_
  refine gw_iload_n hC 2 d_Machine_endRepetition_82 rfl rfl ?_
  refine gw_iconst hC 1 d_Machine_endRepetition_83 (by decide) ?_
  refine gw_iadd hC d_Machine_endRepetition_84 ?_
  obtain ⟨q85, hq85, hf⟩ := g_bind hf
  refine gw_callV hC [.int x1, .int (x2 + 1)] [] (Machine_goOnOrEnd_m _ _ _ ao aa N _ _ _ _ _ hq85) kc_Machine_114 3 (g_lay_obj rfl) rfl rfl ⟨by decide, by decide⟩ (Nat.le_of_ble_eq_true rfl) [.int (x2 + 1), .int x1, .ref (ao 3)] [.int q85.1] rfl rfl d_Machine_endRepetition_85 ?_
  cases hf
  exact gw_iret hC d_Machine_endRepetition_88
def Machine_endRepetition_b66 (N : Nat) (σ : g_S) : Option (Int32 × g_S) := some ((-3), σ)
theorem Machine_endRepetition_p66 (ao aa : Nat → Nat) {X : g_X} (hC : gC X c_Machine_endRepetition R_Machine 3 68 4 (some .int)) (N : Nat) (σ : g_S) (r : Int32) (σe : g_S) (hf : Machine_endRepetition_b66 N σ = some (r, σe)) : gw X (.inl (some (.int r))) (LC ao aa X.2.2.1 σe) (LC ao aa X.2.2.1 σ) [(0, .ref (ao 3))] 66 [] := by
  unfold Machine_endRepetition_b66 at hf
  refine gw_bipush hC (-3) d_Machine_endRepetition_66 (by decide) ?_
  cases hf
  exact gw_iret hC d_Machine_endRepetition_68
def Machine_endRepetition_b59 (N : Nat) (x1 : Int32) (x2 : Int32) (σ : g_S) : Option (Int32 × g_S) := (Machine_takesStep N σ).bind fun q60 => if q60.1 = 0 then Machine_endRepetition_b66 N q60.2 else Machine_endRepetition_b69 N x1 x2 q60.2
theorem Machine_endRepetition_p59 (ao aa : Nat → Nat) {X : g_X} (hC : gC X c_Machine_endRepetition R_Machine 3 68 4 (some .int)) (N : Nat) (x1 : Int32) (x2 : Int32) (σ : g_S) (r : Int32) (σe : g_S) (hf : Machine_endRepetition_b59 N x1 x2 σ = some (r, σe)) : gw X (.inl (some (.int r))) (LC ao aa X.2.2.1 σe) (LC ao aa X.2.2.1 σ) [(0, .ref (ao 3)), (1, .int x1), (2, .int x2)] 59 [] := by
  unfold Machine_endRepetition_b59 at hf
  refine gw_aload_n hC 0 d_Machine_endRepetition_59 rfl rfl ?_
  obtain ⟨q60, hq60, hf⟩ := g_bind hf
  refine gw_callV hC [] [] (Machine_takesStep_m _ _ _ ao aa N _ _ _ hq60) kc_Machine_94 3 (g_lay_obj rfl) rfl rfl ⟨by decide, by decide⟩ (Nat.le_of_ble_eq_true rfl) [.ref (ao 3)] [.int q60.1] rfl rfl d_Machine_endRepetition_60 ?_
  refine gw_if_ne hC 69 d_Machine_endRepetition_63 (by decide) (fun hh => ?_) (fun hh => ?_)
  · rw [if_neg hh] at hf
    exact Machine_endRepetition_p69 ao aa hC N _ _ _ _ _ hf
  · rw [if_pos hh] at hf
    refine gw_lv [0] rfl ?_
    exact Machine_endRepetition_p66 ao aa hC N _ _ _ hf
def Machine_endRepetition_b56 (N : Nat) (σ : g_S) : Option (Int32 × g_S) := some ((-2), σ)
theorem Machine_endRepetition_p56 (ao aa : Nat → Nat) {X : g_X} (hC : gC X c_Machine_endRepetition R_Machine 3 68 4 (some .int)) (N : Nat) (σ : g_S) (r : Int32) (σe : g_S) (hf : Machine_endRepetition_b56 N σ = some (r, σe)) : gw X (.inl (some (.int r))) (LC ao aa X.2.2.1 σe) (LC ao aa X.2.2.1 σ) [(0, .ref (ao 3))] 56 [] := by
  unfold Machine_endRepetition_b56 at hf
  refine gw_bipush hC (-2) d_Machine_endRepetition_56 (by decide) ?_
  cases hf
  exact gw_iret hC d_Machine_endRepetition_58
def Machine_endRepetition_b37 (N : Nat) (x1 : Int32) (x2 : Int32) (σ : g_S) : Option (Int32 × g_S) := (Rows_read N 18 (163 + x1) σ).bind fun q50 => if (σ.1 24) = q50.1 then Machine_endRepetition_b56 N q50.2 else Machine_endRepetition_b59 N x1 x2 q50.2
theorem Machine_endRepetition_p37 (ao aa : Nat → Nat) {X : g_X} (hC : gC X c_Machine_endRepetition R_Machine 3 68 4 (some .int)) (N : Nat) (x1 : Int32) (x2 : Int32) (σ : g_S) (r : Int32) (σe : g_S) (hf : Machine_endRepetition_b37 N x1 x2 σ = some (r, σe)) : gw X (.inl (some (.int r))) (LC ao aa X.2.2.1 σe) (LC ao aa X.2.2.1 σ) [(0, .ref (ao 3)), (1, .int x1), (2, .int x2)] 37 [] := by
  unfold Machine_endRepetition_b37 at hf
  refine gw_aload_n hC 0 d_Machine_endRepetition_37 rfl rfl ?_
  refine Cg24 hC kf_Machine_67 d_Machine_endRepetition_38 (σ.1 24) rfl ?_
  refine gw_aload_n hC 0 d_Machine_endRepetition_41 rfl rfl ?_
  refine Cr_Machine_cells hC kf_Machine_17 d_Machine_endRepetition_42 ?_
  refine gw_sipush hC 163 d_Machine_endRepetition_45 (by decide) ?_
  refine gw_iload_n hC 1 d_Machine_endRepetition_48 rfl rfl ?_
  refine gw_iadd hC d_Machine_endRepetition_49 ?_
  obtain ⟨q50, hq50, hf⟩ := g_bind hf
  refine gw_callS hC [.ref (aa 18), .int (163 + x1)] [.int (σ.1 24)] (Rows_read_m _ _ _ ao aa N _ _ _ _ _ hq50) kc_Machine_43 ⟨by decide, by decide⟩ (Nat.le_of_ble_eq_true rfl) [.int (163 + x1), .ref (aa 18), .int (σ.1 24)] [.int q50.1, .int (σ.1 24)] rfl rfl d_Machine_endRepetition_50 ?_
  refine gw_icmp_ne hC 59 d_Machine_endRepetition_53 (by decide) (fun hh => ?_) (fun hh => ?_)
  · rw [if_neg hh] at hf
    exact Machine_endRepetition_p59 ao aa hC N _ _ _ _ _ hf
  · rw [if_pos hh] at hf
    refine gw_lv [0] rfl ?_
    exact Machine_endRepetition_p56 ao aa hC N _ _ _ hf
def Machine_endRepetition_b32 (N : Nat) (x1 : Int32) (x2 : Int32) (s0 : Int32) (σ : g_S) : Option (Int32 × g_S) := if s0 = 0 then Machine_endRepetition_b59 N x1 x2 σ else Machine_endRepetition_b37 N x1 x2 σ
theorem Machine_endRepetition_p32 (ao aa : Nat → Nat) {X : g_X} (hC : gC X c_Machine_endRepetition R_Machine 3 68 4 (some .int)) (N : Nat) (x1 : Int32) (x2 : Int32) (s0 : Int32) (σ : g_S) (r : Int32) (σe : g_S) (hf : Machine_endRepetition_b32 N x1 x2 s0 σ = some (r, σe)) : gw X (.inl (some (.int r))) (LC ao aa X.2.2.1 σe) (LC ao aa X.2.2.1 σ) [(0, .ref (ao 3)), (1, .int x1), (2, .int x2)] 32 [.int s0] := by
  unfold Machine_endRepetition_b32 at hf
  refine gw_istore_n hC [(3, .int s0), (0, .ref (ao 3)), (1, .int x1), (2, .int x2)] d_Machine_endRepetition_32 rfl (by decide) rfl ?_
  refine gw_iload_n hC 0 d_Machine_endRepetition_33 rfl rfl ?_
  refine gw_if_eq hC 59 d_Machine_endRepetition_34 (by decide) (fun hh => ?_) (fun hh => ?_)
  · rw [if_pos hh] at hf
    refine gw_lv [1, 2, 3] rfl ?_
    exact Machine_endRepetition_p59 ao aa hC N _ _ _ _ _ hf
  · rw [if_neg hh] at hf
    refine gw_lv [1, 2, 3] rfl ?_
    exact Machine_endRepetition_p37 ao aa hC N _ _ _ _ _ hf
def Machine_endRepetition_b31 (N : Nat) (x1 : Int32) (x2 : Int32) (σ : g_S) : Option (Int32 × g_S) := Machine_endRepetition_b32 N x1 x2 0 σ
theorem Machine_endRepetition_p31 (ao aa : Nat → Nat) {X : g_X} (hC : gC X c_Machine_endRepetition R_Machine 3 68 4 (some .int)) (N : Nat) (x1 : Int32) (x2 : Int32) (σ : g_S) (r : Int32) (σe : g_S) (hf : Machine_endRepetition_b31 N x1 x2 σ = some (r, σe)) : gw X (.inl (some (.int r))) (LC ao aa X.2.2.1 σe) (LC ao aa X.2.2.1 σ) [(0, .ref (ao 3)), (1, .int x1), (2, .int x2)] 31 [] := by
  unfold Machine_endRepetition_b31 at hf
  refine gw_iconst hC 0 d_Machine_endRepetition_31 (by decide) ?_
  exact Machine_endRepetition_p32 ao aa hC N _ _ _ _ _ _ hf
def Machine_endRepetition_b27 (N : Nat) (x1 : Int32) (x2 : Int32) (σ : g_S) : Option (Int32 × g_S) := Machine_endRepetition_b32 N x1 x2 1 σ
theorem Machine_endRepetition_p27 (ao aa : Nat → Nat) {X : g_X} (hC : gC X c_Machine_endRepetition R_Machine 3 68 4 (some .int)) (N : Nat) (x1 : Int32) (x2 : Int32) (σ : g_S) (r : Int32) (σe : g_S) (hf : Machine_endRepetition_b27 N x1 x2 σ = some (r, σe)) : gw X (.inl (some (.int r))) (LC ao aa X.2.2.1 σe) (LC ao aa X.2.2.1 σ) [(0, .ref (ao 3)), (1, .int x1), (2, .int x2)] 27 [] := by
  unfold Machine_endRepetition_b27 at hf
  refine gw_iconst hC 1 d_Machine_endRepetition_27 (by decide) ?_
  refine gw_goto hC 32 d_Machine_endRepetition_28 (by decide) ?_
  exact Machine_endRepetition_p32 ao aa hC N _ _ _ _ _ _ hf
def Machine_endRepetition_b0 (N : Nat) (x1 : Int32) (σ : g_S) : Option (Int32 × g_S) := (Rows_read N 18 (63 + x1) σ).bind fun q8 => (Rows_read N 7 x1 q8.2).bind fun q21 => if q8.1 < q21.1 then Machine_endRepetition_b31 N x1 q8.1 q21.2 else Machine_endRepetition_b27 N x1 q8.1 q21.2
theorem Machine_endRepetition_p0 (ao aa : Nat → Nat) {X : g_X} (hC : gC X c_Machine_endRepetition R_Machine 3 68 4 (some .int)) (N : Nat) (x1 : Int32) (σ : g_S) (r : Int32) (σe : g_S) (hf : Machine_endRepetition_b0 N x1 σ = some (r, σe)) : gw X (.inl (some (.int r))) (LC ao aa X.2.2.1 σe) (LC ao aa X.2.2.1 σ) [(0, .ref (ao 3)), (1, .int x1)] 0 [] := by
  unfold Machine_endRepetition_b0 at hf
  refine gw_aload_n hC 0 d_Machine_endRepetition_0 rfl rfl ?_
  refine Cr_Machine_cells hC kf_Machine_17 d_Machine_endRepetition_1 ?_
  refine gw_bipush hC 63 d_Machine_endRepetition_4 (by decide) ?_
  refine gw_iload_n hC 1 d_Machine_endRepetition_6 rfl rfl ?_
  refine gw_iadd hC d_Machine_endRepetition_7 ?_
  obtain ⟨q8, hq8, hf⟩ := g_bind hf
  refine gw_callS hC [.ref (aa 18), .int (63 + x1)] [] (Rows_read_m _ _ _ ao aa N _ _ _ _ _ hq8) kc_Machine_43 ⟨by decide, by decide⟩ (Nat.le_of_ble_eq_true rfl) [.int (63 + x1), .ref (aa 18)] [.int q8.1] rfl rfl d_Machine_endRepetition_8 ?_
  refine gw_istore_n hC [(2, .int q8.1), (0, .ref (ao 3)), (1, .int x1)] d_Machine_endRepetition_11 rfl (by decide) rfl ?_
  refine gw_iload_n hC 0 d_Machine_endRepetition_12 rfl rfl ?_
  refine gw_aload_n hC 1 d_Machine_endRepetition_13 rfl rfl ?_
  refine Cr_Machine_program hC kf_Machine_39 d_Machine_endRepetition_14 ?_
  refine Cr_Program_least hC kf_Machine_134 d_Machine_endRepetition_17 ?_
  refine gw_iload_n hC 2 d_Machine_endRepetition_20 rfl rfl ?_
  obtain ⟨q21, hq21, hf⟩ := g_bind hf
  refine gw_callS hC [.ref (aa 7), .int x1] [.int q8.1] (Rows_read_m _ _ _ ao aa N _ _ _ _ _ hq21) kc_Machine_43 ⟨by decide, by decide⟩ (Nat.le_of_ble_eq_true rfl) [.int x1, .ref (aa 7), .int q8.1] [.int q21.1, .int q8.1] rfl rfl d_Machine_endRepetition_21 ?_
  refine gw_icmp_lt hC 31 d_Machine_endRepetition_24 (by decide) (fun hh => ?_) (fun hh => ?_)
  · rw [if_pos hh] at hf
    refine gw_lv [1, 2, 0] rfl ?_
    exact Machine_endRepetition_p31 ao aa hC N _ _ _ _ _ hf
  · rw [if_neg hh] at hf
    refine gw_lv [1, 2, 0] rfl ?_
    exact Machine_endRepetition_p27 ao aa hC N _ _ _ _ _ hf
def Machine_endRepetition (N : Nat) (x1 : Int32) (σ : g_S) : Option (Int32 × g_S) := Machine_endRepetition_b0 N x1 σ
theorem Machine_endRepetition_m (l : Launch) (D : va_G) (cA : ClassId) (ao aa : Nat → Nat) (N : Nat) (x1 : Int32) (σ : g_S) (r : Int32) (σe : g_S) (hf : Machine_endRepetition N x1 σ = some (r, σe)) : Mt l D cA y_Machine_endRepetition c_Machine_endRepetition 4 (some .int) 3 68 [.ref (ao 3), .int x1] (LC ao aa cA σ) (some (.int r)) (LC ao aa cA σe) := by
  refine g_met (by decide +kernel) (by simp [lg_sl, Value.category]) (fun X e1 e2 e3 hC => ?_)
  subst e1 e2 e3
  refine gw_lv [0, 1] rfl ?_
  exact Machine_endRepetition_p0 ao aa hC N _ _ (r) _ hf
def Machine_beginLook_b47 (N : Nat) (σ : g_S) : Option (Int32 × g_S) := some (0, σ)
theorem Machine_beginLook_p47 (ao aa : Nat → Nat) {X : g_X} (hC : gC X c_Machine_beginLook R_Machine 2 43 4 none) (N : Nat) (σ : g_S) (r : Int32) (σe : g_S) (hf : Machine_beginLook_b47 N σ = some (r, σe)) : gw X (.inl none) (LC ao aa X.2.2.1 σe) (LC ao aa X.2.2.1 σ) [(0, .ref (ao 3))] 47 [] := by
  unfold Machine_beginLook_b47 at hf
  cases hf
  exact gw_vret hC d_Machine_beginLook_47
def Machine_beginLook_b30 (N : Nat) (x3 : Int32) (σ : g_S) : Option (Int32 × g_S) := (Rows_read N 2 (x3 + 1) σ).bind fun q41 => (Machine_addChoice N q41.1 q41.2).bind fun q44 => Machine_beginLook_b47 N q44.2
theorem Machine_beginLook_p30 (ao aa : Nat → Nat) {X : g_X} (hC : gC X c_Machine_beginLook R_Machine 2 43 4 none) (N : Nat) (x3 : Int32) (σ : g_S) (r : Int32) (σe : g_S) (hf : Machine_beginLook_b30 N x3 σ = some (r, σe)) : gw X (.inl none) (LC ao aa X.2.2.1 σe) (LC ao aa X.2.2.1 σ) [(0, .ref (ao 3)), (3, .int x3)] 30 [] := by
  unfold Machine_beginLook_b30 at hf
  refine gw_aload_n hC 0 d_Machine_beginLook_30 rfl rfl ?_
  refine gw_aload_n hC 0 d_Machine_beginLook_31 rfl rfl ?_
  refine Cr_Machine_program hC kf_Machine_39 d_Machine_beginLook_32 ?_
  refine Cr_Program_next hC kf_Machine_88 d_Machine_beginLook_35 ?_
  refine gw_iload_n hC 1 d_Machine_beginLook_38 rfl rfl ?_
  refine gw_iconst hC 1 d_Machine_beginLook_39 (by decide) ?_
  refine gw_iadd hC d_Machine_beginLook_40 ?_
  obtain ⟨q41, hq41, hf⟩ := g_bind hf
  refine gw_callS hC [.ref (aa 2), .int (x3 + 1)] [.ref (ao 3)] (Rows_read_m _ _ _ ao aa N _ _ _ _ _ hq41) kc_Machine_43 ⟨by decide, by decide⟩ (Nat.le_of_ble_eq_true rfl) [.int (x3 + 1), .ref (aa 2), .ref (ao 3)] [.int q41.1, .ref (ao 3)] rfl rfl d_Machine_beginLook_41 ?_
  obtain ⟨q44, hq44, hf⟩ := g_bind hf
  refine gw_callV hC [.int q41.1] [] (Machine_addChoice_m _ _ _ ao aa N _ _ _ _ hq44) kc_Machine_106 3 (g_lay_obj rfl) rfl rfl ⟨by decide, by decide⟩ (Nat.le_of_ble_eq_true rfl) [.int q41.1, .ref (ao 3)] [] rfl rfl d_Machine_beginLook_44 ?_
  refine gw_lv [0] rfl ?_
  exact Machine_beginLook_p47 ao aa hC N _ _ _ hf
def Machine_beginLook_b0 (N : Nat) (x1 : Int32) (x2 : Int32) (x3 : Int32) (σ : g_S) : Option (Int32 × g_S) := (Rows_write N 23 x2 (σ.1 22) σ).bind fun q9 => (Rows_write N 24 x2 (q9.2.1 24) q9.2).bind fun q21 => if x1 = 21 then Machine_beginLook_b30 N x3 q21.2 else Machine_beginLook_b47 N q21.2
theorem Machine_beginLook_p0 (ao aa : Nat → Nat) {X : g_X} (hC : gC X c_Machine_beginLook R_Machine 2 43 4 none) (N : Nat) (x1 : Int32) (x2 : Int32) (x3 : Int32) (σ : g_S) (r : Int32) (σe : g_S) (hf : Machine_beginLook_b0 N x1 x2 x3 σ = some (r, σe)) : gw X (.inl none) (LC ao aa X.2.2.1 σe) (LC ao aa X.2.2.1 σ) [(0, .ref (ao 3)), (1, .int x1), (2, .int x2), (3, .int x3)] 0 [] := by
  unfold Machine_beginLook_b0 at hf
  refine gw_aload_n hC 0 d_Machine_beginLook_0 rfl rfl ?_
  refine Cr_Machine_lookChoices hC kf_Machine_33 d_Machine_beginLook_1 ?_
  refine gw_iload_n hC 2 d_Machine_beginLook_4 rfl rfl ?_
  refine gw_aload_n hC 0 d_Machine_beginLook_5 rfl rfl ?_
  refine Cg22 hC kf_Machine_70 d_Machine_beginLook_6 (σ.1 22) rfl ?_
  obtain ⟨q9, hq9, hf⟩ := g_bind hf
  refine gw_callS hC [.ref (aa 23), .int x2, .int (σ.1 22)] [] (Rows_write_m _ _ _ ao aa N _ _ _ _ _ _ hq9) kc_Machine_49 ⟨by decide, by decide⟩ (Nat.le_of_ble_eq_true rfl) [.int (σ.1 22), .int x2, .ref (aa 23)] [] rfl rfl d_Machine_beginLook_9 ?_
  refine gw_aload_n hC 0 d_Machine_beginLook_12 rfl rfl ?_
  refine Cr_Machine_lookAt hC kf_Machine_36 d_Machine_beginLook_13 ?_
  refine gw_iload_n hC 2 d_Machine_beginLook_16 rfl rfl ?_
  refine gw_aload_n hC 0 d_Machine_beginLook_17 rfl rfl ?_
  refine Cg24 hC kf_Machine_67 d_Machine_beginLook_18 (q9.2.1 24) rfl ?_
  obtain ⟨q21, hq21, hf⟩ := g_bind hf
  refine gw_callS hC [.ref (aa 24), .int x2, .int (q9.2.1 24)] [] (Rows_write_m _ _ _ ao aa N _ _ _ _ _ _ hq21) kc_Machine_49 ⟨by decide, by decide⟩ (Nat.le_of_ble_eq_true rfl) [.int (q9.2.1 24), .int x2, .ref (aa 24)] [] rfl rfl d_Machine_beginLook_21 ?_
  refine gw_iload_n hC 1 d_Machine_beginLook_24 rfl rfl ?_
  refine gw_bipush hC 21 d_Machine_beginLook_25 (by decide) ?_
  refine gw_icmp_ne hC 47 d_Machine_beginLook_27 (by decide) (fun hh => ?_) (fun hh => ?_)
  · rw [if_neg hh] at hf
    refine gw_lv [0] rfl ?_
    exact Machine_beginLook_p47 ao aa hC N _ _ _ hf
  · rw [if_pos hh] at hf
    refine gw_lv [0, 3] rfl ?_
    exact Machine_beginLook_p30 ao aa hC N _ _ _ _ hf
def Machine_beginLook (N : Nat) (x1 : Int32) (x2 : Int32) (x3 : Int32) (σ : g_S) : Option (Int32 × g_S) := Machine_beginLook_b0 N x1 x2 x3 σ
theorem Machine_beginLook_m (l : Launch) (D : va_G) (cA : ClassId) (ao aa : Nat → Nat) (N : Nat) (x1 : Int32) (x2 : Int32) (x3 : Int32) (σ : g_S) (r : Int32) (σe : g_S) (hf : Machine_beginLook N x1 x2 x3 σ = some (r, σe)) : Mt l D cA y_Machine_beginLook c_Machine_beginLook 4 none 2 43 [.ref (ao 3), .int x1, .int x2, .int x3] (LC ao aa cA σ) none (LC ao aa cA σe) := by
  refine g_met (by decide +kernel) (by simp [lg_sl, Value.category]) (fun X e1 e2 e3 hC => ?_)
  subst e1 e2 e3
  refine gw_lv [0, 1, 2, 3] rfl ?_
  exact Machine_beginLook_p0 ao aa hC N _ _ _ _ (r) _ hf
def Machine_perform_b180 (N : Nat) (x3 : Int32) (σ : g_S) : Option (Int32 × g_S) := some (x3, σ)
theorem Machine_perform_p180 (ao aa : Nat → Nat) {X : g_X} (hC : gC X c_Machine_perform R_Machine 5 113 5 (some .int)) (N : Nat) (x3 : Int32) (σ : g_S) (r : Int32) (σe : g_S) (hf : Machine_perform_b180 N x3 σ = some (r, σe)) : gw X (.inl (some (.int r))) (LC ao aa X.2.2.1 σe) (LC ao aa X.2.2.1 σ) [(0, .ref (ao 3)), (3, .int x3)] 180 [] := by
  unfold Machine_perform_b180 at hf
  refine gw_iload_n hC 1 d_Machine_perform_180 rfl rfl ?_
  cases hf
  exact gw_iret hC d_Machine_perform_181
def Machine_perform_b174 (N : Nat) (x3 : Int32) (x4 : Int32) (σ : g_S) : Option (Int32 × g_S) := (Machine_addChoice N x4 σ).bind fun q177 => Machine_perform_b180 N x3 q177.2
theorem Machine_perform_p174 (ao aa : Nat → Nat) {X : g_X} (hC : gC X c_Machine_perform R_Machine 5 113 5 (some .int)) (N : Nat) (x3 : Int32) (x4 : Int32) (σ : g_S) (r : Int32) (σe : g_S) (hf : Machine_perform_b174 N x3 x4 σ = some (r, σe)) : gw X (.inl (some (.int r))) (LC ao aa X.2.2.1 σe) (LC ao aa X.2.2.1 σ) [(0, .ref (ao 3)), (3, .int x3), (4, .int x4)] 174 [] := by
  unfold Machine_perform_b174 at hf
  refine gw_aload_n hC 0 d_Machine_perform_174 rfl rfl ?_
  refine gw_iload hC 2 d_Machine_perform_175 rfl ?_
  obtain ⟨q177, hq177, hf⟩ := g_bind hf
  refine gw_callV hC [.int x4] [] (Machine_addChoice_m _ _ _ ao aa N _ _ _ _ hq177) kc_Machine_106 3 (g_lay_obj rfl) rfl rfl ⟨by decide, by decide⟩ (Nat.le_of_ble_eq_true rfl) [.int x4, .ref (ao 3)] [] rfl rfl d_Machine_perform_177 ?_
  refine gw_lv [0, 1] rfl ?_
  exact Machine_perform_p180 ao aa hC N _ _ _ _ hf
def Machine_perform_b168 (N : Nat) (x3 : Int32) (x4 : Int32) (σ : g_S) : Option (Int32 × g_S) := if x4 = (-1) then Machine_perform_b180 N x3 σ else Machine_perform_b174 N x3 x4 σ
theorem Machine_perform_p168 (ao aa : Nat → Nat) {X : g_X} (hC : gC X c_Machine_perform R_Machine 5 113 5 (some .int)) (N : Nat) (x3 : Int32) (x4 : Int32) (σ : g_S) (r : Int32) (σe : g_S) (hf : Machine_perform_b168 N x3 x4 σ = some (r, σe)) : gw X (.inl (some (.int r))) (LC ao aa X.2.2.1 σe) (LC ao aa X.2.2.1 σ) [(0, .ref (ao 3)), (3, .int x3), (4, .int x4)] 168 [] := by
  unfold Machine_perform_b168 at hf
  refine gw_iload hC 2 d_Machine_perform_168 rfl ?_
  refine gw_iconst hC (-1) d_Machine_perform_170 (by decide) ?_
  refine gw_icmp_eq hC 180 d_Machine_perform_171 (by decide) (fun hh => ?_) (fun hh => ?_)
  · rw [if_pos hh] at hf
    refine gw_lv [0, 1] rfl ?_
    exact Machine_perform_p180 ao aa hC N _ _ _ _ hf
  · rw [if_neg hh] at hf
    exact Machine_perform_p174 ao aa hC N _ _ _ _ _ hf
def Machine_perform_b182 (N : Nat) (x4 : Int32) (σ : g_S) : Option (Int32 × g_S) := (Machine_setCell N (63 + x4) 0 σ).bind fun q189 => (Machine_goOnOrEnd N x4 0 q189.2).bind fun q196 => some (q196.1, q196.2)
theorem Machine_perform_p182 (ao aa : Nat → Nat) {X : g_X} (hC : gC X c_Machine_perform R_Machine 5 113 5 (some .int)) (N : Nat) (x4 : Int32) (σ : g_S) (r : Int32) (σe : g_S) (hf : Machine_perform_b182 N x4 σ = some (r, σe)) : gw X (.inl (some (.int r))) (LC ao aa X.2.2.1 σe) (LC ao aa X.2.2.1 σ) [(0, .ref (ao 3)), (4, .int x4)] 182 [] := by
  unfold Machine_perform_b182 at hf
  refine gw_aload_n hC 0 d_Machine_perform_182 rfl rfl ?_
  refine gw_bipush hC 63 d_Machine_perform_183 (by decide) ?_
  refine gw_iload hC 1 d_Machine_perform_185 rfl ?_
  refine gw_iadd hC d_Machine_perform_187 ?_
  refine gw_iconst hC 0 d_Machine_perform_188 (by decide) ?_
  obtain ⟨q189, hq189, hf⟩ := g_bind hf
  refine gw_callV hC [.int (63 + x4), .int 0] [] (Machine_setCell_m _ _ _ ao aa N _ _ _ _ _ hq189) kc_Machine_110 3 (g_lay_obj rfl) rfl rfl ⟨by decide, by decide⟩ (Nat.le_of_ble_eq_true rfl) [.int 0, .int (63 + x4), .ref (ao 3)] [] rfl rfl d_Machine_perform_189 ?_
  refine gw_aload_n hC 0 d_Machine_perform_192 rfl rfl ?_
  refine gw_iload hC 1 d_Machine_perform_193 rfl ?_
  refine gw_iconst hC 0 d_Machine_perform_195 (by decide) ?_
  obtain ⟨q196, hq196, hf⟩ := g_bind hf
  refine gw_callV hC [.int x4, .int 0] [] (Machine_goOnOrEnd_m _ _ _ ao aa N _ _ _ _ _ hq196) kc_Machine_114 3 (g_lay_obj rfl) rfl rfl ⟨by decide, by decide⟩ (Nat.le_of_ble_eq_true rfl) [.int 0, .int x4, .ref (ao 3)] [.int q196.1] rfl rfl d_Machine_perform_196 ?_
  cases hf
  exact gw_iret hC d_Machine_perform_199
def Machine_perform_b200 (N : Nat) (x3 : Int32) (x4 : Int32) (σ : g_S) : Option (Int32 × g_S) := (Machine_enterRepetition N x4 σ).bind fun q203 => some (x3, q203.2)
theorem Machine_perform_p200 (ao aa : Nat → Nat) {X : g_X} (hC : gC X c_Machine_perform R_Machine 5 113 5 (some .int)) (N : Nat) (x3 : Int32) (x4 : Int32) (σ : g_S) (r : Int32) (σe : g_S) (hf : Machine_perform_b200 N x3 x4 σ = some (r, σe)) : gw X (.inl (some (.int r))) (LC ao aa X.2.2.1 σe) (LC ao aa X.2.2.1 σ) [(0, .ref (ao 3)), (3, .int x3), (4, .int x4)] 200 [] := by
  unfold Machine_perform_b200 at hf
  refine gw_aload_n hC 0 d_Machine_perform_200 rfl rfl ?_
  refine gw_iload hC 2 d_Machine_perform_201 rfl ?_
  obtain ⟨q203, hq203, hf⟩ := g_bind hf
  refine gw_callV hC [.int x4] [] (Machine_enterRepetition_m _ _ _ ao aa N _ _ _ _ hq203) kc_Machine_118 3 (g_lay_obj rfl) rfl rfl ⟨by decide, by decide⟩ (Nat.le_of_ble_eq_true rfl) [.int x4, .ref (ao 3)] [] rfl rfl d_Machine_perform_203 ?_
  refine gw_iload_n hC 1 d_Machine_perform_206 rfl rfl ?_
  cases hf
  exact gw_iret hC d_Machine_perform_207
def Machine_perform_b208 (N : Nat) (x4 : Int32) (σ : g_S) : Option (Int32 × g_S) := (Machine_endRepetition N x4 σ).bind fun q211 => some (q211.1, q211.2)
theorem Machine_perform_p208 (ao aa : Nat → Nat) {X : g_X} (hC : gC X c_Machine_perform R_Machine 5 113 5 (some .int)) (N : Nat) (x4 : Int32) (σ : g_S) (r : Int32) (σe : g_S) (hf : Machine_perform_b208 N x4 σ = some (r, σe)) : gw X (.inl (some (.int r))) (LC ao aa X.2.2.1 σe) (LC ao aa X.2.2.1 σ) [(0, .ref (ao 3)), (4, .int x4)] 208 [] := by
  unfold Machine_perform_b208 at hf
  refine gw_aload_n hC 0 d_Machine_perform_208 rfl rfl ?_
  refine gw_iload hC 1 d_Machine_perform_209 rfl ?_
  obtain ⟨q211, hq211, hf⟩ := g_bind hf
  refine gw_callV hC [.int x4] [] (Machine_endRepetition_m _ _ _ ao aa N _ _ _ _ hq211) kc_Machine_121 3 (g_lay_obj rfl) rfl rfl ⟨by decide, by decide⟩ (Nat.le_of_ble_eq_true rfl) [.int x4, .ref (ao 3)] [.int q211.1] rfl rfl d_Machine_perform_211 ?_
  cases hf
  exact gw_iret hC d_Machine_perform_214
def Machine_perform_b215 (N : Nat) (x3 : Int32) (x4 : Int32) (σ : g_S) : Option (Int32 × g_S) := (Machine_setCell N (42 + x4) (σ.1 24) σ).bind fun q225 => some (x3, q225.2)
theorem Machine_perform_p215 (ao aa : Nat → Nat) {X : g_X} (hC : gC X c_Machine_perform R_Machine 5 113 5 (some .int)) (N : Nat) (x3 : Int32) (x4 : Int32) (σ : g_S) (r : Int32) (σe : g_S) (hf : Machine_perform_b215 N x3 x4 σ = some (r, σe)) : gw X (.inl (some (.int r))) (LC ao aa X.2.2.1 σe) (LC ao aa X.2.2.1 σ) [(0, .ref (ao 3)), (3, .int x3), (4, .int x4)] 215 [] := by
  unfold Machine_perform_b215 at hf
  refine gw_aload_n hC 0 d_Machine_perform_215 rfl rfl ?_
  refine gw_bipush hC 42 d_Machine_perform_216 (by decide) ?_
  refine gw_iload hC 2 d_Machine_perform_218 rfl ?_
  refine gw_iadd hC d_Machine_perform_220 ?_
  refine gw_aload_n hC 0 d_Machine_perform_221 rfl rfl ?_
  refine Cg24 hC kf_Machine_67 d_Machine_perform_222 (σ.1 24) rfl ?_
  obtain ⟨q225, hq225, hf⟩ := g_bind hf
  refine gw_callV hC [.int (42 + x4), .int (σ.1 24)] [] (Machine_setCell_m _ _ _ ao aa N _ _ _ _ _ hq225) kc_Machine_110 3 (g_lay_obj rfl) rfl rfl ⟨by decide, by decide⟩ (Nat.le_of_ble_eq_true rfl) [.int (σ.1 24), .int (42 + x4), .ref (ao 3)] [] rfl rfl d_Machine_perform_225 ?_
  refine gw_iload_n hC 1 d_Machine_perform_228 rfl rfl ?_
  cases hf
  exact gw_iret hC d_Machine_perform_229
def Machine_perform_b230 (N : Nat) (x3 : Int32) (x4 : Int32) (σ : g_S) : Option (Int32 × g_S) := (Rows_read N 18 (42 + x4) σ).bind fun q244 => (Machine_setCell N (0 + x4) q244.1 q244.2).bind fun q247 => (Machine_setCell N (21 + x4) (q247.2.1 24) q247.2).bind fun q260 => some (x3, q260.2)
theorem Machine_perform_p230 (ao aa : Nat → Nat) {X : g_X} (hC : gC X c_Machine_perform R_Machine 5 113 5 (some .int)) (N : Nat) (x3 : Int32) (x4 : Int32) (σ : g_S) (r : Int32) (σe : g_S) (hf : Machine_perform_b230 N x3 x4 σ = some (r, σe)) : gw X (.inl (some (.int r))) (LC ao aa X.2.2.1 σe) (LC ao aa X.2.2.1 σ) [(0, .ref (ao 3)), (3, .int x3), (4, .int x4)] 230 [] := by
  unfold Machine_perform_b230 at hf
  refine gw_aload_n hC 0 d_Machine_perform_230 rfl rfl ?_
  refine gw_iconst hC 0 d_Machine_perform_231 (by decide) ?_
  refine gw_iload hC 2 d_Machine_perform_232 rfl ?_
  refine gw_iadd hC d_Machine_perform_234 ?_
  refine gw_aload_n hC 0 d_Machine_perform_235 rfl rfl ?_
  refine Cr_Machine_cells hC kf_Machine_17 d_Machine_perform_236 ?_
  refine gw_bipush hC 42 d_Machine_perform_239 (by decide) ?_
  refine gw_iload hC 2 d_Machine_perform_241 rfl ?_
  refine gw_iadd hC d_Machine_perform_243 ?_
  obtain ⟨q244, hq244, hf⟩ := g_bind hf
  refine gw_callS hC [.ref (aa 18), .int (42 + x4)] [.int (0 + x4), .ref (ao 3)] (Rows_read_m _ _ _ ao aa N _ _ _ _ _ hq244) kc_Machine_43 ⟨by decide, by decide⟩ (Nat.le_of_ble_eq_true rfl) [.int (42 + x4), .ref (aa 18), .int (0 + x4), .ref (ao 3)] [.int q244.1, .int (0 + x4), .ref (ao 3)] rfl rfl d_Machine_perform_244 ?_
  obtain ⟨q247, hq247, hf⟩ := g_bind hf
  refine gw_callV hC [.int (0 + x4), .int q244.1] [] (Machine_setCell_m _ _ _ ao aa N _ _ _ _ _ hq247) kc_Machine_110 3 (g_lay_obj rfl) rfl rfl ⟨by decide, by decide⟩ (Nat.le_of_ble_eq_true rfl) [.int q244.1, .int (0 + x4), .ref (ao 3)] [] rfl rfl d_Machine_perform_247 ?_
  refine gw_aload_n hC 0 d_Machine_perform_250 rfl rfl ?_
  refine gw_bipush hC 21 d_Machine_perform_251 (by decide) ?_
  refine gw_iload hC 2 d_Machine_perform_253 rfl ?_
  refine gw_iadd hC d_Machine_perform_255 ?_
  refine gw_aload_n hC 0 d_Machine_perform_256 rfl rfl ?_
  refine Cg24 hC kf_Machine_67 d_Machine_perform_257 (q247.2.1 24) rfl ?_
  obtain ⟨q260, hq260, hf⟩ := g_bind hf
  refine gw_callV hC [.int (21 + x4), .int (q247.2.1 24)] [] (Machine_setCell_m _ _ _ ao aa N _ _ _ _ _ hq260) kc_Machine_110 3 (g_lay_obj rfl) rfl rfl ⟨by decide, by decide⟩ (Nat.le_of_ble_eq_true rfl) [.int (q247.2.1 24), .int (21 + x4), .ref (ao 3)] [] rfl rfl d_Machine_perform_260 ?_
  refine gw_iload_n hC 1 d_Machine_perform_263 rfl rfl ?_
  cases hf
  exact gw_iret hC d_Machine_perform_264
def Machine_perform_b319 (N : Nat) (x3 : Int32) (σ : g_S) : Option (Int32 × g_S) := some (x3, σ)
theorem Machine_perform_p319 (ao aa : Nat → Nat) {X : g_X} (hC : gC X c_Machine_perform R_Machine 5 113 5 (some .int)) (N : Nat) (x3 : Int32) (σ : g_S) (r : Int32) (σe : g_S) (hf : Machine_perform_b319 N x3 σ = some (r, σe)) : gw X (.inl (some (.int r))) (LC ao aa X.2.2.1 σe) (LC ao aa X.2.2.1 σ) [(0, .ref (ao 3)), (3, .int x3)] 319 [] := by
  unfold Machine_perform_b319 at hf
  refine gw_iload_n hC 1 d_Machine_perform_319 rfl rfl ?_
  cases hf
  exact gw_iret hC d_Machine_perform_320
def Machine_perform_b265 (N : Nat) (x1 : Int32) (x2 : Int32) (x3 : Int32) (x4 : Int32) (σ : g_S) : Option (Int32 × g_S) := (Machine_beginLook N x2 x4 x1 σ).bind fun q270 => some (x3, q270.2)
theorem Machine_perform_p265 (ao aa : Nat → Nat) {X : g_X} (hC : gC X c_Machine_perform R_Machine 5 113 5 (some .int)) (N : Nat) (x1 : Int32) (x2 : Int32) (x3 : Int32) (x4 : Int32) (σ : g_S) (r : Int32) (σe : g_S) (hf : Machine_perform_b265 N x1 x2 x3 x4 σ = some (r, σe)) : gw X (.inl (some (.int r))) (LC ao aa X.2.2.1 σe) (LC ao aa X.2.2.1 σ) [(0, .ref (ao 3)), (1, .int x1), (2, .int x2), (3, .int x3), (4, .int x4)] 265 [] := by
  unfold Machine_perform_b265 at hf
  refine gw_aload_n hC 0 d_Machine_perform_265 rfl rfl ?_
  refine gw_iload_n hC 2 d_Machine_perform_266 rfl rfl ?_
  refine gw_iload hC 4 d_Machine_perform_267 rfl ?_
  refine gw_iload_n hC 1 d_Machine_perform_269 rfl rfl ?_
  obtain ⟨q270, hq270, hf⟩ := g_bind hf
  refine gw_callV hC [.int x2, .int x4, .int x1] [] (Machine_beginLook_m _ _ _ ao aa N _ _ _ _ _ _ hq270) kc_Machine_124 3 (g_lay_obj rfl) rfl rfl ⟨by decide, by decide⟩ (Nat.le_of_ble_eq_true rfl) [.int x1, .int x4, .int x2, .ref (ao 3)] [] rfl rfl d_Machine_perform_270 ?_
  refine gw_iload_n hC 3 d_Machine_perform_273 rfl rfl ?_
  cases hf
  exact gw_iret hC d_Machine_perform_274
def Machine_perform_b275 (N : Nat) (x3 : Int32) (x4 : Int32) (σ : g_S) : Option (Int32 × g_S) := (Rows_read N 23 x4 σ).bind fun q282 => (Rows_read N 24 x4 (gF q282.2 22 q282.1)).bind fun q295 => some (x3, (gF q295.2 24 q295.1))
theorem Machine_perform_p275 (ao aa : Nat → Nat) {X : g_X} (hC : gC X c_Machine_perform R_Machine 5 113 5 (some .int)) (N : Nat) (x3 : Int32) (x4 : Int32) (σ : g_S) (r : Int32) (σe : g_S) (hf : Machine_perform_b275 N x3 x4 σ = some (r, σe)) : gw X (.inl (some (.int r))) (LC ao aa X.2.2.1 σe) (LC ao aa X.2.2.1 σ) [(0, .ref (ao 3)), (3, .int x3), (4, .int x4)] 275 [] := by
  unfold Machine_perform_b275 at hf
  refine gw_aload_n hC 0 d_Machine_perform_275 rfl rfl ?_
  refine gw_aload_n hC 0 d_Machine_perform_276 rfl rfl ?_
  refine Cr_Machine_lookChoices hC kf_Machine_33 d_Machine_perform_277 ?_
  refine gw_iload hC 2 d_Machine_perform_280 rfl ?_
  obtain ⟨q282, hq282, hf⟩ := g_bind hf
  refine gw_callS hC [.ref (aa 23), .int x4] [.ref (ao 3)] (Rows_read_m _ _ _ ao aa N _ _ _ _ _ hq282) kc_Machine_43 ⟨by decide, by decide⟩ (Nat.le_of_ble_eq_true rfl) [.int x4, .ref (aa 23), .ref (ao 3)] [.int q282.1, .ref (ao 3)] rfl rfl d_Machine_perform_282 ?_
  refine Cp22 hC kf_Machine_70 d_Machine_perform_285 ?_
  refine gw_aload_n hC 0 d_Machine_perform_288 rfl rfl ?_
  refine gw_aload_n hC 0 d_Machine_perform_289 rfl rfl ?_
  refine Cr_Machine_lookAt hC kf_Machine_36 d_Machine_perform_290 ?_
  refine gw_iload hC 2 d_Machine_perform_293 rfl ?_
  obtain ⟨q295, hq295, hf⟩ := g_bind hf
  refine gw_callS hC [.ref (aa 24), .int x4] [.ref (ao 3)] (Rows_read_m _ _ _ ao aa N _ _ _ _ _ hq295) kc_Machine_43 ⟨by decide, by decide⟩ (Nat.le_of_ble_eq_true rfl) [.int x4, .ref (aa 24), .ref (ao 3)] [.int q295.1, .ref (ao 3)] rfl rfl d_Machine_perform_295 ?_
  refine Cp24 hC kf_Machine_67 d_Machine_perform_298 ?_
  refine gw_iload_n hC 1 d_Machine_perform_301 rfl rfl ?_
  cases hf
  exact gw_iret hC d_Machine_perform_302
def Machine_perform_b303 (N : Nat) (x4 : Int32) (σ : g_S) : Option (Int32 × g_S) := (Rows_read N 23 x4 σ).bind fun q310 => some ((-2), (gF q310.2 22 q310.1))
theorem Machine_perform_p303 (ao aa : Nat → Nat) {X : g_X} (hC : gC X c_Machine_perform R_Machine 5 113 5 (some .int)) (N : Nat) (x4 : Int32) (σ : g_S) (r : Int32) (σe : g_S) (hf : Machine_perform_b303 N x4 σ = some (r, σe)) : gw X (.inl (some (.int r))) (LC ao aa X.2.2.1 σe) (LC ao aa X.2.2.1 σ) [(0, .ref (ao 3)), (4, .int x4)] 303 [] := by
  unfold Machine_perform_b303 at hf
  refine gw_aload_n hC 0 d_Machine_perform_303 rfl rfl ?_
  refine gw_aload_n hC 0 d_Machine_perform_304 rfl rfl ?_
  refine Cr_Machine_lookChoices hC kf_Machine_33 d_Machine_perform_305 ?_
  refine gw_iload hC 1 d_Machine_perform_308 rfl ?_
  obtain ⟨q310, hq310, hf⟩ := g_bind hf
  refine gw_callS hC [.ref (aa 23), .int x4] [.ref (ao 3)] (Rows_read_m _ _ _ ao aa N _ _ _ _ _ hq310) kc_Machine_43 ⟨by decide, by decide⟩ (Nat.le_of_ble_eq_true rfl) [.int x4, .ref (aa 23), .ref (ao 3)] [.int q310.1, .ref (ao 3)] rfl rfl d_Machine_perform_310 ?_
  refine Cp22 hC kf_Machine_70 d_Machine_perform_313 ?_
  refine gw_bipush hC (-2) d_Machine_perform_316 (by decide) ?_
  cases hf
  exact gw_iret hC d_Machine_perform_318
def Machine_perform_b105 (N : Nat) (x1 : Int32) (x2 : Int32) (x3 : Int32) (x4 : Int32) (σ : g_S) : Option (Int32 × g_S) := if x2 = 11 then Machine_perform_b168 N x3 x4 σ else if x2 = 12 then Machine_perform_b182 N x4 σ else if x2 = 13 then Machine_perform_b200 N x3 x4 σ else if x2 = 14 then Machine_perform_b208 N x4 σ else if x2 = 15 then Machine_perform_b215 N x3 x4 σ else if x2 = 16 then Machine_perform_b230 N x3 x4 σ else if x2 = 17 then Machine_perform_b319 N x3 σ else if x2 = 18 then Machine_perform_b319 N x3 σ else if x2 = 19 then Machine_perform_b265 N x1 x2 x3 x4 σ else if x2 = 20 then Machine_perform_b275 N x3 x4 σ else if x2 = 21 then Machine_perform_b265 N x1 x2 x3 x4 σ else if x2 = 22 then Machine_perform_b303 N x4 σ else Machine_perform_b319 N x3 σ
theorem Machine_perform_p105 (ao aa : Nat → Nat) {X : g_X} (hC : gC X c_Machine_perform R_Machine 5 113 5 (some .int)) (N : Nat) (x1 : Int32) (x2 : Int32) (x3 : Int32) (x4 : Int32) (σ : g_S) (r : Int32) (σe : g_S) (hf : Machine_perform_b105 N x1 x2 x3 x4 σ = some (r, σe)) : gw X (.inl (some (.int r))) (LC ao aa X.2.2.1 σe) (LC ao aa X.2.2.1 σ) [(0, .ref (ao 3)), (1, .int x1), (2, .int x2), (3, .int x3), (4, .int x4)] 105 [] := by
  unfold Machine_perform_b105 at hf
  refine gw_iload_n hC 2 d_Machine_perform_105 rfl rfl ?_
  by_cases hh0 : x2 = 11
  · rw [if_pos hh0] at hf
    refine gw_tableIn hC 62 168 d_Machine_perform_106 (by rw [hh0]; decide) (by rw [hh0]; decide) (by rw [hh0]; rfl) (by decide) ?_
    refine gw_lv [0, 3, 4] rfl ?_
    exact Machine_perform_p168 ao aa hC N _ _ _ _ _ hf
  · rw [if_neg hh0] at hf
    by_cases hh1 : x2 = 12
    · rw [if_pos hh1] at hf
      refine gw_tableIn hC 76 182 d_Machine_perform_106 (by rw [hh1]; decide) (by rw [hh1]; decide) (by rw [hh1]; rfl) (by decide) ?_
      refine gw_lv [0, 4] rfl ?_
      exact Machine_perform_p182 ao aa hC N _ _ _ _ hf
    · rw [if_neg hh1] at hf
      by_cases hh2 : x2 = 13
      · rw [if_pos hh2] at hf
        refine gw_tableIn hC 94 200 d_Machine_perform_106 (by rw [hh2]; decide) (by rw [hh2]; decide) (by rw [hh2]; rfl) (by decide) ?_
        refine gw_lv [0, 3, 4] rfl ?_
        exact Machine_perform_p200 ao aa hC N _ _ _ _ _ hf
      · rw [if_neg hh2] at hf
        by_cases hh3 : x2 = 14
        · rw [if_pos hh3] at hf
          refine gw_tableIn hC 102 208 d_Machine_perform_106 (by rw [hh3]; decide) (by rw [hh3]; decide) (by rw [hh3]; rfl) (by decide) ?_
          refine gw_lv [0, 4] rfl ?_
          exact Machine_perform_p208 ao aa hC N _ _ _ _ hf
        · rw [if_neg hh3] at hf
          by_cases hh4 : x2 = 15
          · rw [if_pos hh4] at hf
            refine gw_tableIn hC 109 215 d_Machine_perform_106 (by rw [hh4]; decide) (by rw [hh4]; decide) (by rw [hh4]; rfl) (by decide) ?_
            refine gw_lv [0, 3, 4] rfl ?_
            exact Machine_perform_p215 ao aa hC N _ _ _ _ _ hf
          · rw [if_neg hh4] at hf
            by_cases hh5 : x2 = 16
            · rw [if_pos hh5] at hf
              refine gw_tableIn hC 124 230 d_Machine_perform_106 (by rw [hh5]; decide) (by rw [hh5]; decide) (by rw [hh5]; rfl) (by decide) ?_
              refine gw_lv [0, 3, 4] rfl ?_
              exact Machine_perform_p230 ao aa hC N _ _ _ _ _ hf
            · rw [if_neg hh5] at hf
              by_cases hh6 : x2 = 17
              · rw [if_pos hh6] at hf
                refine gw_tableIn hC 213 319 d_Machine_perform_106 (by rw [hh6]; decide) (by rw [hh6]; decide) (by rw [hh6]; rfl) (by decide) ?_
                refine gw_lv [0, 3] rfl ?_
                exact Machine_perform_p319 ao aa hC N _ _ _ _ hf
              · rw [if_neg hh6] at hf
                by_cases hh7 : x2 = 18
                · rw [if_pos hh7] at hf
                  refine gw_tableIn hC 213 319 d_Machine_perform_106 (by rw [hh7]; decide) (by rw [hh7]; decide) (by rw [hh7]; rfl) (by decide) ?_
                  refine gw_lv [0, 3] rfl ?_
                  exact Machine_perform_p319 ao aa hC N _ _ _ _ hf
                · rw [if_neg hh7] at hf
                  by_cases hh8 : x2 = 19
                  · rw [if_pos hh8] at hf
                    refine gw_tableIn hC 159 265 d_Machine_perform_106 (by rw [hh8]; decide) (by rw [hh8]; decide) (by rw [hh8]; rfl) (by decide) ?_
                    exact Machine_perform_p265 ao aa hC N _ _ _ _ _ _ _ hf
                  · rw [if_neg hh8] at hf
                    by_cases hh9 : x2 = 20
                    · rw [if_pos hh9] at hf
                      refine gw_tableIn hC 169 275 d_Machine_perform_106 (by rw [hh9]; decide) (by rw [hh9]; decide) (by rw [hh9]; rfl) (by decide) ?_
                      refine gw_lv [0, 3, 4] rfl ?_
                      exact Machine_perform_p275 ao aa hC N _ _ _ _ _ hf
                    · rw [if_neg hh9] at hf
                      by_cases hh10 : x2 = 21
                      · rw [if_pos hh10] at hf
                        refine gw_tableIn hC 159 265 d_Machine_perform_106 (by rw [hh10]; decide) (by rw [hh10]; decide) (by rw [hh10]; rfl) (by decide) ?_
                        exact Machine_perform_p265 ao aa hC N _ _ _ _ _ _ _ hf
                      · rw [if_neg hh10] at hf
                        by_cases hh11 : x2 = 22
                        · rw [if_pos hh11] at hf
                          refine gw_tableIn hC 197 303 d_Machine_perform_106 (by rw [hh11]; decide) (by rw [hh11]; decide) (by rw [hh11]; rfl) (by decide) ?_
                          refine gw_lv [0, 4] rfl ?_
                          exact Machine_perform_p303 ao aa hC N _ _ _ _ hf
                        · rw [if_neg hh11] at hf
                          have hto : (x2).toInt < 11 ∨ 22 < (x2).toInt := by
                            refine g_tb ?_
                            intro k h1 h2 hx
                            obtain rfl | rfl | rfl | rfl | rfl | rfl | rfl | rfl | rfl | rfl | rfl | rfl : k = 11 ∨ k = 12 ∨ k = 13 ∨ k = 14 ∨ k = 15 ∨ k = 16 ∨ k = 17 ∨ k = 18 ∨ k = 19 ∨ k = 20 ∨ k = 21 ∨ k = 22 := by omega
                            · exact hh0 (g_i hx)
                            · exact hh1 (g_i hx)
                            · exact hh2 (g_i hx)
                            · exact hh3 (g_i hx)
                            · exact hh4 (g_i hx)
                            · exact hh5 (g_i hx)
                            · exact hh6 (g_i hx)
                            · exact hh7 (g_i hx)
                            · exact hh8 (g_i hx)
                            · exact hh9 (g_i hx)
                            · exact hh10 (g_i hx)
                            · exact hh11 (g_i hx)
                          refine gw_tableOut hC 319 d_Machine_perform_106 hto (by decide) ?_
                          refine gw_lv [0, 3] rfl ?_
                          exact Machine_perform_p319 ao aa hC N _ _ _ _ hf
def Machine_perform_b104 (N : Nat) (s0 : Int32) (σ : g_S) : Option (Int32 × g_S) := some (s0, σ)
theorem Machine_perform_p104 (ao aa : Nat → Nat) {X : g_X} (hC : gC X c_Machine_perform R_Machine 5 113 5 (some .int)) (N : Nat) (s0 : Int32) (σ : g_S) (r : Int32) (σe : g_S) (hf : Machine_perform_b104 N s0 σ = some (r, σe)) : gw X (.inl (some (.int r))) (LC ao aa X.2.2.1 σe) (LC ao aa X.2.2.1 σ) [(0, .ref (ao 3))] 104 [.int s0] := by
  unfold Machine_perform_b104 at hf
  cases hf
  exact gw_iret hC d_Machine_perform_104
def Machine_perform_b102 (N : Nat) (σ : g_S) : Option (Int32 × g_S) := Machine_perform_b104 N (-2) σ
theorem Machine_perform_p102 (ao aa : Nat → Nat) {X : g_X} (hC : gC X c_Machine_perform R_Machine 5 113 5 (some .int)) (N : Nat) (σ : g_S) (r : Int32) (σe : g_S) (hf : Machine_perform_b102 N σ = some (r, σe)) : gw X (.inl (some (.int r))) (LC ao aa X.2.2.1 σe) (LC ao aa X.2.2.1 σ) [(0, .ref (ao 3))] 102 [] := by
  unfold Machine_perform_b102 at hf
  refine gw_bipush hC (-2) d_Machine_perform_102 (by decide) ?_
  exact Machine_perform_p104 ao aa hC N _ _ _ _ hf
def Machine_perform_b98 (N : Nat) (x3 : Int32) (σ : g_S) : Option (Int32 × g_S) := Machine_perform_b104 N x3 σ
theorem Machine_perform_p98 (ao aa : Nat → Nat) {X : g_X} (hC : gC X c_Machine_perform R_Machine 5 113 5 (some .int)) (N : Nat) (x3 : Int32) (σ : g_S) (r : Int32) (σe : g_S) (hf : Machine_perform_b98 N x3 σ = some (r, σe)) : gw X (.inl (some (.int r))) (LC ao aa X.2.2.1 σe) (LC ao aa X.2.2.1 σ) [(0, .ref (ao 3)), (3, .int x3)] 98 [] := by
  unfold Machine_perform_b98 at hf
  refine gw_iload_n hC 1 d_Machine_perform_98 rfl rfl ?_
  refine gw_goto hC 104 d_Machine_perform_99 (by decide) ?_
  refine gw_lv [0] rfl ?_
  exact Machine_perform_p104 ao aa hC N _ _ _ _ hf
def Machine_perform_b88 (N : Nat) (x2 : Int32) (x3 : Int32) (x4 : Int32) (σ : g_S) : Option (Int32 × g_S) := (Machine_passes N x2 x4 σ).bind fun q92 => if q92.1 = 0 then Machine_perform_b102 N q92.2 else Machine_perform_b98 N x3 q92.2
theorem Machine_perform_p88 (ao aa : Nat → Nat) {X : g_X} (hC : gC X c_Machine_perform R_Machine 5 113 5 (some .int)) (N : Nat) (x2 : Int32) (x3 : Int32) (x4 : Int32) (σ : g_S) (r : Int32) (σe : g_S) (hf : Machine_perform_b88 N x2 x3 x4 σ = some (r, σe)) : gw X (.inl (some (.int r))) (LC ao aa X.2.2.1 σe) (LC ao aa X.2.2.1 σ) [(0, .ref (ao 3)), (2, .int x2), (3, .int x3), (4, .int x4)] 88 [] := by
  unfold Machine_perform_b88 at hf
  refine gw_aload_n hC 0 d_Machine_perform_88 rfl rfl ?_
  refine gw_iload_n hC 1 d_Machine_perform_89 rfl rfl ?_
  refine gw_iload hC 3 d_Machine_perform_90 rfl ?_
  obtain ⟨q92, hq92, hf⟩ := g_bind hf
  refine gw_callV hC [.int x2, .int x4] [] (Machine_passes_m _ _ _ ao aa N _ _ _ _ _ hq92) kc_Machine_102 3 (g_lay_obj rfl) rfl rfl ⟨by decide, by decide⟩ (Nat.le_of_ble_eq_true rfl) [.int x4, .int x2, .ref (ao 3)] [.int q92.1] rfl rfl d_Machine_perform_92 ?_
  refine gw_if_eq hC 102 d_Machine_perform_95 (by decide) (fun hh => ?_) (fun hh => ?_)
  · rw [if_pos hh] at hf
    refine gw_lv [0] rfl ?_
    exact Machine_perform_p102 ao aa hC N _ _ _ hf
  · rw [if_neg hh] at hf
    refine gw_lv [0, 2] rfl ?_
    exact Machine_perform_p98 ao aa hC N _ _ _ _ hf
def Machine_perform_b82 (N : Nat) (x1 : Int32) (x2 : Int32) (x3 : Int32) (x4 : Int32) (σ : g_S) : Option (Int32 × g_S) := if 10 < x2 then Machine_perform_b105 N x1 x2 x3 x4 σ else Machine_perform_b88 N x2 x3 x4 σ
theorem Machine_perform_p82 (ao aa : Nat → Nat) {X : g_X} (hC : gC X c_Machine_perform R_Machine 5 113 5 (some .int)) (N : Nat) (x1 : Int32) (x2 : Int32) (x3 : Int32) (x4 : Int32) (σ : g_S) (r : Int32) (σe : g_S) (hf : Machine_perform_b82 N x1 x2 x3 x4 σ = some (r, σe)) : gw X (.inl (some (.int r))) (LC ao aa X.2.2.1 σe) (LC ao aa X.2.2.1 σ) [(0, .ref (ao 3)), (1, .int x1), (2, .int x2), (3, .int x3), (4, .int x4)] 82 [] := by
  unfold Machine_perform_b82 at hf
  refine gw_iload_n hC 2 d_Machine_perform_82 rfl rfl ?_
  refine gw_bipush hC 10 d_Machine_perform_83 (by decide) ?_
  refine gw_icmp_gt hC 105 d_Machine_perform_85 (by decide) (fun hh => ?_) (fun hh => ?_)
  · rw [if_pos hh] at hf
    exact Machine_perform_p105 ao aa hC N _ _ _ _ _ _ _ hf
  · rw [if_neg hh] at hf
    refine gw_lv [0, 2, 3, 4] rfl ?_
    exact Machine_perform_p88 ao aa hC N _ _ _ _ _ _ hf
def Machine_perform_b81 (N : Nat) (s0 : Int32) (σ : g_S) : Option (Int32 × g_S) := some (s0, σ)
theorem Machine_perform_p81 (ao aa : Nat → Nat) {X : g_X} (hC : gC X c_Machine_perform R_Machine 5 113 5 (some .int)) (N : Nat) (s0 : Int32) (σ : g_S) (r : Int32) (σe : g_S) (hf : Machine_perform_b81 N s0 σ = some (r, σe)) : gw X (.inl (some (.int r))) (LC ao aa X.2.2.1 σe) (LC ao aa X.2.2.1 σ) [(0, .ref (ao 3))] 81 [.int s0] := by
  unfold Machine_perform_b81 at hf
  cases hf
  exact gw_iret hC d_Machine_perform_81
def Machine_perform_b79 (N : Nat) (σ : g_S) : Option (Int32 × g_S) := Machine_perform_b81 N (-2) σ
theorem Machine_perform_p79 (ao aa : Nat → Nat) {X : g_X} (hC : gC X c_Machine_perform R_Machine 5 113 5 (some .int)) (N : Nat) (σ : g_S) (r : Int32) (σe : g_S) (hf : Machine_perform_b79 N σ = some (r, σe)) : gw X (.inl (some (.int r))) (LC ao aa X.2.2.1 σe) (LC ao aa X.2.2.1 σ) [(0, .ref (ao 3))] 79 [] := by
  unfold Machine_perform_b79 at hf
  refine gw_bipush hC (-2) d_Machine_perform_79 (by decide) ?_
  exact Machine_perform_p81 ao aa hC N _ _ _ _ hf
def Machine_perform_b75 (N : Nat) (x3 : Int32) (σ : g_S) : Option (Int32 × g_S) := Machine_perform_b81 N x3 σ
theorem Machine_perform_p75 (ao aa : Nat → Nat) {X : g_X} (hC : gC X c_Machine_perform R_Machine 5 113 5 (some .int)) (N : Nat) (x3 : Int32) (σ : g_S) (r : Int32) (σe : g_S) (hf : Machine_perform_b75 N x3 σ = some (r, σe)) : gw X (.inl (some (.int r))) (LC ao aa X.2.2.1 σe) (LC ao aa X.2.2.1 σ) [(0, .ref (ao 3)), (3, .int x3)] 75 [] := by
  unfold Machine_perform_b75 at hf
  refine gw_iload_n hC 1 d_Machine_perform_75 rfl rfl ?_
  refine gw_goto hC 81 d_Machine_perform_76 (by decide) ?_
  refine gw_lv [0] rfl ?_
  exact Machine_perform_p81 ao aa hC N _ _ _ _ hf
def Machine_perform_b64 (N : Nat) (x1 : Int32) (x2 : Int32) (x3 : Int32) (x4 : Int32) (σ : g_S) : Option (Int32 × g_S) := (Machine_takesUnit N x2 x4 x1 σ).bind fun q69 => if q69.1 = 0 then Machine_perform_b79 N q69.2 else Machine_perform_b75 N x3 q69.2
theorem Machine_perform_p64 (ao aa : Nat → Nat) {X : g_X} (hC : gC X c_Machine_perform R_Machine 5 113 5 (some .int)) (N : Nat) (x1 : Int32) (x2 : Int32) (x3 : Int32) (x4 : Int32) (σ : g_S) (r : Int32) (σe : g_S) (hf : Machine_perform_b64 N x1 x2 x3 x4 σ = some (r, σe)) : gw X (.inl (some (.int r))) (LC ao aa X.2.2.1 σe) (LC ao aa X.2.2.1 σ) [(0, .ref (ao 3)), (1, .int x1), (2, .int x2), (3, .int x3), (4, .int x4)] 64 [] := by
  unfold Machine_perform_b64 at hf
  refine gw_aload_n hC 0 d_Machine_perform_64 rfl rfl ?_
  refine gw_iload_n hC 2 d_Machine_perform_65 rfl rfl ?_
  refine gw_iload hC 4 d_Machine_perform_66 rfl ?_
  refine gw_iload_n hC 1 d_Machine_perform_68 rfl rfl ?_
  obtain ⟨q69, hq69, hf⟩ := g_bind hf
  refine gw_callV hC [.int x2, .int x4, .int x1] [] (Machine_takesUnit_m _ _ _ ao aa N _ _ _ _ _ _ hq69) kc_Machine_98 3 (g_lay_obj rfl) rfl rfl ⟨by decide, by decide⟩ (Nat.le_of_ble_eq_true rfl) [.int x1, .int x4, .int x2, .ref (ao 3)] [.int q69.1] rfl rfl d_Machine_perform_69 ?_
  refine gw_if_eq hC 79 d_Machine_perform_72 (by decide) (fun hh => ?_) (fun hh => ?_)
  · rw [if_pos hh] at hf
    refine gw_lv [0] rfl ?_
    exact Machine_perform_p79 ao aa hC N _ _ _ hf
  · rw [if_neg hh] at hf
    refine gw_lv [0, 3] rfl ?_
    exact Machine_perform_p75 ao aa hC N _ _ _ _ hf
def Machine_perform_b59 (N : Nat) (x1 : Int32) (x2 : Int32) (x3 : Int32) (x4 : Int32) (σ : g_S) : Option (Int32 × g_S) := if 5 < x2 then Machine_perform_b82 N x1 x2 x3 x4 σ else Machine_perform_b64 N x1 x2 x3 x4 σ
theorem Machine_perform_p59 (ao aa : Nat → Nat) {X : g_X} (hC : gC X c_Machine_perform R_Machine 5 113 5 (some .int)) (N : Nat) (x1 : Int32) (x2 : Int32) (x3 : Int32) (x4 : Int32) (σ : g_S) (r : Int32) (σe : g_S) (hf : Machine_perform_b59 N x1 x2 x3 x4 σ = some (r, σe)) : gw X (.inl (some (.int r))) (LC ao aa X.2.2.1 σe) (LC ao aa X.2.2.1 σ) [(0, .ref (ao 3)), (1, .int x1), (2, .int x2), (3, .int x3), (4, .int x4)] 59 [] := by
  unfold Machine_perform_b59 at hf
  refine gw_iload_n hC 2 d_Machine_perform_59 rfl rfl ?_
  refine gw_iconst hC 5 d_Machine_perform_60 (by decide) ?_
  refine gw_icmp_gt hC 82 d_Machine_perform_61 (by decide) (fun hh => ?_) (fun hh => ?_)
  · rw [if_pos hh] at hf
    exact Machine_perform_p82 ao aa hC N _ _ _ _ _ _ _ hf
  · rw [if_neg hh] at hf
    exact Machine_perform_p64 ao aa hC N _ _ _ _ _ _ _ hf
def Machine_perform_b56 (N : Nat) (σ : g_S) : Option (Int32 × g_S) := some ((-3), σ)
theorem Machine_perform_p56 (ao aa : Nat → Nat) {X : g_X} (hC : gC X c_Machine_perform R_Machine 5 113 5 (some .int)) (N : Nat) (σ : g_S) (r : Int32) (σe : g_S) (hf : Machine_perform_b56 N σ = some (r, σe)) : gw X (.inl (some (.int r))) (LC ao aa X.2.2.1 σe) (LC ao aa X.2.2.1 σ) [(0, .ref (ao 3))] 56 [] := by
  unfold Machine_perform_b56 at hf
  refine gw_bipush hC (-3) d_Machine_perform_56 (by decide) ?_
  cases hf
  exact gw_iret hC d_Machine_perform_58
def Machine_perform_b49 (N : Nat) (x1 : Int32) (x2 : Int32) (x3 : Int32) (x4 : Int32) (σ : g_S) : Option (Int32 × g_S) := (Machine_takesStep N σ).bind fun q50 => if q50.1 = 0 then Machine_perform_b56 N q50.2 else Machine_perform_b59 N x1 x2 x3 x4 q50.2
theorem Machine_perform_p49 (ao aa : Nat → Nat) {X : g_X} (hC : gC X c_Machine_perform R_Machine 5 113 5 (some .int)) (N : Nat) (x1 : Int32) (x2 : Int32) (x3 : Int32) (x4 : Int32) (σ : g_S) (r : Int32) (σe : g_S) (hf : Machine_perform_b49 N x1 x2 x3 x4 σ = some (r, σe)) : gw X (.inl (some (.int r))) (LC ao aa X.2.2.1 σe) (LC ao aa X.2.2.1 σ) [(0, .ref (ao 3)), (1, .int x1), (2, .int x2), (3, .int x3), (4, .int x4)] 49 [] := by
  unfold Machine_perform_b49 at hf
  refine gw_aload_n hC 0 d_Machine_perform_49 rfl rfl ?_
  obtain ⟨q50, hq50, hf⟩ := g_bind hf
  refine gw_callV hC [] [] (Machine_takesStep_m _ _ _ ao aa N _ _ _ hq50) kc_Machine_94 3 (g_lay_obj rfl) rfl rfl ⟨by decide, by decide⟩ (Nat.le_of_ble_eq_true rfl) [.ref (ao 3)] [.int q50.1] rfl rfl d_Machine_perform_50 ?_
  refine gw_if_ne hC 59 d_Machine_perform_53 (by decide) (fun hh => ?_) (fun hh => ?_)
  · rw [if_neg hh] at hf
    exact Machine_perform_p59 ao aa hC N _ _ _ _ _ _ _ hf
  · rw [if_pos hh] at hf
    refine gw_lv [0] rfl ?_
    exact Machine_perform_p56 ao aa hC N _ _ _ hf
def Machine_perform_b43 (N : Nat) (x1 : Int32) (x2 : Int32) (x3 : Int32) (x4 : Int32) (σ : g_S) : Option (Int32 × g_S) := if 12 < x2 then Machine_perform_b59 N x1 x2 x3 x4 σ else Machine_perform_b49 N x1 x2 x3 x4 σ
theorem Machine_perform_p43 (ao aa : Nat → Nat) {X : g_X} (hC : gC X c_Machine_perform R_Machine 5 113 5 (some .int)) (N : Nat) (x1 : Int32) (x2 : Int32) (x3 : Int32) (x4 : Int32) (σ : g_S) (r : Int32) (σe : g_S) (hf : Machine_perform_b43 N x1 x2 x3 x4 σ = some (r, σe)) : gw X (.inl (some (.int r))) (LC ao aa X.2.2.1 σe) (LC ao aa X.2.2.1 σ) [(0, .ref (ao 3)), (1, .int x1), (2, .int x2), (3, .int x3), (4, .int x4)] 43 [] := by
  unfold Machine_perform_b43 at hf
  refine gw_iload_n hC 2 d_Machine_perform_43 rfl rfl ?_
  refine gw_bipush hC 12 d_Machine_perform_44 (by decide) ?_
  refine gw_icmp_gt hC 59 d_Machine_perform_46 (by decide) (fun hh => ?_) (fun hh => ?_)
  · rw [if_pos hh] at hf
    exact Machine_perform_p59 ao aa hC N _ _ _ _ _ _ _ hf
  · rw [if_neg hh] at hf
    exact Machine_perform_p49 ao aa hC N _ _ _ _ _ _ _ hf
def Machine_perform_b41 (N : Nat) (σ : g_S) : Option (Int32 × g_S) := some ((-1), σ)
theorem Machine_perform_p41 (ao aa : Nat → Nat) {X : g_X} (hC : gC X c_Machine_perform R_Machine 5 113 5 (some .int)) (N : Nat) (σ : g_S) (r : Int32) (σe : g_S) (hf : Machine_perform_b41 N σ = some (r, σe)) : gw X (.inl (some (.int r))) (LC ao aa X.2.2.1 σe) (LC ao aa X.2.2.1 σ) [(0, .ref (ao 3))] 41 [] := by
  unfold Machine_perform_b41 at hf
  refine gw_iconst hC (-1) d_Machine_perform_41 (by decide) ?_
  cases hf
  exact gw_iret hC d_Machine_perform_42
def Machine_perform_b0 (N : Nat) (x1 : Int32) (σ : g_S) : Option (Int32 × g_S) := (Rows_read N 1 x1 σ).bind fun q8 => (Rows_read N 2 x1 q8.2).bind fun q20 => (Rows_read N 3 x1 q20.2).bind fun q32 => if q8.1 = 0 then Machine_perform_b41 N q32.2 else Machine_perform_b43 N x1 q8.1 q20.1 q32.1 q32.2
theorem Machine_perform_p0 (ao aa : Nat → Nat) {X : g_X} (hC : gC X c_Machine_perform R_Machine 5 113 5 (some .int)) (N : Nat) (x1 : Int32) (σ : g_S) (r : Int32) (σe : g_S) (hf : Machine_perform_b0 N x1 σ = some (r, σe)) : gw X (.inl (some (.int r))) (LC ao aa X.2.2.1 σe) (LC ao aa X.2.2.1 σ) [(0, .ref (ao 3)), (1, .int x1)] 0 [] := by
  unfold Machine_perform_b0 at hf
  refine gw_aload_n hC 0 d_Machine_perform_0 rfl rfl ?_
  refine Cr_Machine_program hC kf_Machine_39 d_Machine_perform_1 ?_
  refine Cr_Program_kind hC kf_Machine_85 d_Machine_perform_4 ?_
  refine gw_iload_n hC 1 d_Machine_perform_7 rfl rfl ?_
  obtain ⟨q8, hq8, hf⟩ := g_bind hf
  refine gw_callS hC [.ref (aa 1), .int x1] [] (Rows_read_m _ _ _ ao aa N _ _ _ _ _ hq8) kc_Machine_43 ⟨by decide, by decide⟩ (Nat.le_of_ble_eq_true rfl) [.int x1, .ref (aa 1)] [.int q8.1] rfl rfl d_Machine_perform_8 ?_
  refine gw_istore_n hC [(2, .int q8.1), (0, .ref (ao 3)), (1, .int x1)] d_Machine_perform_11 rfl (by decide) rfl ?_
  refine gw_aload_n hC 1 d_Machine_perform_12 rfl rfl ?_
  refine Cr_Machine_program hC kf_Machine_39 d_Machine_perform_13 ?_
  refine Cr_Program_next hC kf_Machine_88 d_Machine_perform_16 ?_
  refine gw_iload_n hC 2 d_Machine_perform_19 rfl rfl ?_
  obtain ⟨q20, hq20, hf⟩ := g_bind hf
  refine gw_callS hC [.ref (aa 2), .int x1] [] (Rows_read_m _ _ _ ao aa N _ _ _ _ _ hq20) kc_Machine_43 ⟨by decide, by decide⟩ (Nat.le_of_ble_eq_true rfl) [.int x1, .ref (aa 2)] [.int q20.1] rfl rfl d_Machine_perform_20 ?_
  refine gw_istore_n hC [(3, .int q20.1), (2, .int q8.1), (0, .ref (ao 3)), (1, .int x1)] d_Machine_perform_23 rfl (by decide) rfl ?_
  refine gw_aload_n hC 2 d_Machine_perform_24 rfl rfl ?_
  refine Cr_Machine_program hC kf_Machine_39 d_Machine_perform_25 ?_
  refine Cr_Program_first hC kf_Machine_91 d_Machine_perform_28 ?_
  refine gw_iload_n hC 3 d_Machine_perform_31 rfl rfl ?_
  obtain ⟨q32, hq32, hf⟩ := g_bind hf
  refine gw_callS hC [.ref (aa 3), .int x1] [] (Rows_read_m _ _ _ ao aa N _ _ _ _ _ hq32) kc_Machine_43 ⟨by decide, by decide⟩ (Nat.le_of_ble_eq_true rfl) [.int x1, .ref (aa 3)] [.int q32.1] rfl rfl d_Machine_perform_32 ?_
  refine gw_istore hC [(4, .int q32.1), (3, .int q20.1), (2, .int q8.1), (0, .ref (ao 3)), (1, .int x1)] d_Machine_perform_35 (by decide) rfl ?_
  refine gw_iload_n hC 2 d_Machine_perform_37 rfl rfl ?_
  refine gw_if_ne hC 43 d_Machine_perform_38 (by decide) (fun hh => ?_) (fun hh => ?_)
  · rw [if_neg hh] at hf
    refine gw_lv [3, 4, 2, 1, 0] rfl ?_
    exact Machine_perform_p43 ao aa hC N _ _ _ _ _ _ _ hf
  · rw [if_pos hh] at hf
    refine gw_lv [3] rfl ?_
    exact Machine_perform_p41 ao aa hC N _ _ _ hf
def Machine_perform (N : Nat) (x1 : Int32) (σ : g_S) : Option (Int32 × g_S) := Machine_perform_b0 N x1 σ
theorem Machine_perform_m (l : Launch) (D : va_G) (cA : ClassId) (ao aa : Nat → Nat) (N : Nat) (x1 : Int32) (σ : g_S) (r : Int32) (σe : g_S) (hf : Machine_perform N x1 σ = some (r, σe)) : Mt l D cA y_Machine_perform c_Machine_perform 5 (some .int) 5 113 [.ref (ao 3), .int x1] (LC ao aa cA σ) (some (.int r)) (LC ao aa cA σe) := by
  refine g_met (by decide +kernel) (by simp [lg_sl, Value.category]) (fun X e1 e2 e3 hC => ?_)
  subst e1 e2 e3
  refine gw_lv [0, 1] rfl ?_
  exact Machine_perform_p0 ao aa hC N _ _ (r) _ hf
