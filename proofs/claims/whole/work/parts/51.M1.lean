theorem kf_Mod_62 : Cond.fieldLink R_Mod 62 "PatternDeskModel" "alternative" "[I" ∈ g_TB := g_mem (List.mem_append_right _ (List.mem_append_right _ (List.mem_append_right _ (List.mem_append_left _ (List.mem_of_getElem? (i := 226) (by decide +kernel)))))) rfl
theorem kf_Mod_144 : Cond.fieldLink R_Mod 144 "PatternDeskModel" "depth" "I" ∈ g_TB := g_mem (List.mem_append_right _ (List.mem_append_right _ (List.mem_append_right _ (List.mem_append_left _ (List.mem_of_getElem? (i := 223) (by decide +kernel)))))) rfl
theorem kc_Mod_147 : g_okV R_Mod 147 y_Mod_node c_Mod_node 5 (some .int) 4 := ⟨g_mem (List.mem_append_right _ (List.mem_append_right _ (List.mem_append_right _ (List.mem_append_right _ (List.mem_append_left _ (List.mem_of_getElem? (i := 127) rfl)))))) rfl, g_mem (List.mem_append_right _ (List.mem_append_left _ (List.mem_of_getElem? (i := 5) (by decide +kernel)))) rfl, g_mem (List.mem_append_right _ (List.mem_append_right _ (List.mem_append_right _ (List.mem_append_right _ (List.mem_append_left _ (List.mem_of_getElem? (i := 124) (by decide +kernel))))))) rfl, g_mem (List.mem_append_right _ (List.mem_append_right _ (List.mem_append_right _ (List.mem_append_right _ (List.mem_append_left _ (List.mem_of_getElem? (i := 126) (by decide +kernel))))))) rfl, g_mem (List.mem_append_left _ (List.mem_of_getElem? (i := 47) (by decide +kernel))) rfl, by decide +kernel, by decide +kernel, by decide +kernel⟩
theorem kf_Mod_59 : Cond.fieldLink R_Mod 59 "PatternDeskModel" "choice" "[I" ∈ g_TB := g_mem (List.mem_append_right _ (List.mem_append_right _ (List.mem_append_right _ (List.mem_append_left _ (List.mem_of_getElem? (i := 225) (by decide +kernel)))))) rfl
theorem kc_Mod_151 : g_okV R_Mod 151 y_Mod_add c_Mod_add 3 none 2 := ⟨g_mem (List.mem_append_right _ (List.mem_append_right _ (List.mem_append_right _ (List.mem_append_right _ (List.mem_append_left _ (List.mem_of_getElem? (i := 131) rfl)))))) rfl, g_mem (List.mem_append_right _ (List.mem_append_left _ (List.mem_of_getElem? (i := 5) (by decide +kernel)))) rfl, g_mem (List.mem_append_right _ (List.mem_append_right _ (List.mem_append_right _ (List.mem_append_right _ (List.mem_append_left _ (List.mem_of_getElem? (i := 128) (by decide +kernel))))))) rfl, g_mem (List.mem_append_right _ (List.mem_append_right _ (List.mem_append_right _ (List.mem_append_right _ (List.mem_append_left _ (List.mem_of_getElem? (i := 130) (by decide +kernel))))))) rfl, g_mem (List.mem_append_left _ (List.mem_of_getElem? (i := 48) (by decide +kernel))) rfl, by decide +kernel, by decide +kernel, by decide +kernel⟩
theorem kc_Mod_155 : g_okV R_Mod 155 y_Mod_newAlternative c_Mod_newAlternative 1 none 0 := ⟨g_mem (List.mem_append_right _ (List.mem_append_right _ (List.mem_append_right _ (List.mem_append_right _ (List.mem_append_left _ (List.mem_of_getElem? (i := 135) rfl)))))) rfl, g_mem (List.mem_append_right _ (List.mem_append_left _ (List.mem_of_getElem? (i := 5) (by decide +kernel)))) rfl, g_mem (List.mem_append_right _ (List.mem_append_right _ (List.mem_append_right _ (List.mem_append_right _ (List.mem_append_left _ (List.mem_of_getElem? (i := 132) (by decide +kernel))))))) rfl, g_mem (List.mem_append_right _ (List.mem_append_right _ (List.mem_append_right _ (List.mem_append_right _ (List.mem_append_left _ (List.mem_of_getElem? (i := 134) (by decide +kernel))))))) rfl, g_mem (List.mem_append_left _ (List.mem_of_getElem? (i := 49) (by decide +kernel))) rfl, by decide +kernel, by decide +kernel, by decide +kernel⟩
theorem kf_Mod_56 : Cond.fieldLink R_Mod 56 "PatternDeskModel" "open" "[I" ∈ g_TB := g_mem (List.mem_append_right _ (List.mem_append_right _ (List.mem_append_right _ (List.mem_append_left _ (List.mem_of_getElem? (i := 224) (by decide +kernel)))))) rfl
theorem kc_Mod_165 : g_okV R_Mod 165 y_Mod_fail c_Mod_fail 2 none 1 := ⟨g_mem (List.mem_append_right _ (List.mem_append_right _ (List.mem_append_right _ (List.mem_append_right _ (List.mem_append_left _ (List.mem_of_getElem? (i := 151) rfl)))))) rfl, g_mem (List.mem_append_right _ (List.mem_append_left _ (List.mem_of_getElem? (i := 5) (by decide +kernel)))) rfl, g_mem (List.mem_append_right _ (List.mem_append_right _ (List.mem_append_right _ (List.mem_append_right _ (List.mem_append_left _ (List.mem_of_getElem? (i := 148) (by decide +kernel))))))) rfl, g_mem (List.mem_append_right _ (List.mem_append_right _ (List.mem_append_right _ (List.mem_append_right _ (List.mem_append_left _ (List.mem_of_getElem? (i := 150) (by decide +kernel))))))) rfl, g_mem (List.mem_append_left _ (List.mem_of_getElem? (i := 53) (by decide +kernel))) rfl, by decide +kernel, by decide +kernel, by decide +kernel⟩
theorem kc_Mod_158 : g_okV R_Mod 158 y_Mod_see c_Mod_see 2 (some .int) 1 := ⟨g_mem (List.mem_append_right _ (List.mem_append_right _ (List.mem_append_right _ (List.mem_append_right _ (List.mem_append_left _ (List.mem_of_getElem? (i := 143) rfl)))))) rfl, g_mem (List.mem_append_right _ (List.mem_append_left _ (List.mem_of_getElem? (i := 5) (by decide +kernel)))) rfl, g_mem (List.mem_append_right _ (List.mem_append_right _ (List.mem_append_right _ (List.mem_append_right _ (List.mem_append_left _ (List.mem_of_getElem? (i := 140) (by decide +kernel))))))) rfl, g_mem (List.mem_append_right _ (List.mem_append_right _ (List.mem_append_right _ (List.mem_append_right _ (List.mem_append_left _ (List.mem_of_getElem? (i := 142) (by decide +kernel))))))) rfl, g_mem (List.mem_append_left _ (List.mem_of_getElem? (i := 51) (by decide +kernel))) rfl, by decide +kernel, by decide +kernel, by decide +kernel⟩
theorem kc_Mod_162 : g_okS R_Mod 162 y_Mod_sixteen c_Mod_sixteen 1 (some .int) 1 := ⟨g_mem (List.mem_append_right _ (List.mem_append_right _ (List.mem_append_right _ (List.mem_append_right _ (List.mem_append_left _ (List.mem_of_getElem? (i := 190) rfl)))))) rfl, g_mem (List.mem_append_right _ (List.mem_append_left _ (List.mem_of_getElem? (i := 5) (by decide +kernel)))) rfl, g_mem (List.mem_append_right _ (List.mem_append_right _ (List.mem_append_right _ (List.mem_append_right _ (List.mem_append_left _ (List.mem_of_getElem? (i := 188) (by decide +kernel))))))) rfl, g_mem (List.mem_append_right _ (List.mem_append_right _ (List.mem_append_right _ (List.mem_append_right _ (List.mem_append_left _ (List.mem_of_getElem? (i := 189) (by decide +kernel))))))) rfl, by decide +kernel, by decide +kernel, by decide +kernel⟩
theorem kc_Mod_172 : g_okV R_Mod 172 y_Mod_digits c_Mod_digits 6 (some .int) 2 := ⟨g_mem (List.mem_append_right _ (List.mem_append_right _ (List.mem_append_right _ (List.mem_append_right _ (List.mem_append_left _ (List.mem_of_getElem? (i := 187) rfl)))))) rfl, g_mem (List.mem_append_right _ (List.mem_append_left _ (List.mem_of_getElem? (i := 5) (by decide +kernel)))) rfl, g_mem (List.mem_append_right _ (List.mem_append_right _ (List.mem_append_right _ (List.mem_append_right _ (List.mem_append_left _ (List.mem_of_getElem? (i := 184) (by decide +kernel))))))) rfl, g_mem (List.mem_append_right _ (List.mem_append_right _ (List.mem_append_right _ (List.mem_append_right _ (List.mem_append_left _ (List.mem_of_getElem? (i := 186) (by decide +kernel))))))) rfl, g_mem (List.mem_append_left _ (List.mem_of_getElem? (i := 61) (by decide +kernel))) rfl, by decide +kernel, by decide +kernel, by decide +kernel⟩
theorem kf_Mod_169 : Cond.fieldLink R_Mod 169 "PatternDeskModel" "escaped" "I" ∈ g_TB := g_mem (List.mem_append_right _ (List.mem_append_right _ (List.mem_append_right _ (List.mem_append_left _ (List.mem_of_getElem? (i := 222) (by decide +kernel)))))) rfl
theorem kc_Mod_176 : g_okS R_Mod 176 y_Mod_isNamed c_Mod_isNamed 1 (some .boolean) 1 := ⟨g_mem (List.mem_append_right _ (List.mem_append_right _ (List.mem_append_right _ (List.mem_append_right _ (List.mem_append_left _ (List.mem_of_getElem? (i := 196) rfl)))))) rfl, g_mem (List.mem_append_right _ (List.mem_append_left _ (List.mem_of_getElem? (i := 5) (by decide +kernel)))) rfl, g_mem (List.mem_append_right _ (List.mem_append_right _ (List.mem_append_right _ (List.mem_append_right _ (List.mem_append_left _ (List.mem_of_getElem? (i := 194) (by decide +kernel))))))) rfl, g_mem (List.mem_append_right _ (List.mem_append_right _ (List.mem_append_right _ (List.mem_append_right _ (List.mem_append_left _ (List.mem_of_getElem? (i := 195) (by decide +kernel))))))) rfl, by decide +kernel, by decide +kernel, by decide +kernel⟩
theorem kc_Mod_179 : g_okV R_Mod 179 y_Mod_escape c_Mod_escape 4 (some .int) 1 := ⟨g_mem (List.mem_append_right _ (List.mem_append_right _ (List.mem_append_right _ (List.mem_append_right _ (List.mem_append_left _ (List.mem_of_getElem? (i := 183) rfl)))))) rfl, g_mem (List.mem_append_right _ (List.mem_append_left _ (List.mem_of_getElem? (i := 5) (by decide +kernel)))) rfl, g_mem (List.mem_append_right _ (List.mem_append_right _ (List.mem_append_right _ (List.mem_append_right _ (List.mem_append_left _ (List.mem_of_getElem? (i := 180) (by decide +kernel))))))) rfl, g_mem (List.mem_append_right _ (List.mem_append_right _ (List.mem_append_right _ (List.mem_append_right _ (List.mem_append_left _ (List.mem_of_getElem? (i := 182) (by decide +kernel))))))) rfl, g_mem (List.mem_append_left _ (List.mem_of_getElem? (i := 60) (by decide +kernel))) rfl, by decide +kernel, by decide +kernel, by decide +kernel⟩
theorem d_Mod_add_0 : decode c_Mod_add 0 = .ok (.aload_n 0, 1) := by decide +kernel
theorem d_Mod_add_1 : decode c_Mod_add 1 = .ok (.getfield 35, 3) := by decide +kernel
theorem d_Mod_add_4 : decode c_Mod_add 4 = .ok (.iload_n 1, 1) := by decide +kernel
theorem d_Mod_add_5 : decode c_Mod_add 5 = .ok (.iaload, 1) := by decide +kernel
theorem d_Mod_add_6 : decode c_Mod_add 6 = .ok (.ifCond .ge 13, 3) := by decide +kernel
theorem d_Mod_add_9 : decode c_Mod_add 9 = .ok (.aload_n 0, 1) := by decide +kernel
theorem d_Mod_add_10 : decode c_Mod_add 10 = .ok (.getfield 35, 3) := by decide +kernel
theorem d_Mod_add_13 : decode c_Mod_add 13 = .ok (.iload_n 1, 1) := by decide +kernel
theorem d_Mod_add_14 : decode c_Mod_add 14 = .ok (.iload_n 2, 1) := by decide +kernel
theorem d_Mod_add_15 : decode c_Mod_add 15 = .ok (.iastore, 1) := by decide +kernel
theorem d_Mod_add_16 : decode c_Mod_add 16 = .ok (.goto 15, 3) := by decide +kernel
theorem d_Mod_add_19 : decode c_Mod_add 19 = .ok (.aload_n 0, 1) := by decide +kernel
theorem d_Mod_add_20 : decode c_Mod_add 20 = .ok (.getfield 41, 3) := by decide +kernel
theorem d_Mod_add_23 : decode c_Mod_add 23 = .ok (.aload_n 0, 1) := by decide +kernel
theorem d_Mod_add_24 : decode c_Mod_add 24 = .ok (.getfield 38, 3) := by decide +kernel
theorem d_Mod_add_27 : decode c_Mod_add 27 = .ok (.iload_n 1, 1) := by decide +kernel
theorem d_Mod_add_28 : decode c_Mod_add 28 = .ok (.iaload, 1) := by decide +kernel
theorem d_Mod_add_29 : decode c_Mod_add 29 = .ok (.iload_n 2, 1) := by decide +kernel
theorem d_Mod_add_30 : decode c_Mod_add 30 = .ok (.iastore, 1) := by decide +kernel
theorem d_Mod_add_31 : decode c_Mod_add 31 = .ok (.aload_n 0, 1) := by decide +kernel
theorem d_Mod_add_32 : decode c_Mod_add 32 = .ok (.getfield 38, 3) := by decide +kernel
theorem d_Mod_add_35 : decode c_Mod_add 35 = .ok (.iload_n 1, 1) := by decide +kernel
theorem d_Mod_add_36 : decode c_Mod_add 36 = .ok (.iload_n 2, 1) := by decide +kernel
theorem d_Mod_add_37 : decode c_Mod_add 37 = .ok (.iastore, 1) := by decide +kernel
theorem d_Mod_add_38 : decode c_Mod_add 38 = .ok (.return_, 1) := by decide +kernel
theorem d_Mod_newAlternative_0 : decode c_Mod_newAlternative 0 = .ok (.aload_n 0, 1) := by decide +kernel
theorem d_Mod_newAlternative_1 : decode c_Mod_newAlternative 1 = .ok (.getfield 62, 3) := by decide +kernel
theorem d_Mod_newAlternative_4 : decode c_Mod_newAlternative 4 = .ok (.aload_n 0, 1) := by decide +kernel
theorem d_Mod_newAlternative_5 : decode c_Mod_newAlternative 5 = .ok (.getfield 144, 3) := by decide +kernel
theorem d_Mod_newAlternative_8 : decode c_Mod_newAlternative 8 = .ok (.aload_n 0, 1) := by decide +kernel
theorem d_Mod_newAlternative_9 : decode c_Mod_newAlternative 9 = .ok (.iconst 2, 1) := by decide +kernel
theorem d_Mod_newAlternative_10 : decode c_Mod_newAlternative 10 = .ok (.iconst 0, 1) := by decide +kernel
theorem d_Mod_newAlternative_11 : decode c_Mod_newAlternative 11 = .ok (.iconst 0, 1) := by decide +kernel
theorem d_Mod_newAlternative_12 : decode c_Mod_newAlternative 12 = .ok (.iconst 0, 1) := by decide +kernel
theorem d_Mod_newAlternative_13 : decode c_Mod_newAlternative 13 = .ok (.invokevirtual 147, 3) := by decide +kernel
theorem d_Mod_newAlternative_16 : decode c_Mod_newAlternative 16 = .ok (.iastore, 1) := by decide +kernel
theorem d_Mod_newAlternative_17 : decode c_Mod_newAlternative 17 = .ok (.aload_n 0, 1) := by decide +kernel
theorem d_Mod_newAlternative_18 : decode c_Mod_newAlternative 18 = .ok (.aload_n 0, 1) := by decide +kernel
theorem d_Mod_newAlternative_19 : decode c_Mod_newAlternative 19 = .ok (.getfield 59, 3) := by decide +kernel
theorem d_Mod_newAlternative_22 : decode c_Mod_newAlternative 22 = .ok (.aload_n 0, 1) := by decide +kernel
theorem d_Mod_newAlternative_23 : decode c_Mod_newAlternative 23 = .ok (.getfield 144, 3) := by decide +kernel
theorem d_Mod_newAlternative_26 : decode c_Mod_newAlternative 26 = .ok (.iaload, 1) := by decide +kernel
theorem d_Mod_newAlternative_27 : decode c_Mod_newAlternative 27 = .ok (.aload_n 0, 1) := by decide +kernel
theorem d_Mod_newAlternative_28 : decode c_Mod_newAlternative 28 = .ok (.getfield 62, 3) := by decide +kernel
theorem d_Mod_newAlternative_31 : decode c_Mod_newAlternative 31 = .ok (.aload_n 0, 1) := by decide +kernel
theorem d_Mod_newAlternative_32 : decode c_Mod_newAlternative 32 = .ok (.getfield 144, 3) := by decide +kernel
theorem d_Mod_newAlternative_35 : decode c_Mod_newAlternative 35 = .ok (.iaload, 1) := by decide +kernel
theorem d_Mod_newAlternative_36 : decode c_Mod_newAlternative 36 = .ok (.invokevirtual 151, 3) := by decide +kernel
theorem d_Mod_newAlternative_39 : decode c_Mod_newAlternative 39 = .ok (.return_, 1) := by decide +kernel
theorem d_Mod_opens_0 : decode c_Mod_opens 0 = .ok (.aload_n 0, 1) := by decide +kernel
theorem d_Mod_opens_1 : decode c_Mod_opens 1 = .ok (.getfield 56, 3) := by decide +kernel
theorem d_Mod_opens_4 : decode c_Mod_opens 4 = .ok (.aload_n 0, 1) := by decide +kernel
theorem d_Mod_opens_5 : decode c_Mod_opens 5 = .ok (.getfield 144, 3) := by decide +kernel
theorem d_Mod_opens_8 : decode c_Mod_opens 8 = .ok (.iload_n 1, 1) := by decide +kernel
theorem d_Mod_opens_9 : decode c_Mod_opens 9 = .ok (.iastore, 1) := by decide +kernel
theorem d_Mod_opens_10 : decode c_Mod_opens 10 = .ok (.aload_n 0, 1) := by decide +kernel
theorem d_Mod_opens_11 : decode c_Mod_opens 11 = .ok (.getfield 59, 3) := by decide +kernel
theorem d_Mod_opens_14 : decode c_Mod_opens 14 = .ok (.aload_n 0, 1) := by decide +kernel
theorem d_Mod_opens_15 : decode c_Mod_opens 15 = .ok (.getfield 144, 3) := by decide +kernel
theorem d_Mod_opens_18 : decode c_Mod_opens 18 = .ok (.aload_n 0, 1) := by decide +kernel
theorem d_Mod_opens_19 : decode c_Mod_opens 19 = .ok (.iconst 1, 1) := by decide +kernel
theorem d_Mod_opens_20 : decode c_Mod_opens 20 = .ok (.iconst 0, 1) := by decide +kernel
theorem d_Mod_opens_21 : decode c_Mod_opens 21 = .ok (.iconst 0, 1) := by decide +kernel
theorem d_Mod_opens_22 : decode c_Mod_opens 22 = .ok (.iconst 0, 1) := by decide +kernel
theorem d_Mod_opens_23 : decode c_Mod_opens 23 = .ok (.invokevirtual 147, 3) := by decide +kernel
theorem d_Mod_opens_26 : decode c_Mod_opens 26 = .ok (.iastore, 1) := by decide +kernel
theorem d_Mod_opens_27 : decode c_Mod_opens 27 = .ok (.iload_n 1, 1) := by decide +kernel
theorem d_Mod_opens_28 : decode c_Mod_opens 28 = .ok (.ifCond .lt 17, 3) := by decide +kernel
theorem d_Mod_opens_31 : decode c_Mod_opens 31 = .ok (.aload_n 0, 1) := by decide +kernel
theorem d_Mod_opens_32 : decode c_Mod_opens 32 = .ok (.iload_n 1, 1) := by decide +kernel
theorem d_Mod_opens_33 : decode c_Mod_opens 33 = .ok (.aload_n 0, 1) := by decide +kernel
theorem d_Mod_opens_34 : decode c_Mod_opens 34 = .ok (.getfield 59, 3) := by decide +kernel
theorem d_Mod_opens_37 : decode c_Mod_opens 37 = .ok (.aload_n 0, 1) := by decide +kernel
theorem d_Mod_opens_38 : decode c_Mod_opens 38 = .ok (.getfield 144, 3) := by decide +kernel
theorem d_Mod_opens_41 : decode c_Mod_opens 41 = .ok (.iaload, 1) := by decide +kernel
theorem d_Mod_opens_42 : decode c_Mod_opens 42 = .ok (.invokevirtual 151, 3) := by decide +kernel
theorem d_Mod_opens_45 : decode c_Mod_opens 45 = .ok (.aload_n 0, 1) := by decide +kernel
theorem d_Mod_opens_46 : decode c_Mod_opens 46 = .ok (.invokevirtual 155, 3) := by decide +kernel
theorem d_Mod_opens_49 : decode c_Mod_opens 49 = .ok (.return_, 1) := by decide +kernel
theorem d_Mod_digits_0 : decode c_Mod_digits 0 = .ok (.iconst 0, 1) := by decide +kernel
theorem d_Mod_digits_1 : decode c_Mod_digits 1 = .ok (.istore_n 3, 1) := by decide +kernel
theorem d_Mod_digits_2 : decode c_Mod_digits 2 = .ok (.iload_n 1, 1) := by decide +kernel
theorem d_Mod_digits_3 : decode c_Mod_digits 3 = .ok (.istore 4, 2) := by decide +kernel
theorem d_Mod_digits_5 : decode c_Mod_digits 5 = .ok (.iload 4, 2) := by decide +kernel
theorem d_Mod_digits_7 : decode c_Mod_digits 7 = .ok (.iload_n 1, 1) := by decide +kernel
theorem d_Mod_digits_8 : decode c_Mod_digits 8 = .ok (.iload_n 2, 1) := by decide +kernel
theorem d_Mod_digits_9 : decode c_Mod_digits 9 = .ok (.iadd, 1) := by decide +kernel
theorem d_Mod_digits_10 : decode c_Mod_digits 10 = .ok (.if_icmp .ge 72, 3) := by decide +kernel
theorem d_Mod_digits_13 : decode c_Mod_digits 13 = .ok (.aload_n 0, 1) := by decide +kernel
theorem d_Mod_digits_14 : decode c_Mod_digits 14 = .ok (.getfield 135, 3) := by decide +kernel
theorem d_Mod_digits_17 : decode c_Mod_digits 17 = .ok (.ifCond .ge 65, 3) := by decide +kernel
theorem d_Mod_digits_20 : decode c_Mod_digits 20 = .ok (.aload_n 0, 1) := by decide +kernel
theorem d_Mod_digits_21 : decode c_Mod_digits 21 = .ok (.iload 4, 2) := by decide +kernel
theorem d_Mod_digits_23 : decode c_Mod_digits 23 = .ok (.invokevirtual 158, 3) := by decide +kernel
theorem d_Mod_digits_26 : decode c_Mod_digits 26 = .ok (.invokestatic 162, 3) := by decide +kernel
theorem d_Mod_digits_29 : decode c_Mod_digits 29 = .ok (.istore 5, 2) := by decide +kernel
theorem d_Mod_digits_31 : decode c_Mod_digits 31 = .ok (.iload 5, 2) := by decide +kernel
theorem d_Mod_digits_33 : decode c_Mod_digits 33 = .ok (.ifCond .ge 35, 3) := by decide +kernel
theorem d_Mod_digits_36 : decode c_Mod_digits 36 = .ok (.aload_n 0, 1) := by decide +kernel
theorem d_Mod_digits_37 : decode c_Mod_digits 37 = .ok (.aload_n 0, 1) := by decide +kernel
theorem d_Mod_digits_38 : decode c_Mod_digits 38 = .ok (.getfield 129, 3) := by decide +kernel
theorem d_Mod_digits_41 : decode c_Mod_digits 41 = .ok (.iload 4, 2) := by decide +kernel
theorem d_Mod_digits_43 : decode c_Mod_digits 43 = .ok (.iadd, 1) := by decide +kernel
theorem d_Mod_digits_44 : decode c_Mod_digits 44 = .ok (.aload_n 0, 1) := by decide +kernel
theorem d_Mod_digits_45 : decode c_Mod_digits 45 = .ok (.getfield 132, 3) := by decide +kernel
theorem d_Mod_digits_48 : decode c_Mod_digits 48 = .ok (.if_icmp .ge 13, 3) := by decide +kernel
theorem d_Mod_digits_51 : decode c_Mod_digits 51 = .ok (.aload_n 0, 1) := by decide +kernel
theorem d_Mod_digits_52 : decode c_Mod_digits 52 = .ok (.getfield 129, 3) := by decide +kernel
theorem d_Mod_digits_55 : decode c_Mod_digits 55 = .ok (.iload 4, 2) := by decide +kernel
theorem d_Mod_digits_57 : decode c_Mod_digits 57 = .ok (.iadd, 1) := by decide +kernel
theorem d_Mod_digits_58 : decode c_Mod_digits 58 = .ok (.goto 7, 3) := by decide +kernel
theorem d_Mod_digits_61 : decode c_Mod_digits 61 = .ok (.aload_n 0, 1) := by decide +kernel
theorem d_Mod_digits_62 : decode c_Mod_digits 62 = .ok (.getfield 132, 3) := by decide +kernel
theorem d_Mod_digits_65 : decode c_Mod_digits 65 = .ok (.invokevirtual 165, 3) := by decide +kernel
theorem d_Mod_digits_68 : decode c_Mod_digits 68 = .ok (.bipush 16, 2) := by decide +kernel
theorem d_Mod_digits_70 : decode c_Mod_digits 70 = .ok (.iload_n 3, 1) := by decide +kernel
theorem d_Mod_digits_71 : decode c_Mod_digits 71 = .ok (.imul, 1) := by decide +kernel
theorem d_Mod_digits_72 : decode c_Mod_digits 72 = .ok (.iload 5, 2) := by decide +kernel
theorem d_Mod_digits_74 : decode c_Mod_digits 74 = .ok (.iadd, 1) := by decide +kernel
theorem d_Mod_digits_75 : decode c_Mod_digits 75 = .ok (.istore_n 3, 1) := by decide +kernel
theorem d_Mod_digits_76 : decode c_Mod_digits 76 = .ok (.iinc 4 1, 3) := by decide +kernel
theorem d_Mod_digits_79 : decode c_Mod_digits 79 = .ok (.goto (-74), 3) := by decide +kernel
theorem d_Mod_digits_82 : decode c_Mod_digits 82 = .ok (.iload_n 3, 1) := by decide +kernel
theorem d_Mod_digits_83 : decode c_Mod_digits 83 = .ok (.ireturn, 1) := by decide +kernel
theorem d_Mod_escape_0 : decode c_Mod_escape 0 = .ok (.aload_n 0, 1) := by decide +kernel
theorem d_Mod_escape_1 : decode c_Mod_escape 1 = .ok (.iconst 0, 1) := by decide +kernel
theorem d_Mod_escape_2 : decode c_Mod_escape 2 = .ok (.invokevirtual 158, 3) := by decide +kernel
theorem d_Mod_escape_5 : decode c_Mod_escape 5 = .ok (.istore_n 2, 1) := by decide +kernel
theorem d_Mod_escape_6 : decode c_Mod_escape 6 = .ok (.aload_n 0, 1) := by decide +kernel
theorem d_Mod_escape_7 : decode c_Mod_escape 7 = .ok (.iload_n 2, 1) := by decide +kernel
theorem d_Mod_escape_8 : decode c_Mod_escape 8 = .ok (.putfield 169, 3) := by decide +kernel
theorem d_Mod_escape_11 : decode c_Mod_escape 11 = .ok (.iload_n 2, 1) := by decide +kernel
theorem d_Mod_escape_12 : decode c_Mod_escape 12 = .ok (.ifCond .ge 11, 3) := by decide +kernel
theorem d_Mod_escape_15 : decode c_Mod_escape 15 = .ok (.aload_n 0, 1) := by decide +kernel
theorem d_Mod_escape_16 : decode c_Mod_escape 16 = .ok (.aload_n 0, 1) := by decide +kernel
theorem d_Mod_escape_17 : decode c_Mod_escape 17 = .ok (.getfield 132, 3) := by decide +kernel
theorem d_Mod_escape_20 : decode c_Mod_escape 20 = .ok (.invokevirtual 165, 3) := by decide +kernel
theorem d_Mod_escape_23 : decode c_Mod_escape 23 = .ok (.iload_n 2, 1) := by decide +kernel
theorem d_Mod_escape_24 : decode c_Mod_escape 24 = .ok (.bipush 48, 2) := by decide +kernel
theorem d_Mod_escape_26 : decode c_Mod_escape 26 = .ok (.if_icmp .ne 41, 3) := by decide +kernel
theorem d_Mod_escape_29 : decode c_Mod_escape 29 = .ok (.aload_n 0, 1) := by decide +kernel
theorem d_Mod_escape_30 : decode c_Mod_escape 30 = .ok (.iconst 0, 1) := by decide +kernel
theorem d_Mod_escape_31 : decode c_Mod_escape 31 = .ok (.putfield 169, 3) := by decide +kernel
theorem d_Mod_escape_34 : decode c_Mod_escape 34 = .ok (.aload_n 0, 1) := by decide +kernel
theorem d_Mod_escape_35 : decode c_Mod_escape 35 = .ok (.iconst 1, 1) := by decide +kernel
theorem d_Mod_escape_36 : decode c_Mod_escape 36 = .ok (.invokevirtual 158, 3) := by decide +kernel
theorem d_Mod_escape_39 : decode c_Mod_escape 39 = .ok (.invokestatic 116, 3) := by decide +kernel
theorem d_Mod_escape_42 : decode c_Mod_escape 42 = .ok (.ifCond .eq 13, 3) := by decide +kernel
theorem d_Mod_escape_45 : decode c_Mod_escape 45 = .ok (.aload_n 0, 1) := by decide +kernel
theorem d_Mod_escape_46 : decode c_Mod_escape 46 = .ok (.aload_n 0, 1) := by decide +kernel
theorem d_Mod_escape_47 : decode c_Mod_escape 47 = .ok (.getfield 129, 3) := by decide +kernel
theorem d_Mod_escape_50 : decode c_Mod_escape 50 = .ok (.iconst 1, 1) := by decide +kernel
theorem d_Mod_escape_51 : decode c_Mod_escape 51 = .ok (.iadd, 1) := by decide +kernel
theorem d_Mod_escape_52 : decode c_Mod_escape 52 = .ok (.invokevirtual 165, 3) := by decide +kernel
theorem d_Mod_escape_55 : decode c_Mod_escape 55 = .ok (.aload_n 0, 1) := by decide +kernel
theorem d_Mod_escape_56 : decode c_Mod_escape 56 = .ok (.dup, 1) := by decide +kernel
theorem d_Mod_escape_57 : decode c_Mod_escape 57 = .ok (.getfield 129, 3) := by decide +kernel
theorem d_Mod_escape_60 : decode c_Mod_escape 60 = .ok (.iconst 1, 1) := by decide +kernel
theorem d_Mod_escape_61 : decode c_Mod_escape 61 = .ok (.iadd, 1) := by decide +kernel
theorem d_Mod_escape_62 : decode c_Mod_escape 62 = .ok (.putfield 129, 3) := by decide +kernel
theorem d_Mod_escape_65 : decode c_Mod_escape 65 = .ok (.iconst 0, 1) := by decide +kernel
theorem d_Mod_escape_66 : decode c_Mod_escape 66 = .ok (.ireturn, 1) := by decide +kernel
theorem d_Mod_escape_67 : decode c_Mod_escape 67 = .ok (.iload_n 2, 1) := by decide +kernel
theorem d_Mod_escape_68 : decode c_Mod_escape 68 = .ok (.invokestatic 116, 3) := by decide +kernel
theorem d_Mod_escape_71 : decode c_Mod_escape 71 = .ok (.ifCond .eq 73, 3) := by decide +kernel
theorem d_Mod_escape_74 : decode c_Mod_escape 74 = .ok (.iload_n 1, 1) := by decide +kernel
theorem d_Mod_escape_75 : decode c_Mod_escape 75 = .ok (.ifCond .eq 11, 3) := by decide +kernel
theorem d_Mod_escape_78 : decode c_Mod_escape 78 = .ok (.aload_n 0, 1) := by decide +kernel
theorem d_Mod_escape_79 : decode c_Mod_escape 79 = .ok (.aload_n 0, 1) := by decide +kernel
theorem d_Mod_escape_80 : decode c_Mod_escape 80 = .ok (.getfield 129, 3) := by decide +kernel
theorem d_Mod_escape_83 : decode c_Mod_escape 83 = .ok (.invokevirtual 165, 3) := by decide +kernel
theorem d_Mod_escape_86 : decode c_Mod_escape 86 = .ok (.iconst 0, 1) := by decide +kernel
theorem d_Mod_escape_87 : decode c_Mod_escape 87 = .ok (.istore_n 3, 1) := by decide +kernel
theorem d_Mod_escape_88 : decode c_Mod_escape 88 = .ok (.aload_n 0, 1) := by decide +kernel
theorem d_Mod_escape_89 : decode c_Mod_escape 89 = .ok (.iconst 0, 1) := by decide +kernel
theorem d_Mod_escape_90 : decode c_Mod_escape 90 = .ok (.invokevirtual 158, 3) := by decide +kernel
theorem d_Mod_escape_93 : decode c_Mod_escape 93 = .ok (.invokestatic 116, 3) := by decide +kernel
theorem d_Mod_escape_96 : decode c_Mod_escape 96 = .ok (.ifCond .eq 41, 3) := by decide +kernel
theorem d_Mod_escape_99 : decode c_Mod_escape 99 = .ok (.iload_n 3, 1) := by decide +kernel
theorem d_Mod_escape_100 : decode c_Mod_escape 100 = .ok (.sipush 1000, 3) := by decide +kernel
theorem d_Mod_escape_103 : decode c_Mod_escape 103 = .ok (.if_icmp .le 7, 3) := by decide +kernel
theorem d_Mod_escape_106 : decode c_Mod_escape 106 = .ok (.iload_n 3, 1) := by decide +kernel
theorem d_Mod_escape_107 : decode c_Mod_escape 107 = .ok (.goto 16, 3) := by decide +kernel
theorem d_Mod_escape_110 : decode c_Mod_escape 110 = .ok (.bipush 10, 2) := by decide +kernel
theorem d_Mod_escape_112 : decode c_Mod_escape 112 = .ok (.iload_n 3, 1) := by decide +kernel
theorem d_Mod_escape_113 : decode c_Mod_escape 113 = .ok (.imul, 1) := by decide +kernel
theorem d_Mod_escape_114 : decode c_Mod_escape 114 = .ok (.aload_n 0, 1) := by decide +kernel
theorem d_Mod_escape_115 : decode c_Mod_escape 115 = .ok (.iconst 0, 1) := by decide +kernel
theorem d_Mod_escape_116 : decode c_Mod_escape 116 = .ok (.invokevirtual 158, 3) := by decide +kernel
theorem d_Mod_escape_119 : decode c_Mod_escape 119 = .ok (.iadd, 1) := by decide +kernel
theorem d_Mod_escape_120 : decode c_Mod_escape 120 = .ok (.bipush 48, 2) := by decide +kernel
theorem d_Mod_escape_122 : decode c_Mod_escape 122 = .ok (.isub, 1) := by decide +kernel
theorem d_Mod_escape_123 : decode c_Mod_escape 123 = .ok (.istore_n 3, 1) := by decide +kernel
theorem d_Mod_escape_124 : decode c_Mod_escape 124 = .ok (.aload_n 0, 1) := by decide +kernel
theorem d_Mod_escape_125 : decode c_Mod_escape 125 = .ok (.dup, 1) := by decide +kernel
theorem d_Mod_escape_126 : decode c_Mod_escape 126 = .ok (.getfield 129, 3) := by decide +kernel
theorem d_Mod_escape_129 : decode c_Mod_escape 129 = .ok (.iconst 1, 1) := by decide +kernel
theorem d_Mod_escape_130 : decode c_Mod_escape 130 = .ok (.iadd, 1) := by decide +kernel
theorem d_Mod_escape_131 : decode c_Mod_escape 131 = .ok (.putfield 129, 3) := by decide +kernel
theorem d_Mod_escape_134 : decode c_Mod_escape 134 = .ok (.goto (-46), 3) := by decide +kernel
theorem d_Mod_escape_137 : decode c_Mod_escape 137 = .ok (.aload_n 0, 1) := by decide +kernel
theorem d_Mod_escape_138 : decode c_Mod_escape 138 = .ok (.iload_n 3, 1) := by decide +kernel
theorem d_Mod_escape_139 : decode c_Mod_escape 139 = .ok (.putfield 169, 3) := by decide +kernel
theorem d_Mod_escape_142 : decode c_Mod_escape 142 = .ok (.iconst 2, 1) := by decide +kernel
theorem d_Mod_escape_143 : decode c_Mod_escape 143 = .ok (.ireturn, 1) := by decide +kernel
theorem d_Mod_escape_144 : decode c_Mod_escape 144 = .ok (.iload_n 2, 1) := by decide +kernel
theorem d_Mod_escape_145 : decode c_Mod_escape 145 = .ok (.bipush 100, 2) := by decide +kernel
theorem d_Mod_escape_147 : decode c_Mod_escape 147 = .ok (.if_icmp .eq 33, 3) := by decide +kernel
theorem d_Mod_escape_150 : decode c_Mod_escape 150 = .ok (.iload_n 2, 1) := by decide +kernel
theorem d_Mod_escape_151 : decode c_Mod_escape 151 = .ok (.bipush 68, 2) := by decide +kernel
theorem d_Mod_escape_153 : decode c_Mod_escape 153 = .ok (.if_icmp .eq 27, 3) := by decide +kernel
theorem d_Mod_escape_156 : decode c_Mod_escape 156 = .ok (.iload_n 2, 1) := by decide +kernel
theorem d_Mod_escape_157 : decode c_Mod_escape 157 = .ok (.bipush 115, 2) := by decide +kernel
theorem d_Mod_escape_159 : decode c_Mod_escape 159 = .ok (.if_icmp .eq 21, 3) := by decide +kernel
theorem d_Mod_escape_162 : decode c_Mod_escape 162 = .ok (.iload_n 2, 1) := by decide +kernel
theorem d_Mod_escape_163 : decode c_Mod_escape 163 = .ok (.bipush 83, 2) := by decide +kernel
theorem d_Mod_escape_165 : decode c_Mod_escape 165 = .ok (.if_icmp .eq 15, 3) := by decide +kernel
theorem d_Mod_escape_168 : decode c_Mod_escape 168 = .ok (.iload_n 2, 1) := by decide +kernel
theorem d_Mod_escape_169 : decode c_Mod_escape 169 = .ok (.bipush 119, 2) := by decide +kernel
theorem d_Mod_escape_171 : decode c_Mod_escape 171 = .ok (.if_icmp .eq 9, 3) := by decide +kernel
theorem d_Mod_escape_174 : decode c_Mod_escape 174 = .ok (.iload_n 2, 1) := by decide +kernel
theorem d_Mod_escape_175 : decode c_Mod_escape 175 = .ok (.bipush 87, 2) := by decide +kernel
theorem d_Mod_escape_177 : decode c_Mod_escape 177 = .ok (.if_icmp .ne 15, 3) := by decide +kernel
theorem d_Mod_escape_180 : decode c_Mod_escape 180 = .ok (.aload_n 0, 1) := by decide +kernel
theorem d_Mod_escape_181 : decode c_Mod_escape 181 = .ok (.dup, 1) := by decide +kernel
theorem d_Mod_escape_182 : decode c_Mod_escape 182 = .ok (.getfield 129, 3) := by decide +kernel
theorem d_Mod_escape_185 : decode c_Mod_escape 185 = .ok (.iconst 1, 1) := by decide +kernel
theorem d_Mod_escape_186 : decode c_Mod_escape 186 = .ok (.iadd, 1) := by decide +kernel
theorem d_Mod_escape_187 : decode c_Mod_escape 187 = .ok (.putfield 129, 3) := by decide +kernel
theorem d_Mod_escape_190 : decode c_Mod_escape 190 = .ok (.iconst 1, 1) := by decide +kernel
theorem d_Mod_escape_191 : decode c_Mod_escape 191 = .ok (.ireturn, 1) := by decide +kernel
theorem d_Mod_escape_192 : decode c_Mod_escape 192 = .ok (.iload_n 2, 1) := by decide +kernel
theorem d_Mod_escape_193 : decode c_Mod_escape 193 = .ok (.bipush 120, 2) := by decide +kernel
theorem d_Mod_escape_195 : decode c_Mod_escape 195 = .ok (.if_icmp .eq 9, 3) := by decide +kernel
theorem d_Mod_escape_198 : decode c_Mod_escape 198 = .ok (.iload_n 2, 1) := by decide +kernel
theorem d_Mod_escape_199 : decode c_Mod_escape 199 = .ok (.bipush 117, 2) := by decide +kernel
theorem d_Mod_escape_201 : decode c_Mod_escape 201 = .ok (.if_icmp .ne 45, 3) := by decide +kernel
theorem d_Mod_escape_204 : decode c_Mod_escape 204 = .ok (.aload_n 0, 1) := by decide +kernel
theorem d_Mod_escape_205 : decode c_Mod_escape 205 = .ok (.aload_n 0, 1) := by decide +kernel
theorem d_Mod_escape_206 : decode c_Mod_escape 206 = .ok (.iconst 1, 1) := by decide +kernel
theorem d_Mod_escape_207 : decode c_Mod_escape 207 = .ok (.iload_n 2, 1) := by decide +kernel
theorem d_Mod_escape_208 : decode c_Mod_escape 208 = .ok (.bipush 120, 2) := by decide +kernel
theorem d_Mod_escape_210 : decode c_Mod_escape 210 = .ok (.if_icmp .ne 7, 3) := by decide +kernel
theorem d_Mod_escape_213 : decode c_Mod_escape 213 = .ok (.iconst 2, 1) := by decide +kernel
theorem d_Mod_escape_214 : decode c_Mod_escape 214 = .ok (.goto 4, 3) := by decide +kernel
theorem d_Mod_escape_217 : decode c_Mod_escape 217 = .ok (.iconst 4, 1) := by decide +kernel
theorem d_Mod_escape_218 : decode c_Mod_escape 218 = .ok (.invokevirtual 172, 3) := by decide +kernel
theorem d_Mod_escape_221 : decode c_Mod_escape 221 = .ok (.putfield 169, 3) := by decide +kernel
theorem d_Mod_escape_224 : decode c_Mod_escape 224 = .ok (.aload_n 0, 1) := by decide +kernel
theorem d_Mod_escape_225 : decode c_Mod_escape 225 = .ok (.aload_n 0, 1) := by decide +kernel
theorem d_Mod_escape_226 : decode c_Mod_escape 226 = .ok (.getfield 129, 3) := by decide +kernel
theorem d_Mod_escape_229 : decode c_Mod_escape 229 = .ok (.iload_n 2, 1) := by decide +kernel
theorem d_Mod_escape_230 : decode c_Mod_escape 230 = .ok (.bipush 120, 2) := by decide +kernel
theorem d_Mod_escape_232 : decode c_Mod_escape 232 = .ok (.if_icmp .ne 7, 3) := by decide +kernel
theorem d_Mod_escape_235 : decode c_Mod_escape 235 = .ok (.iconst 3, 1) := by decide +kernel
theorem d_Mod_escape_236 : decode c_Mod_escape 236 = .ok (.goto 4, 3) := by decide +kernel
theorem d_Mod_escape_239 : decode c_Mod_escape 239 = .ok (.iconst 5, 1) := by decide +kernel
theorem d_Mod_escape_240 : decode c_Mod_escape 240 = .ok (.iadd, 1) := by decide +kernel
theorem d_Mod_escape_241 : decode c_Mod_escape 241 = .ok (.putfield 129, 3) := by decide +kernel
theorem d_Mod_escape_244 : decode c_Mod_escape 244 = .ok (.iconst 0, 1) := by decide +kernel
theorem d_Mod_escape_245 : decode c_Mod_escape 245 = .ok (.ireturn, 1) := by decide +kernel
theorem d_Mod_escape_246 : decode c_Mod_escape 246 = .ok (.iload_n 2, 1) := by decide +kernel
theorem d_Mod_escape_247 : decode c_Mod_escape 247 = .ok (.bipush 99, 2) := by decide +kernel
theorem d_Mod_escape_249 : decode c_Mod_escape 249 = .ok (.if_icmp .ne 68, 3) := by decide +kernel
theorem d_Mod_escape_252 : decode c_Mod_escape 252 = .ok (.aload_n 0, 1) := by decide +kernel
theorem d_Mod_escape_253 : decode c_Mod_escape 253 = .ok (.iconst 1, 1) := by decide +kernel
theorem d_Mod_escape_254 : decode c_Mod_escape 254 = .ok (.invokevirtual 158, 3) := by decide +kernel
theorem d_Mod_escape_257 : decode c_Mod_escape 257 = .ok (.invokestatic 112, 3) := by decide +kernel
theorem d_Mod_escape_260 : decode c_Mod_escape 260 = .ok (.ifCond .ne 33, 3) := by decide +kernel
theorem d_Mod_escape_263 : decode c_Mod_escape 263 = .ok (.aload_n 0, 1) := by decide +kernel
theorem d_Mod_escape_264 : decode c_Mod_escape 264 = .ok (.aload_n 0, 1) := by decide +kernel
theorem d_Mod_escape_265 : decode c_Mod_escape 265 = .ok (.getfield 129, 3) := by decide +kernel
theorem d_Mod_escape_268 : decode c_Mod_escape 268 = .ok (.iconst 1, 1) := by decide +kernel
theorem d_Mod_escape_269 : decode c_Mod_escape 269 = .ok (.iadd, 1) := by decide +kernel
theorem d_Mod_escape_270 : decode c_Mod_escape 270 = .ok (.aload_n 0, 1) := by decide +kernel
theorem d_Mod_escape_271 : decode c_Mod_escape 271 = .ok (.getfield 132, 3) := by decide +kernel
theorem d_Mod_escape_274 : decode c_Mod_escape 274 = .ok (.if_icmp .ge 12, 3) := by decide +kernel
theorem d_Mod_escape_277 : decode c_Mod_escape 277 = .ok (.aload_n 0, 1) := by decide +kernel
theorem d_Mod_escape_278 : decode c_Mod_escape 278 = .ok (.getfield 129, 3) := by decide +kernel
theorem d_Mod_escape_281 : decode c_Mod_escape 281 = .ok (.iconst 1, 1) := by decide +kernel
theorem d_Mod_escape_282 : decode c_Mod_escape 282 = .ok (.iadd, 1) := by decide +kernel
theorem d_Mod_escape_283 : decode c_Mod_escape 283 = .ok (.goto 7, 3) := by decide +kernel
theorem d_Mod_escape_286 : decode c_Mod_escape 286 = .ok (.aload_n 0, 1) := by decide +kernel
theorem d_Mod_escape_287 : decode c_Mod_escape 287 = .ok (.getfield 132, 3) := by decide +kernel
theorem d_Mod_escape_290 : decode c_Mod_escape 290 = .ok (.invokevirtual 165, 3) := by decide +kernel
theorem d_Mod_escape_293 : decode c_Mod_escape 293 = .ok (.aload_n 0, 1) := by decide +kernel
theorem d_Mod_escape_294 : decode c_Mod_escape 294 = .ok (.aload_n 0, 1) := by decide +kernel
theorem d_Mod_escape_295 : decode c_Mod_escape 295 = .ok (.iconst 1, 1) := by decide +kernel
theorem d_Mod_escape_296 : decode c_Mod_escape 296 = .ok (.invokevirtual 158, 3) := by decide +kernel
theorem d_Mod_escape_299 : decode c_Mod_escape 299 = .ok (.bipush 32, 2) := by decide +kernel
theorem d_Mod_escape_301 : decode c_Mod_escape 301 = .ok (.irem, 1) := by decide +kernel
theorem d_Mod_escape_302 : decode c_Mod_escape 302 = .ok (.putfield 169, 3) := by decide +kernel
theorem d_Mod_escape_305 : decode c_Mod_escape 305 = .ok (.aload_n 0, 1) := by decide +kernel
theorem d_Mod_escape_306 : decode c_Mod_escape 306 = .ok (.aload_n 0, 1) := by decide +kernel
theorem d_Mod_escape_307 : decode c_Mod_escape 307 = .ok (.getfield 129, 3) := by decide +kernel
theorem d_Mod_escape_310 : decode c_Mod_escape 310 = .ok (.iconst 2, 1) := by decide +kernel
theorem d_Mod_escape_311 : decode c_Mod_escape 311 = .ok (.iadd, 1) := by decide +kernel
theorem d_Mod_escape_312 : decode c_Mod_escape 312 = .ok (.putfield 129, 3) := by decide +kernel
theorem d_Mod_escape_315 : decode c_Mod_escape 315 = .ok (.iconst 0, 1) := by decide +kernel
theorem d_Mod_escape_316 : decode c_Mod_escape 316 = .ok (.ireturn, 1) := by decide +kernel
theorem d_Mod_escape_317 : decode c_Mod_escape 317 = .ok (.aload_n 0, 1) := by decide +kernel
theorem d_Mod_escape_318 : decode c_Mod_escape 318 = .ok (.dup, 1) := by decide +kernel
theorem d_Mod_escape_319 : decode c_Mod_escape 319 = .ok (.getfield 129, 3) := by decide +kernel
theorem d_Mod_escape_322 : decode c_Mod_escape 322 = .ok (.iconst 1, 1) := by decide +kernel
theorem d_Mod_escape_323 : decode c_Mod_escape 323 = .ok (.iadd, 1) := by decide +kernel
theorem d_Mod_escape_324 : decode c_Mod_escape 324 = .ok (.putfield 129, 3) := by decide +kernel
theorem d_Mod_escape_327 : decode c_Mod_escape 327 = .ok (.iload_n 2, 1) := by decide +kernel
theorem d_Mod_escape_328 : decode c_Mod_escape 328 = .ok (.bipush 116, 2) := by decide +kernel
theorem d_Mod_escape_330 : decode c_Mod_escape 330 = .ok (.if_icmp .eq 27, 3) := by decide +kernel
theorem d_Mod_escape_333 : decode c_Mod_escape 333 = .ok (.iload_n 2, 1) := by decide +kernel
theorem d_Mod_escape_334 : decode c_Mod_escape 334 = .ok (.bipush 110, 2) := by decide +kernel
theorem d_Mod_escape_336 : decode c_Mod_escape 336 = .ok (.if_icmp .eq 21, 3) := by decide +kernel
theorem d_Mod_escape_339 : decode c_Mod_escape 339 = .ok (.iload_n 2, 1) := by decide +kernel
theorem d_Mod_escape_340 : decode c_Mod_escape 340 = .ok (.bipush 118, 2) := by decide +kernel
theorem d_Mod_escape_342 : decode c_Mod_escape 342 = .ok (.if_icmp .eq 15, 3) := by decide +kernel
theorem d_Mod_escape_345 : decode c_Mod_escape 345 = .ok (.iload_n 2, 1) := by decide +kernel
theorem d_Mod_escape_346 : decode c_Mod_escape 346 = .ok (.bipush 102, 2) := by decide +kernel
theorem d_Mod_escape_348 : decode c_Mod_escape 348 = .ok (.if_icmp .eq 9, 3) := by decide +kernel
theorem d_Mod_escape_351 : decode c_Mod_escape 351 = .ok (.iload_n 2, 1) := by decide +kernel
theorem d_Mod_escape_352 : decode c_Mod_escape 352 = .ok (.bipush 114, 2) := by decide +kernel
theorem d_Mod_escape_354 : decode c_Mod_escape 354 = .ok (.if_icmp .ne 7, 3) := by decide +kernel
theorem d_Mod_escape_357 : decode c_Mod_escape 357 = .ok (.iconst 1, 1) := by decide +kernel
theorem d_Mod_escape_358 : decode c_Mod_escape 358 = .ok (.goto 4, 3) := by decide +kernel
theorem d_Mod_escape_361 : decode c_Mod_escape 361 = .ok (.iconst 0, 1) := by decide +kernel
theorem d_Mod_escape_362 : decode c_Mod_escape 362 = .ok (.istore_n 3, 1) := by decide +kernel
theorem d_Mod_escape_363 : decode c_Mod_escape 363 = .ok (.aload_n 0, 1) := by decide +kernel
theorem d_Mod_escape_364 : decode c_Mod_escape 364 = .ok (.iload_n 2, 1) := by decide +kernel
theorem d_Mod_escape_365 : decode c_Mod_escape 365 = .ok (.bipush 116, 2) := by decide +kernel
theorem d_Mod_escape_367 : decode c_Mod_escape 367 = .ok (.if_icmp .ne 8, 3) := by decide +kernel
theorem d_Mod_escape_370 : decode c_Mod_escape 370 = .ok (.bipush 9, 2) := by decide +kernel
theorem d_Mod_escape_372 : decode c_Mod_escape 372 = .ok (.goto 48, 3) := by decide +kernel
theorem d_Mod_escape_375 : decode c_Mod_escape 375 = .ok (.iload_n 2, 1) := by decide +kernel
theorem d_Mod_escape_376 : decode c_Mod_escape 376 = .ok (.bipush 110, 2) := by decide +kernel
theorem d_Mod_escape_378 : decode c_Mod_escape 378 = .ok (.if_icmp .ne 8, 3) := by decide +kernel
theorem d_Mod_escape_381 : decode c_Mod_escape 381 = .ok (.bipush 10, 2) := by decide +kernel
theorem d_Mod_escape_383 : decode c_Mod_escape 383 = .ok (.goto 37, 3) := by decide +kernel
theorem d_Mod_escape_386 : decode c_Mod_escape 386 = .ok (.iload_n 2, 1) := by decide +kernel
theorem d_Mod_escape_387 : decode c_Mod_escape 387 = .ok (.bipush 118, 2) := by decide +kernel
theorem d_Mod_escape_389 : decode c_Mod_escape 389 = .ok (.if_icmp .ne 8, 3) := by decide +kernel
theorem d_Mod_escape_392 : decode c_Mod_escape 392 = .ok (.bipush 11, 2) := by decide +kernel
theorem d_Mod_escape_394 : decode c_Mod_escape 394 = .ok (.goto 26, 3) := by decide +kernel
theorem d_Mod_escape_397 : decode c_Mod_escape 397 = .ok (.iload_n 2, 1) := by decide +kernel
theorem d_Mod_escape_398 : decode c_Mod_escape 398 = .ok (.bipush 102, 2) := by decide +kernel
theorem d_Mod_escape_400 : decode c_Mod_escape 400 = .ok (.if_icmp .ne 8, 3) := by decide +kernel
theorem d_Mod_escape_403 : decode c_Mod_escape 403 = .ok (.bipush 12, 2) := by decide +kernel
theorem d_Mod_escape_405 : decode c_Mod_escape 405 = .ok (.goto 15, 3) := by decide +kernel
theorem d_Mod_escape_408 : decode c_Mod_escape 408 = .ok (.iload_n 2, 1) := by decide +kernel
theorem d_Mod_escape_409 : decode c_Mod_escape 409 = .ok (.bipush 114, 2) := by decide +kernel
theorem d_Mod_escape_411 : decode c_Mod_escape 411 = .ok (.if_icmp .ne 8, 3) := by decide +kernel
theorem d_Mod_escape_414 : decode c_Mod_escape 414 = .ok (.bipush 13, 2) := by decide +kernel
theorem d_Mod_escape_416 : decode c_Mod_escape 416 = .ok (.goto 4, 3) := by decide +kernel
theorem d_Mod_escape_419 : decode c_Mod_escape 419 = .ok (.iload_n 2, 1) := by decide +kernel
theorem d_Mod_escape_420 : decode c_Mod_escape 420 = .ok (.putfield 169, 3) := by decide +kernel
theorem d_Mod_escape_423 : decode c_Mod_escape 423 = .ok (.iload_n 1, 1) := by decide +kernel
theorem d_Mod_escape_424 : decode c_Mod_escape 424 = .ok (.ifCond .eq 18, 3) := by decide +kernel
theorem d_Mod_escape_427 : decode c_Mod_escape 427 = .ok (.iload_n 2, 1) := by decide +kernel
theorem d_Mod_escape_428 : decode c_Mod_escape 428 = .ok (.bipush 98, 2) := by decide +kernel
theorem d_Mod_escape_430 : decode c_Mod_escape 430 = .ok (.if_icmp .ne 12, 3) := by decide +kernel
theorem d_Mod_escape_433 : decode c_Mod_escape 433 = .ok (.aload_n 0, 1) := by decide +kernel
theorem d_Mod_escape_434 : decode c_Mod_escape 434 = .ok (.bipush 8, 2) := by decide +kernel
theorem d_Mod_escape_436 : decode c_Mod_escape 436 = .ok (.putfield 169, 3) := by decide +kernel
theorem d_Mod_escape_439 : decode c_Mod_escape 439 = .ok (.goto 31, 3) := by decide +kernel
theorem d_Mod_escape_442 : decode c_Mod_escape 442 = .ok (.iload_n 3, 1) := by decide +kernel
theorem d_Mod_escape_443 : decode c_Mod_escape 443 = .ok (.ifCond .ne 27, 3) := by decide +kernel
theorem d_Mod_escape_446 : decode c_Mod_escape 446 = .ok (.iload_n 2, 1) := by decide +kernel
theorem d_Mod_escape_447 : decode c_Mod_escape 447 = .ok (.invokestatic 176, 3) := by decide +kernel
theorem d_Mod_escape_450 : decode c_Mod_escape 450 = .ok (.ifCond .ne 10, 3) := by decide +kernel
theorem d_Mod_escape_453 : decode c_Mod_escape 453 = .ok (.iload_n 2, 1) := by decide +kernel
theorem d_Mod_escape_454 : decode c_Mod_escape 454 = .ok (.sipush 255, 3) := by decide +kernel
theorem d_Mod_escape_457 : decode c_Mod_escape 457 = .ok (.if_icmp .le 13, 3) := by decide +kernel
theorem d_Mod_escape_460 : decode c_Mod_escape 460 = .ok (.aload_n 0, 1) := by decide +kernel
theorem d_Mod_escape_461 : decode c_Mod_escape 461 = .ok (.aload_n 0, 1) := by decide +kernel
theorem d_Mod_escape_462 : decode c_Mod_escape 462 = .ok (.getfield 129, 3) := by decide +kernel
theorem d_Mod_escape_465 : decode c_Mod_escape 465 = .ok (.iconst 1, 1) := by decide +kernel
theorem d_Mod_escape_466 : decode c_Mod_escape 466 = .ok (.isub, 1) := by decide +kernel
theorem d_Mod_escape_467 : decode c_Mod_escape 467 = .ok (.invokevirtual 165, 3) := by decide +kernel
theorem d_Mod_escape_470 : decode c_Mod_escape 470 = .ok (.iconst 0, 1) := by decide +kernel
theorem d_Mod_escape_471 : decode c_Mod_escape 471 = .ok (.ireturn, 1) := by decide +kernel
theorem d_Mod_member_0 : decode c_Mod_member 0 = .ok (.aload_n 0, 1) := by decide +kernel
theorem d_Mod_member_1 : decode c_Mod_member 1 = .ok (.iconst 0, 1) := by decide +kernel
theorem d_Mod_member_2 : decode c_Mod_member 2 = .ok (.invokevirtual 158, 3) := by decide +kernel
theorem d_Mod_member_5 : decode c_Mod_member 5 = .ok (.ifCond .ge 11, 3) := by decide +kernel
theorem d_Mod_member_8 : decode c_Mod_member 8 = .ok (.aload_n 0, 1) := by decide +kernel
theorem d_Mod_member_9 : decode c_Mod_member 9 = .ok (.aload_n 0, 1) := by decide +kernel
theorem d_Mod_member_10 : decode c_Mod_member 10 = .ok (.getfield 132, 3) := by decide +kernel
theorem d_Mod_member_13 : decode c_Mod_member 13 = .ok (.invokevirtual 165, 3) := by decide +kernel
theorem d_Mod_member_16 : decode c_Mod_member 16 = .ok (.aload_n 0, 1) := by decide +kernel
theorem d_Mod_member_17 : decode c_Mod_member 17 = .ok (.iconst 0, 1) := by decide +kernel
theorem d_Mod_member_18 : decode c_Mod_member 18 = .ok (.invokevirtual 158, 3) := by decide +kernel
theorem d_Mod_member_21 : decode c_Mod_member 21 = .ok (.bipush 92, 2) := by decide +kernel
theorem d_Mod_member_23 : decode c_Mod_member 23 = .ok (.if_icmp .ne 19, 3) := by decide +kernel
theorem d_Mod_member_26 : decode c_Mod_member 26 = .ok (.aload_n 0, 1) := by decide +kernel
theorem d_Mod_member_27 : decode c_Mod_member 27 = .ok (.dup, 1) := by decide +kernel
theorem d_Mod_member_28 : decode c_Mod_member 28 = .ok (.getfield 129, 3) := by decide +kernel
theorem d_Mod_member_31 : decode c_Mod_member 31 = .ok (.iconst 1, 1) := by decide +kernel
theorem d_Mod_member_32 : decode c_Mod_member 32 = .ok (.iadd, 1) := by decide +kernel
theorem d_Mod_member_33 : decode c_Mod_member 33 = .ok (.putfield 129, 3) := by decide +kernel
theorem d_Mod_member_36 : decode c_Mod_member 36 = .ok (.aload_n 0, 1) := by decide +kernel
theorem d_Mod_member_37 : decode c_Mod_member 37 = .ok (.iconst 1, 1) := by decide +kernel
theorem d_Mod_member_38 : decode c_Mod_member 38 = .ok (.invokevirtual 179, 3) := by decide +kernel
theorem d_Mod_member_41 : decode c_Mod_member 41 = .ok (.ireturn, 1) := by decide +kernel
theorem d_Mod_member_42 : decode c_Mod_member 42 = .ok (.aload_n 0, 1) := by decide +kernel
theorem d_Mod_member_43 : decode c_Mod_member 43 = .ok (.aload_n 0, 1) := by decide +kernel
theorem d_Mod_member_44 : decode c_Mod_member 44 = .ok (.iconst 0, 1) := by decide +kernel
theorem d_Mod_member_45 : decode c_Mod_member 45 = .ok (.invokevirtual 158, 3) := by decide +kernel
theorem d_Mod_member_48 : decode c_Mod_member 48 = .ok (.putfield 169, 3) := by decide +kernel
theorem d_Mod_member_51 : decode c_Mod_member 51 = .ok (.aload_n 0, 1) := by decide +kernel
theorem d_Mod_member_52 : decode c_Mod_member 52 = .ok (.dup, 1) := by decide +kernel
theorem d_Mod_member_53 : decode c_Mod_member 53 = .ok (.getfield 129, 3) := by decide +kernel
theorem d_Mod_member_56 : decode c_Mod_member 56 = .ok (.iconst 1, 1) := by decide +kernel
theorem d_Mod_member_57 : decode c_Mod_member 57 = .ok (.iadd, 1) := by decide +kernel
theorem d_Mod_member_58 : decode c_Mod_member 58 = .ok (.putfield 129, 3) := by decide +kernel
theorem d_Mod_member_61 : decode c_Mod_member 61 = .ok (.iconst 0, 1) := by decide +kernel
theorem d_Mod_member_62 : decode c_Mod_member 62 = .ok (.ireturn, 1) := by decide +kernel
def Mod_add_b31 (N : Nat) (x1 : Int32) (x2 : Int32) (σ : g_S) : Option (Int32 × g_S) := if gIn x1 1300 = true then some (0, (gA σ 8 (x1).toNatClampNeg x2)) else none
theorem Mod_add_p31 (ao aa : Nat → Nat) {X : g_X} (hC : gC X c_Mod_add R_Mod 0 0 3 none) (N : Nat) (x1 : Int32) (x2 : Int32) (σ : g_S) (r : Int32) (σe : g_S) (hf : Mod_add_b31 N x1 x2 σ = some (r, σe)) : gw X (.inl none) (LM ao aa X.2.2.1 σe) (LM ao aa X.2.2.1 σ) [(0, .ref (ao 0)), (1, .int x1), (2, .int x2)] 31 [] := by
  unfold Mod_add_b31 at hf
  refine gw_aload_n hC 0 d_Mod_add_31 rfl rfl ?_
  refine Mr_Mod_latest hC kf_Mod_38 d_Mod_add_32 ?_
  refine gw_iload_n hC 1 d_Mod_add_35 rfl rfl ?_
  refine gw_iload_n hC 2 d_Mod_add_36 rfl rfl ?_
  obtain ⟨hg37, hf⟩ := g_guard hf
  refine Mast (j := 8) hC (by decide) hg37 d_Mod_add_37 ?_
  cases hf
  exact gw_vret hC d_Mod_add_38
def Mod_add_b19 (N : Nat) (x1 : Int32) (x2 : Int32) (σ : g_S) : Option (Int32 × g_S) := if gIn x1 1300 = true then if gIn (σ.2 8 (x1).toNatClampNeg) 1300 = true then Mod_add_b31 N x1 x2 (gA σ 9 ((σ.2 8 (x1).toNatClampNeg)).toNatClampNeg x2) else none else none
theorem Mod_add_p19 (ao aa : Nat → Nat) {X : g_X} (hC : gC X c_Mod_add R_Mod 0 0 3 none) (N : Nat) (x1 : Int32) (x2 : Int32) (σ : g_S) (r : Int32) (σe : g_S) (hf : Mod_add_b19 N x1 x2 σ = some (r, σe)) : gw X (.inl none) (LM ao aa X.2.2.1 σe) (LM ao aa X.2.2.1 σ) [(0, .ref (ao 0)), (1, .int x1), (2, .int x2)] 19 [] := by
  unfold Mod_add_b19 at hf
  refine gw_aload_n hC 0 d_Mod_add_19 rfl rfl ?_
  refine Mr_Mod_behind hC kf_Mod_41 d_Mod_add_20 ?_
  refine gw_aload_n hC 0 d_Mod_add_23 rfl rfl ?_
  refine Mr_Mod_latest hC kf_Mod_38 d_Mod_add_24 ?_
  refine gw_iload_n hC 1 d_Mod_add_27 rfl rfl ?_
  obtain ⟨hg28, hf⟩ := g_guard hf
  refine Mald (j := 8) hC (by decide) hg28 d_Mod_add_28 (σ.2 8 (x1).toNatClampNeg) rfl ?_
  refine gw_iload_n hC 2 d_Mod_add_29 rfl rfl ?_
  obtain ⟨hg30, hf⟩ := g_guard hf
  refine Mast (j := 9) hC (by decide) hg30 d_Mod_add_30 ?_
  exact Mod_add_p31 ao aa hC N _ _ _ _ _ hf
def Mod_add_b9 (N : Nat) (x1 : Int32) (x2 : Int32) (σ : g_S) : Option (Int32 × g_S) := if gIn x1 1300 = true then Mod_add_b31 N x1 x2 (gA σ 7 (x1).toNatClampNeg x2) else none
theorem Mod_add_p9 (ao aa : Nat → Nat) {X : g_X} (hC : gC X c_Mod_add R_Mod 0 0 3 none) (N : Nat) (x1 : Int32) (x2 : Int32) (σ : g_S) (r : Int32) (σe : g_S) (hf : Mod_add_b9 N x1 x2 σ = some (r, σe)) : gw X (.inl none) (LM ao aa X.2.2.1 σe) (LM ao aa X.2.2.1 σ) [(0, .ref (ao 0)), (1, .int x1), (2, .int x2)] 9 [] := by
  unfold Mod_add_b9 at hf
  refine gw_aload_n hC 0 d_Mod_add_9 rfl rfl ?_
  refine Mr_Mod_first hC kf_Mod_35 d_Mod_add_10 ?_
  refine gw_iload_n hC 1 d_Mod_add_13 rfl rfl ?_
  refine gw_iload_n hC 2 d_Mod_add_14 rfl rfl ?_
  obtain ⟨hg15, hf⟩ := g_guard hf
  refine Mast (j := 7) hC (by decide) hg15 d_Mod_add_15 ?_
  refine gw_goto hC 31 d_Mod_add_16 (by decide) ?_
  exact Mod_add_p31 ao aa hC N _ _ _ _ _ hf
def Mod_add_b0 (N : Nat) (x1 : Int32) (x2 : Int32) (σ : g_S) : Option (Int32 × g_S) := if gIn x1 1300 = true then if 0 ≤ (σ.2 7 (x1).toNatClampNeg) then Mod_add_b19 N x1 x2 σ else Mod_add_b9 N x1 x2 σ else none
theorem Mod_add_p0 (ao aa : Nat → Nat) {X : g_X} (hC : gC X c_Mod_add R_Mod 0 0 3 none) (N : Nat) (x1 : Int32) (x2 : Int32) (σ : g_S) (r : Int32) (σe : g_S) (hf : Mod_add_b0 N x1 x2 σ = some (r, σe)) : gw X (.inl none) (LM ao aa X.2.2.1 σe) (LM ao aa X.2.2.1 σ) [(0, .ref (ao 0)), (1, .int x1), (2, .int x2)] 0 [] := by
  unfold Mod_add_b0 at hf
  refine gw_aload_n hC 0 d_Mod_add_0 rfl rfl ?_
  refine Mr_Mod_first hC kf_Mod_35 d_Mod_add_1 ?_
  refine gw_iload_n hC 1 d_Mod_add_4 rfl rfl ?_
  obtain ⟨hg5, hf⟩ := g_guard hf
  refine Mald (j := 7) hC (by decide) hg5 d_Mod_add_5 (σ.2 7 (x1).toNatClampNeg) rfl ?_
  refine gw_if_ge hC 19 d_Mod_add_6 (by decide) (fun hh => ?_) (fun hh => ?_)
  · rw [if_pos hh] at hf
    exact Mod_add_p19 ao aa hC N _ _ _ _ _ hf
  · rw [if_neg hh] at hf
    exact Mod_add_p9 ao aa hC N _ _ _ _ _ hf
def Mod_add (N : Nat) (x1 : Int32) (x2 : Int32) (σ : g_S) : Option (Int32 × g_S) := Mod_add_b0 N x1 x2 σ
theorem Mod_add_m (l : Launch) (D : va_G) (cA : ClassId) (ao aa : Nat → Nat) (N : Nat) (x1 : Int32) (x2 : Int32) (σ : g_S) (r : Int32) (σe : g_S) (hf : Mod_add N x1 x2 σ = some (r, σe)) : Mt l D cA y_Mod_add c_Mod_add 3 none 0 0 [.ref (ao 0), .int x1, .int x2] (LM ao aa cA σ) none (LM ao aa cA σe) := by
  refine g_met (by decide +kernel) (by simp [lg_sl, Value.category]) (fun X e1 e2 e3 hC => ?_)
  subst e1 e2 e3
  refine gw_lv [0, 1, 2] rfl ?_
  exact Mod_add_p0 ao aa hC N _ _ _ (r) _ hf
def Mod_newAlternative_b0 (N : Nat) (σ : g_S) : Option (Int32 × g_S) := (Mod_node N 2 0 0 0 σ).bind fun q13 => if gIn (σ.1 14) 41 = true then if gIn (q13.2.1 14) 41 = true then (Mod_add N (q13.2.2 15 ((q13.2.1 14)).toNatClampNeg) ((gA q13.2 16 ((σ.1 14)).toNatClampNeg q13.1).2 16 ((q13.2.1 14)).toNatClampNeg) (gA q13.2 16 ((σ.1 14)).toNatClampNeg q13.1)).bind fun q36 => some (0, q36.2) else none else none
theorem Mod_newAlternative_p0 (ao aa : Nat → Nat) {X : g_X} (hC : gC X c_Mod_newAlternative R_Mod 1 24 1 none) (N : Nat) (σ : g_S) (r : Int32) (σe : g_S) (hf : Mod_newAlternative_b0 N σ = some (r, σe)) : gw X (.inl none) (LM ao aa X.2.2.1 σe) (LM ao aa X.2.2.1 σ) [(0, .ref (ao 0))] 0 [] := by
  unfold Mod_newAlternative_b0 at hf
  refine gw_aload_n hC 0 d_Mod_newAlternative_0 rfl rfl ?_
  refine Mr_Mod_alternative hC kf_Mod_62 d_Mod_newAlternative_1 ?_
  refine gw_aload_n hC 0 d_Mod_newAlternative_4 rfl rfl ?_
  refine Mg14 hC kf_Mod_144 d_Mod_newAlternative_5 (σ.1 14) rfl ?_
  refine gw_aload_n hC 0 d_Mod_newAlternative_8 rfl rfl ?_
  refine gw_iconst hC 2 d_Mod_newAlternative_9 (by decide) ?_
  refine gw_iconst hC 0 d_Mod_newAlternative_10 (by decide) ?_
  refine gw_iconst hC 0 d_Mod_newAlternative_11 (by decide) ?_
  refine gw_iconst hC 0 d_Mod_newAlternative_12 (by decide) ?_
  obtain ⟨q13, hq13, hf⟩ := g_bind hf
  refine gw_callV hC [.int 2, .int 0, .int 0, .int 0] [.int (σ.1 14), .ref (aa 16)] (Mod_node_m _ _ _ ao aa N _ _ _ _ _ _ _ hq13) kc_Mod_147 0 (g_lay_obj rfl) rfl rfl ⟨by decide, by decide⟩ (Nat.le_of_ble_eq_true rfl) [.int 0, .int 0, .int 0, .int 2, .ref (ao 0), .int (σ.1 14), .ref (aa 16)] [.int q13.1, .int (σ.1 14), .ref (aa 16)] rfl rfl d_Mod_newAlternative_13 ?_
  obtain ⟨hg16, hf⟩ := g_guard hf
  refine Mast (j := 16) hC (by decide) hg16 d_Mod_newAlternative_16 ?_
  refine gw_aload_n hC 0 d_Mod_newAlternative_17 rfl rfl ?_
  refine gw_aload_n hC 0 d_Mod_newAlternative_18 rfl rfl ?_
  refine Mr_Mod_choice hC kf_Mod_59 d_Mod_newAlternative_19 ?_
  refine gw_aload_n hC 0 d_Mod_newAlternative_22 rfl rfl ?_
  refine Mg14 hC kf_Mod_144 d_Mod_newAlternative_23 (q13.2.1 14) rfl ?_
  obtain ⟨hg26, hf⟩ := g_guard hf
  refine Mald (j := 15) hC (by decide) hg26 d_Mod_newAlternative_26 (q13.2.2 15 ((q13.2.1 14)).toNatClampNeg) rfl ?_
  refine gw_aload_n hC 0 d_Mod_newAlternative_27 rfl rfl ?_
  refine Mr_Mod_alternative hC kf_Mod_62 d_Mod_newAlternative_28 ?_
  refine gw_aload_n hC 0 d_Mod_newAlternative_31 rfl rfl ?_
  refine Mg14 hC kf_Mod_144 d_Mod_newAlternative_32 (q13.2.1 14) rfl ?_
  refine Mald (j := 16) hC (by decide) hg26 d_Mod_newAlternative_35 ((gA q13.2 16 ((σ.1 14)).toNatClampNeg q13.1).2 16 ((q13.2.1 14)).toNatClampNeg) rfl ?_
  obtain ⟨q36, hq36, hf⟩ := g_bind hf
  refine gw_callV hC [.int (q13.2.2 15 ((q13.2.1 14)).toNatClampNeg), .int ((gA q13.2 16 ((σ.1 14)).toNatClampNeg q13.1).2 16 ((q13.2.1 14)).toNatClampNeg)] [] (Mod_add_m _ _ _ ao aa N _ _ _ _ _ hq36) kc_Mod_151 0 (g_lay_obj rfl) rfl rfl ⟨by decide, by decide⟩ (Nat.le_of_ble_eq_true rfl) [.int ((gA q13.2 16 ((σ.1 14)).toNatClampNeg q13.1).2 16 ((q13.2.1 14)).toNatClampNeg), .int (q13.2.2 15 ((q13.2.1 14)).toNatClampNeg), .ref (ao 0)] [] rfl rfl d_Mod_newAlternative_36 ?_
  cases hf
  exact gw_vret hC d_Mod_newAlternative_39
def Mod_newAlternative (N : Nat) (σ : g_S) : Option (Int32 × g_S) := Mod_newAlternative_b0 N  σ
theorem Mod_newAlternative_m (l : Launch) (D : va_G) (cA : ClassId) (ao aa : Nat → Nat) (N : Nat) (σ : g_S) (r : Int32) (σe : g_S) (hf : Mod_newAlternative N σ = some (r, σe)) : Mt l D cA y_Mod_newAlternative c_Mod_newAlternative 1 none 1 24 [.ref (ao 0)] (LM ao aa cA σ) none (LM ao aa cA σe) := by
  refine g_met (by decide +kernel) (by simp [lg_sl, Value.category]) (fun X e1 e2 e3 hC => ?_)
  subst e1 e2 e3
  refine gw_lv [0] rfl ?_
  exact Mod_newAlternative_p0 ao aa hC N _ (r) _ hf
def Mod_opens_b45 (N : Nat) (σ : g_S) : Option (Int32 × g_S) := (Mod_newAlternative N σ).bind fun q46 => some (0, q46.2)
theorem Mod_opens_p45 (ao aa : Nat → Nat) {X : g_X} (hC : gC X c_Mod_opens R_Mod 2 44 2 none) (N : Nat) (σ : g_S) (r : Int32) (σe : g_S) (hf : Mod_opens_b45 N σ = some (r, σe)) : gw X (.inl none) (LM ao aa X.2.2.1 σe) (LM ao aa X.2.2.1 σ) [(0, .ref (ao 0))] 45 [] := by
  unfold Mod_opens_b45 at hf
  refine gw_aload_n hC 0 d_Mod_opens_45 rfl rfl ?_
  obtain ⟨q46, hq46, hf⟩ := g_bind hf
  refine gw_callV hC [] [] (Mod_newAlternative_m _ _ _ ao aa N _ _ _ hq46) kc_Mod_155 0 (g_lay_obj rfl) rfl rfl ⟨by decide, by decide⟩ (Nat.le_of_ble_eq_true rfl) [.ref (ao 0)] [] rfl rfl d_Mod_opens_46 ?_
  cases hf
  exact gw_vret hC d_Mod_opens_49
def Mod_opens_b31 (N : Nat) (x1 : Int32) (σ : g_S) : Option (Int32 × g_S) := if gIn (σ.1 14) 41 = true then (Mod_add N x1 (σ.2 15 ((σ.1 14)).toNatClampNeg) σ).bind fun q42 => Mod_opens_b45 N q42.2 else none
theorem Mod_opens_p31 (ao aa : Nat → Nat) {X : g_X} (hC : gC X c_Mod_opens R_Mod 2 44 2 none) (N : Nat) (x1 : Int32) (σ : g_S) (r : Int32) (σe : g_S) (hf : Mod_opens_b31 N x1 σ = some (r, σe)) : gw X (.inl none) (LM ao aa X.2.2.1 σe) (LM ao aa X.2.2.1 σ) [(0, .ref (ao 0)), (1, .int x1)] 31 [] := by
  unfold Mod_opens_b31 at hf
  refine gw_aload_n hC 0 d_Mod_opens_31 rfl rfl ?_
  refine gw_iload_n hC 1 d_Mod_opens_32 rfl rfl ?_
  refine gw_aload_n hC 0 d_Mod_opens_33 rfl rfl ?_
  refine Mr_Mod_choice hC kf_Mod_59 d_Mod_opens_34 ?_
  refine gw_aload_n hC 0 d_Mod_opens_37 rfl rfl ?_
  refine Mg14 hC kf_Mod_144 d_Mod_opens_38 (σ.1 14) rfl ?_
  obtain ⟨hg41, hf⟩ := g_guard hf
  refine Mald (j := 15) hC (by decide) hg41 d_Mod_opens_41 (σ.2 15 ((σ.1 14)).toNatClampNeg) rfl ?_
  obtain ⟨q42, hq42, hf⟩ := g_bind hf
  refine gw_callV hC [.int x1, .int (σ.2 15 ((σ.1 14)).toNatClampNeg)] [] (Mod_add_m _ _ _ ao aa N _ _ _ _ _ hq42) kc_Mod_151 0 (g_lay_obj rfl) rfl rfl ⟨by decide, by decide⟩ (Nat.le_of_ble_eq_true rfl) [.int (σ.2 15 ((σ.1 14)).toNatClampNeg), .int x1, .ref (ao 0)] [] rfl rfl d_Mod_opens_42 ?_
  refine gw_lv [0] rfl ?_
  exact Mod_opens_p45 ao aa hC N _ _ _ hf
def Mod_opens_b0 (N : Nat) (x1 : Int32) (σ : g_S) : Option (Int32 × g_S) := if gIn (σ.1 14) 41 = true then (Mod_node N 1 0 0 0 (gA σ 14 ((σ.1 14)).toNatClampNeg x1)).bind fun q23 => if x1 < 0 then Mod_opens_b45 N (gA q23.2 15 ((σ.1 14)).toNatClampNeg q23.1) else Mod_opens_b31 N x1 (gA q23.2 15 ((σ.1 14)).toNatClampNeg q23.1) else none
theorem Mod_opens_p0 (ao aa : Nat → Nat) {X : g_X} (hC : gC X c_Mod_opens R_Mod 2 44 2 none) (N : Nat) (x1 : Int32) (σ : g_S) (r : Int32) (σe : g_S) (hf : Mod_opens_b0 N x1 σ = some (r, σe)) : gw X (.inl none) (LM ao aa X.2.2.1 σe) (LM ao aa X.2.2.1 σ) [(0, .ref (ao 0)), (1, .int x1)] 0 [] := by
  unfold Mod_opens_b0 at hf
  refine gw_aload_n hC 0 d_Mod_opens_0 rfl rfl ?_
  refine Mr_Mod_open hC kf_Mod_56 d_Mod_opens_1 ?_
  refine gw_aload_n hC 0 d_Mod_opens_4 rfl rfl ?_
  refine Mg14 hC kf_Mod_144 d_Mod_opens_5 (σ.1 14) rfl ?_
  refine gw_iload_n hC 1 d_Mod_opens_8 rfl rfl ?_
  obtain ⟨hg9, hf⟩ := g_guard hf
  refine Mast (j := 14) hC (by decide) hg9 d_Mod_opens_9 ?_
  refine gw_aload_n hC 0 d_Mod_opens_10 rfl rfl ?_
  refine Mr_Mod_choice hC kf_Mod_59 d_Mod_opens_11 ?_
  refine gw_aload_n hC 0 d_Mod_opens_14 rfl rfl ?_
  refine Mg14 hC kf_Mod_144 d_Mod_opens_15 (σ.1 14) rfl ?_
  refine gw_aload_n hC 0 d_Mod_opens_18 rfl rfl ?_
  refine gw_iconst hC 1 d_Mod_opens_19 (by decide) ?_
  refine gw_iconst hC 0 d_Mod_opens_20 (by decide) ?_
  refine gw_iconst hC 0 d_Mod_opens_21 (by decide) ?_
  refine gw_iconst hC 0 d_Mod_opens_22 (by decide) ?_
  obtain ⟨q23, hq23, hf⟩ := g_bind hf
  refine gw_callV hC [.int 1, .int 0, .int 0, .int 0] [.int (σ.1 14), .ref (aa 15)] (Mod_node_m _ _ _ ao aa N _ _ _ _ _ _ _ hq23) kc_Mod_147 0 (g_lay_obj rfl) rfl rfl ⟨by decide, by decide⟩ (Nat.le_of_ble_eq_true rfl) [.int 0, .int 0, .int 0, .int 1, .ref (ao 0), .int (σ.1 14), .ref (aa 15)] [.int q23.1, .int (σ.1 14), .ref (aa 15)] rfl rfl d_Mod_opens_23 ?_
  refine Mast (j := 15) hC (by decide) hg9 d_Mod_opens_26 ?_
  refine gw_iload_n hC 1 d_Mod_opens_27 rfl rfl ?_
  refine gw_if_lt hC 45 d_Mod_opens_28 (by decide) (fun hh => ?_) (fun hh => ?_)
  · rw [if_pos hh] at hf
    refine gw_lv [0] rfl ?_
    exact Mod_opens_p45 ao aa hC N _ _ _ hf
  · rw [if_neg hh] at hf
    exact Mod_opens_p31 ao aa hC N _ _ _ _ hf
def Mod_opens (N : Nat) (x1 : Int32) (σ : g_S) : Option (Int32 × g_S) := Mod_opens_b0 N x1 σ
theorem Mod_opens_m (l : Launch) (D : va_G) (cA : ClassId) (ao aa : Nat → Nat) (N : Nat) (x1 : Int32) (σ : g_S) (r : Int32) (σe : g_S) (hf : Mod_opens N x1 σ = some (r, σe)) : Mt l D cA y_Mod_opens c_Mod_opens 2 none 2 44 [.ref (ao 0), .int x1] (LM ao aa cA σ) none (LM ao aa cA σe) := by
  refine g_met (by decide +kernel) (by simp [lg_sl, Value.category]) (fun X e1 e2 e3 hC => ?_)
  subst e1 e2 e3
  refine gw_lv [0, 1] rfl ?_
  exact Mod_opens_p0 ao aa hC N _ _ (r) _ hf
def Mod_digits_b82 (N : Nat) (x3 : Int32) (σ : g_S) : Option (Int32 × g_S) := some (x3, σ)
theorem Mod_digits_p82 (ao aa : Nat → Nat) {X : g_X} (hC : gC X c_Mod_digits R_Mod 3 62 6 (some .int)) (N : Nat) (x3 : Int32) (σ : g_S) (r : Int32) (σe : g_S) (hf : Mod_digits_b82 N x3 σ = some (r, σe)) : gw X (.inl (some (.int r))) (LM ao aa X.2.2.1 σe) (LM ao aa X.2.2.1 σ) [(0, .ref (ao 0)), (3, .int x3)] 82 [] := by
  unfold Mod_digits_b82 at hf
  refine gw_iload_n hC 1 d_Mod_digits_82 rfl rfl ?_
  cases hf
  exact gw_iret hC d_Mod_digits_83
def Mod_digits_b68 (N : Nat) (k5 : Int32 → Int32 → Int32 → Int32 → g_S → Option (Int32 × g_S)) (x1 : Int32) (x2 : Int32) (x3 : Int32) (x4 : Int32) (x5 : Int32) (σ : g_S) : Option (Int32 × g_S) := k5 x1 x2 ((16 * x3) + x5) (x4 + 1) σ
theorem Mod_digits_p68 (ao aa : Nat → Nat) {X : g_X} (hC : gC X c_Mod_digits R_Mod 3 62 6 (some .int)) (N : Nat) (k5 : Int32 → Int32 → Int32 → Int32 → g_S → Option (Int32 × g_S)) (hk5 : ∀ (x1 : Int32) (x2 : Int32) (x3 : Int32) (x4 : Int32) (σ : g_S) (r : Int32) (σe : g_S), k5 x1 x2 x3 x4 σ = some (r, σe) → gw X (.inl (some (.int r))) (LM ao aa X.2.2.1 σe) (LM ao aa X.2.2.1 σ) [(0, .ref (ao 0)), (1, .int x1), (2, .int x2), (3, .int x3), (4, .int x4)] 5 []) (x1 : Int32) (x2 : Int32) (x3 : Int32) (x4 : Int32) (x5 : Int32) (σ : g_S) (r : Int32) (σe : g_S) (hf : Mod_digits_b68 N k5 x1 x2 x3 x4 x5 σ = some (r, σe)) : gw X (.inl (some (.int r))) (LM ao aa X.2.2.1 σe) (LM ao aa X.2.2.1 σ) [(0, .ref (ao 0)), (1, .int x1), (2, .int x2), (3, .int x3), (4, .int x4), (5, .int x5)] 68 [] := by
  unfold Mod_digits_b68 at hf
  refine gw_bipush hC 16 d_Mod_digits_68 (by decide) ?_
  refine gw_iload_n hC 3 d_Mod_digits_70 rfl rfl ?_
  refine gw_imul hC d_Mod_digits_71 ?_
  refine gw_iload hC 5 d_Mod_digits_72 rfl ?_
  refine gw_iadd hC d_Mod_digits_74 ?_
  refine gw_istore_n hC [(3, .int ((16 * x3) + x5)), (0, .ref (ao 0)), (1, .int x1), (2, .int x2), (4, .int x4), (5, .int x5)] d_Mod_digits_75 rfl (by decide) rfl ?_
  refine gw_iinc hC (x4 + 1) 4 [(4, .int (x4 + 1)), (3, .int ((16 * x3) + x5)), (0, .ref (ao 0)), (1, .int x1), (2, .int x2), (5, .int x5)] d_Mod_digits_76 rfl rfl (by decide) rfl ?_
  refine gw_goto hC 5 d_Mod_digits_79 (by decide) ?_
  refine gw_lv [2, 3, 4, 1, 0] rfl ?_
  exact hk5 _ _ _ _ _ _ _ hf
def Mod_digits_b65 (N : Nat) (k5 : Int32 → Int32 → Int32 → Int32 → g_S → Option (Int32 × g_S)) (x1 : Int32) (x2 : Int32) (x3 : Int32) (x4 : Int32) (x5 : Int32) (s1 : Int32) (σ : g_S) : Option (Int32 × g_S) := (Mod_fail N s1 σ).bind fun q65 => Mod_digits_b68 N k5 x1 x2 x3 x4 x5 q65.2
theorem Mod_digits_p65 (ao aa : Nat → Nat) {X : g_X} (hC : gC X c_Mod_digits R_Mod 3 62 6 (some .int)) (N : Nat) (k5 : Int32 → Int32 → Int32 → Int32 → g_S → Option (Int32 × g_S)) (hk5 : ∀ (x1 : Int32) (x2 : Int32) (x3 : Int32) (x4 : Int32) (σ : g_S) (r : Int32) (σe : g_S), k5 x1 x2 x3 x4 σ = some (r, σe) → gw X (.inl (some (.int r))) (LM ao aa X.2.2.1 σe) (LM ao aa X.2.2.1 σ) [(0, .ref (ao 0)), (1, .int x1), (2, .int x2), (3, .int x3), (4, .int x4)] 5 []) (x1 : Int32) (x2 : Int32) (x3 : Int32) (x4 : Int32) (x5 : Int32) (s1 : Int32) (σ : g_S) (r : Int32) (σe : g_S) (hf : Mod_digits_b65 N k5 x1 x2 x3 x4 x5 s1 σ = some (r, σe)) : gw X (.inl (some (.int r))) (LM ao aa X.2.2.1 σe) (LM ao aa X.2.2.1 σ) [(0, .ref (ao 0)), (1, .int x1), (2, .int x2), (3, .int x3), (4, .int x4), (5, .int x5)] 65 [.int s1, .ref (ao 0)] := by
  unfold Mod_digits_b65 at hf
  obtain ⟨q65, hq65, hf⟩ := g_bind hf
  refine gw_callV hC [.int s1] [] (Mod_fail_m _ _ _ ao aa N _ _ _ _ hq65) kc_Mod_165 0 (g_lay_obj rfl) rfl rfl ⟨by decide, by decide⟩ (Nat.le_of_ble_eq_true rfl) [.int s1, .ref (ao 0)] [] rfl rfl d_Mod_digits_65 ?_
  exact Mod_digits_p68 ao aa hC N _ hk5 _ _ _ _ _ _ _ _ hf
def Mod_digits_b61 (N : Nat) (k5 : Int32 → Int32 → Int32 → Int32 → g_S → Option (Int32 × g_S)) (x1 : Int32) (x2 : Int32) (x3 : Int32) (x4 : Int32) (x5 : Int32) (σ : g_S) : Option (Int32 × g_S) := Mod_digits_b65 N k5 x1 x2 x3 x4 x5 (σ.1 2) σ
theorem Mod_digits_p61 (ao aa : Nat → Nat) {X : g_X} (hC : gC X c_Mod_digits R_Mod 3 62 6 (some .int)) (N : Nat) (k5 : Int32 → Int32 → Int32 → Int32 → g_S → Option (Int32 × g_S)) (hk5 : ∀ (x1 : Int32) (x2 : Int32) (x3 : Int32) (x4 : Int32) (σ : g_S) (r : Int32) (σe : g_S), k5 x1 x2 x3 x4 σ = some (r, σe) → gw X (.inl (some (.int r))) (LM ao aa X.2.2.1 σe) (LM ao aa X.2.2.1 σ) [(0, .ref (ao 0)), (1, .int x1), (2, .int x2), (3, .int x3), (4, .int x4)] 5 []) (x1 : Int32) (x2 : Int32) (x3 : Int32) (x4 : Int32) (x5 : Int32) (σ : g_S) (r : Int32) (σe : g_S) (hf : Mod_digits_b61 N k5 x1 x2 x3 x4 x5 σ = some (r, σe)) : gw X (.inl (some (.int r))) (LM ao aa X.2.2.1 σe) (LM ao aa X.2.2.1 σ) [(0, .ref (ao 0)), (1, .int x1), (2, .int x2), (3, .int x3), (4, .int x4), (5, .int x5)] 61 [.ref (ao 0)] := by
  unfold Mod_digits_b61 at hf
  refine gw_aload_n hC 0 d_Mod_digits_61 rfl rfl ?_
  refine Mg2 hC kf_Mod_132 d_Mod_digits_62 (σ.1 2) rfl ?_
  exact Mod_digits_p65 ao aa hC N _ hk5 _ _ _ _ _ _ _ _ _ hf
def Mod_digits_b51 (N : Nat) (k5 : Int32 → Int32 → Int32 → Int32 → g_S → Option (Int32 × g_S)) (x1 : Int32) (x2 : Int32) (x3 : Int32) (x4 : Int32) (x5 : Int32) (σ : g_S) : Option (Int32 × g_S) := Mod_digits_b65 N k5 x1 x2 x3 x4 x5 ((σ.1 11) + x4) σ
theorem Mod_digits_p51 (ao aa : Nat → Nat) {X : g_X} (hC : gC X c_Mod_digits R_Mod 3 62 6 (some .int)) (N : Nat) (k5 : Int32 → Int32 → Int32 → Int32 → g_S → Option (Int32 × g_S)) (hk5 : ∀ (x1 : Int32) (x2 : Int32) (x3 : Int32) (x4 : Int32) (σ : g_S) (r : Int32) (σe : g_S), k5 x1 x2 x3 x4 σ = some (r, σe) → gw X (.inl (some (.int r))) (LM ao aa X.2.2.1 σe) (LM ao aa X.2.2.1 σ) [(0, .ref (ao 0)), (1, .int x1), (2, .int x2), (3, .int x3), (4, .int x4)] 5 []) (x1 : Int32) (x2 : Int32) (x3 : Int32) (x4 : Int32) (x5 : Int32) (σ : g_S) (r : Int32) (σe : g_S) (hf : Mod_digits_b51 N k5 x1 x2 x3 x4 x5 σ = some (r, σe)) : gw X (.inl (some (.int r))) (LM ao aa X.2.2.1 σe) (LM ao aa X.2.2.1 σ) [(0, .ref (ao 0)), (1, .int x1), (2, .int x2), (3, .int x3), (4, .int x4), (5, .int x5)] 51 [.ref (ao 0)] := by
  unfold Mod_digits_b51 at hf
  refine gw_aload_n hC 0 d_Mod_digits_51 rfl rfl ?_
  refine Mg11 hC kf_Mod_129 d_Mod_digits_52 (σ.1 11) rfl ?_
  refine gw_iload hC 4 d_Mod_digits_55 rfl ?_
  refine gw_iadd hC d_Mod_digits_57 ?_
  refine gw_goto hC 65 d_Mod_digits_58 (by decide) ?_
  exact Mod_digits_p65 ao aa hC N _ hk5 _ _ _ _ _ _ _ _ _ hf
def Mod_digits_b36 (N : Nat) (k5 : Int32 → Int32 → Int32 → Int32 → g_S → Option (Int32 × g_S)) (x1 : Int32) (x2 : Int32) (x3 : Int32) (x4 : Int32) (x5 : Int32) (σ : g_S) : Option (Int32 × g_S) := if (σ.1 2) ≤ ((σ.1 11) + x4) then Mod_digits_b61 N k5 x1 x2 x3 x4 x5 σ else Mod_digits_b51 N k5 x1 x2 x3 x4 x5 σ
theorem Mod_digits_p36 (ao aa : Nat → Nat) {X : g_X} (hC : gC X c_Mod_digits R_Mod 3 62 6 (some .int)) (N : Nat) (k5 : Int32 → Int32 → Int32 → Int32 → g_S → Option (Int32 × g_S)) (hk5 : ∀ (x1 : Int32) (x2 : Int32) (x3 : Int32) (x4 : Int32) (σ : g_S) (r : Int32) (σe : g_S), k5 x1 x2 x3 x4 σ = some (r, σe) → gw X (.inl (some (.int r))) (LM ao aa X.2.2.1 σe) (LM ao aa X.2.2.1 σ) [(0, .ref (ao 0)), (1, .int x1), (2, .int x2), (3, .int x3), (4, .int x4)] 5 []) (x1 : Int32) (x2 : Int32) (x3 : Int32) (x4 : Int32) (x5 : Int32) (σ : g_S) (r : Int32) (σe : g_S) (hf : Mod_digits_b36 N k5 x1 x2 x3 x4 x5 σ = some (r, σe)) : gw X (.inl (some (.int r))) (LM ao aa X.2.2.1 σe) (LM ao aa X.2.2.1 σ) [(0, .ref (ao 0)), (1, .int x1), (2, .int x2), (3, .int x3), (4, .int x4), (5, .int x5)] 36 [] := by
  unfold Mod_digits_b36 at hf
  refine gw_aload_n hC 0 d_Mod_digits_36 rfl rfl ?_
  refine gw_aload_n hC 0 d_Mod_digits_37 rfl rfl ?_
  refine Mg11 hC kf_Mod_129 d_Mod_digits_38 (σ.1 11) rfl ?_
  refine gw_iload hC 4 d_Mod_digits_41 rfl ?_
  refine gw_iadd hC d_Mod_digits_43 ?_
  refine gw_aload_n hC 0 d_Mod_digits_44 rfl rfl ?_
  refine Mg2 hC kf_Mod_132 d_Mod_digits_45 (σ.1 2) rfl ?_
  refine gw_icmp_ge hC 61 d_Mod_digits_48 (by decide) (fun hh => ?_) (fun hh => ?_)
  · rw [if_pos hh] at hf
    exact Mod_digits_p61 ao aa hC N _ hk5 _ _ _ _ _ _ _ _ hf
  · rw [if_neg hh] at hf
    exact Mod_digits_p51 ao aa hC N _ hk5 _ _ _ _ _ _ _ _ hf
def Mod_digits_b20 (N : Nat) (k5 : Int32 → Int32 → Int32 → Int32 → g_S → Option (Int32 × g_S)) (x1 : Int32) (x2 : Int32) (x3 : Int32) (x4 : Int32) (σ : g_S) : Option (Int32 × g_S) := (Mod_see N x4 σ).bind fun q23 => (Mod_sixteen N q23.1 q23.2).bind fun q26 => if 0 ≤ q26.1 then Mod_digits_b68 N k5 x1 x2 x3 x4 q26.1 q26.2 else Mod_digits_b36 N k5 x1 x2 x3 x4 q26.1 q26.2
theorem Mod_digits_p20 (ao aa : Nat → Nat) {X : g_X} (hC : gC X c_Mod_digits R_Mod 3 62 6 (some .int)) (N : Nat) (k5 : Int32 → Int32 → Int32 → Int32 → g_S → Option (Int32 × g_S)) (hk5 : ∀ (x1 : Int32) (x2 : Int32) (x3 : Int32) (x4 : Int32) (σ : g_S) (r : Int32) (σe : g_S), k5 x1 x2 x3 x4 σ = some (r, σe) → gw X (.inl (some (.int r))) (LM ao aa X.2.2.1 σe) (LM ao aa X.2.2.1 σ) [(0, .ref (ao 0)), (1, .int x1), (2, .int x2), (3, .int x3), (4, .int x4)] 5 []) (x1 : Int32) (x2 : Int32) (x3 : Int32) (x4 : Int32) (σ : g_S) (r : Int32) (σe : g_S) (hf : Mod_digits_b20 N k5 x1 x2 x3 x4 σ = some (r, σe)) : gw X (.inl (some (.int r))) (LM ao aa X.2.2.1 σe) (LM ao aa X.2.2.1 σ) [(0, .ref (ao 0)), (1, .int x1), (2, .int x2), (3, .int x3), (4, .int x4)] 20 [] := by
  unfold Mod_digits_b20 at hf
  refine gw_aload_n hC 0 d_Mod_digits_20 rfl rfl ?_
  refine gw_iload hC 4 d_Mod_digits_21 rfl ?_
  obtain ⟨q23, hq23, hf⟩ := g_bind hf
  refine gw_callV hC [.int x4] [] (Mod_see_m _ _ _ ao aa N _ _ _ _ hq23) kc_Mod_158 0 (g_lay_obj rfl) rfl rfl ⟨by decide, by decide⟩ (Nat.le_of_ble_eq_true rfl) [.int x4, .ref (ao 0)] [.int q23.1] rfl rfl d_Mod_digits_23 ?_
  obtain ⟨q26, hq26, hf⟩ := g_bind hf
  refine gw_callS hC [.int q23.1] [] (Mod_sixteen_m _ _ _ ao aa N _ _ _ _ hq26) kc_Mod_162 ⟨by decide, by decide⟩ (Nat.le_of_ble_eq_true rfl) [.int q23.1] [.int q26.1] rfl rfl d_Mod_digits_26 ?_
  refine gw_istore hC [(5, .int q26.1), (0, .ref (ao 0)), (1, .int x1), (2, .int x2), (3, .int x3), (4, .int x4)] d_Mod_digits_29 (by decide) rfl ?_
  refine gw_iload hC 0 d_Mod_digits_31 rfl ?_
  refine gw_if_ge hC 68 d_Mod_digits_33 (by decide) (fun hh => ?_) (fun hh => ?_)
  · rw [if_pos hh] at hf
    refine gw_lv [1, 2, 3, 4, 5, 0] rfl ?_
    exact Mod_digits_p68 ao aa hC N _ hk5 _ _ _ _ _ _ _ _ hf
  · rw [if_neg hh] at hf
    refine gw_lv [1, 2, 3, 4, 5, 0] rfl ?_
    exact Mod_digits_p36 ao aa hC N _ hk5 _ _ _ _ _ _ _ _ hf
def Mod_digits_b13 (N : Nat) (k5 : Int32 → Int32 → Int32 → Int32 → g_S → Option (Int32 × g_S)) (x1 : Int32) (x2 : Int32) (x3 : Int32) (x4 : Int32) (σ : g_S) : Option (Int32 × g_S) := if 0 ≤ (σ.1 12) then Mod_digits_b82 N x3 σ else Mod_digits_b20 N k5 x1 x2 x3 x4 σ
theorem Mod_digits_p13 (ao aa : Nat → Nat) {X : g_X} (hC : gC X c_Mod_digits R_Mod 3 62 6 (some .int)) (N : Nat) (k5 : Int32 → Int32 → Int32 → Int32 → g_S → Option (Int32 × g_S)) (hk5 : ∀ (x1 : Int32) (x2 : Int32) (x3 : Int32) (x4 : Int32) (σ : g_S) (r : Int32) (σe : g_S), k5 x1 x2 x3 x4 σ = some (r, σe) → gw X (.inl (some (.int r))) (LM ao aa X.2.2.1 σe) (LM ao aa X.2.2.1 σ) [(0, .ref (ao 0)), (1, .int x1), (2, .int x2), (3, .int x3), (4, .int x4)] 5 []) (x1 : Int32) (x2 : Int32) (x3 : Int32) (x4 : Int32) (σ : g_S) (r : Int32) (σe : g_S) (hf : Mod_digits_b13 N k5 x1 x2 x3 x4 σ = some (r, σe)) : gw X (.inl (some (.int r))) (LM ao aa X.2.2.1 σe) (LM ao aa X.2.2.1 σ) [(0, .ref (ao 0)), (1, .int x1), (2, .int x2), (3, .int x3), (4, .int x4)] 13 [] := by
  unfold Mod_digits_b13 at hf
  refine gw_aload_n hC 0 d_Mod_digits_13 rfl rfl ?_
  refine Mg12 hC kf_Mod_135 d_Mod_digits_14 (σ.1 12) rfl ?_
  refine gw_if_ge hC 82 d_Mod_digits_17 (by decide) (fun hh => ?_) (fun hh => ?_)
  · rw [if_pos hh] at hf
    refine gw_lv [0, 3] rfl ?_
    exact Mod_digits_p82 ao aa hC N _ _ _ _ hf
  · rw [if_neg hh] at hf
    exact Mod_digits_p20 ao aa hC N _ hk5 _ _ _ _ _ _ _ hf
def Mod_digits_b5 (N : Nat) (k5 : Int32 → Int32 → Int32 → Int32 → g_S → Option (Int32 × g_S)) (x1 : Int32) (x2 : Int32) (x3 : Int32) (x4 : Int32) (σ : g_S) : Option (Int32 × g_S) := if (x1 + x2) ≤ x4 then Mod_digits_b82 N x3 σ else Mod_digits_b13 N k5 x1 x2 x3 x4 σ
theorem Mod_digits_p5 (ao aa : Nat → Nat) {X : g_X} (hC : gC X c_Mod_digits R_Mod 3 62 6 (some .int)) (N : Nat) (k5 : Int32 → Int32 → Int32 → Int32 → g_S → Option (Int32 × g_S)) (hk5 : ∀ (x1 : Int32) (x2 : Int32) (x3 : Int32) (x4 : Int32) (σ : g_S) (r : Int32) (σe : g_S), k5 x1 x2 x3 x4 σ = some (r, σe) → gw X (.inl (some (.int r))) (LM ao aa X.2.2.1 σe) (LM ao aa X.2.2.1 σ) [(0, .ref (ao 0)), (1, .int x1), (2, .int x2), (3, .int x3), (4, .int x4)] 5 []) (x1 : Int32) (x2 : Int32) (x3 : Int32) (x4 : Int32) (σ : g_S) (r : Int32) (σe : g_S) (hf : Mod_digits_b5 N k5 x1 x2 x3 x4 σ = some (r, σe)) : gw X (.inl (some (.int r))) (LM ao aa X.2.2.1 σe) (LM ao aa X.2.2.1 σ) [(0, .ref (ao 0)), (1, .int x1), (2, .int x2), (3, .int x3), (4, .int x4)] 5 [] := by
  unfold Mod_digits_b5 at hf
  refine gw_iload hC 4 d_Mod_digits_5 rfl ?_
  refine gw_iload_n hC 1 d_Mod_digits_7 rfl rfl ?_
  refine gw_iload_n hC 2 d_Mod_digits_8 rfl rfl ?_
  refine gw_iadd hC d_Mod_digits_9 ?_
  refine gw_icmp_ge hC 82 d_Mod_digits_10 (by decide) (fun hh => ?_) (fun hh => ?_)
  · rw [if_pos hh] at hf
    refine gw_lv [0, 3] rfl ?_
    exact Mod_digits_p82 ao aa hC N _ _ _ _ hf
  · rw [if_neg hh] at hf
    exact Mod_digits_p13 ao aa hC N _ hk5 _ _ _ _ _ _ _ hf
def Mod_digits_l5 (N : Nat) : Nat → Int32 → Int32 → Int32 → Int32 → g_S → Option (Int32 × g_S)
  | 0 => fun _ _ _ _ _ => none
  | n + 1 => fun x1 x2 x3 x4 σ => Mod_digits_b5 N (Mod_digits_l5 N n) x1 x2 x3 x4 σ
theorem Mod_digits_q5 (ao aa : Nat → Nat) {X : g_X} (hC : gC X c_Mod_digits R_Mod 3 62 6 (some .int)) (N : Nat) (n : Nat) : ∀ (x1 : Int32) (x2 : Int32) (x3 : Int32) (x4 : Int32) (σ : g_S) (r : Int32) (σe : g_S), Mod_digits_l5 N n x1 x2 x3 x4 σ = some (r, σe) → gw X (.inl (some (.int r))) (LM ao aa X.2.2.1 σe) (LM ao aa X.2.2.1 σ) [(0, .ref (ao 0)), (1, .int x1), (2, .int x2), (3, .int x3), (4, .int x4)] 5 [] := by
  induction n with
  | zero => intro x1 x2 x3 x4 σ r σe hf; cases hf
  | succ n ih => intro x1 x2 x3 x4 σ r σe hf; exact Mod_digits_p5 ao aa hC N _ (fun x1 x2 x3 x4 σ r2 σ2 h2 => ih x1 x2 x3 x4 σ r2 σ2 h2) x1 x2 x3 x4 σ r σe hf
def Mod_digits_b0 (N : Nat) (x1 : Int32) (x2 : Int32) (σ : g_S) : Option (Int32 × g_S) := Mod_digits_l5 N N x1 x2 0 x1 σ
theorem Mod_digits_p0 (ao aa : Nat → Nat) {X : g_X} (hC : gC X c_Mod_digits R_Mod 3 62 6 (some .int)) (N : Nat) (x1 : Int32) (x2 : Int32) (σ : g_S) (r : Int32) (σe : g_S) (hf : Mod_digits_b0 N x1 x2 σ = some (r, σe)) : gw X (.inl (some (.int r))) (LM ao aa X.2.2.1 σe) (LM ao aa X.2.2.1 σ) [(0, .ref (ao 0)), (1, .int x1), (2, .int x2)] 0 [] := by
  unfold Mod_digits_b0 at hf
  refine gw_iconst hC 0 d_Mod_digits_0 (by decide) ?_
  refine gw_istore_n hC [(3, .int 0), (0, .ref (ao 0)), (1, .int x1), (2, .int x2)] d_Mod_digits_1 rfl (by decide) rfl ?_
  refine gw_iload_n hC 2 d_Mod_digits_2 rfl rfl ?_
  refine gw_istore hC [(4, .int x1), (3, .int 0), (0, .ref (ao 0)), (1, .int x1), (2, .int x2)] d_Mod_digits_3 (by decide) rfl ?_
  refine gw_lv [2, 3, 4, 1, 0] rfl ?_
  exact Mod_digits_q5 ao aa hC N N _ _ _ _ _ _ _ hf
def Mod_digits (N : Nat) (x1 : Int32) (x2 : Int32) (σ : g_S) : Option (Int32 × g_S) := Mod_digits_b0 N x1 x2 σ
theorem Mod_digits_m (l : Launch) (D : va_G) (cA : ClassId) (ao aa : Nat → Nat) (N : Nat) (x1 : Int32) (x2 : Int32) (σ : g_S) (r : Int32) (σe : g_S) (hf : Mod_digits N x1 x2 σ = some (r, σe)) : Mt l D cA y_Mod_digits c_Mod_digits 6 (some .int) 3 62 [.ref (ao 0), .int x1, .int x2] (LM ao aa cA σ) (some (.int r)) (LM ao aa cA σe) := by
  refine g_met (by decide +kernel) (by simp [lg_sl, Value.category]) (fun X e1 e2 e3 hC => ?_)
  subst e1 e2 e3
  refine gw_lv [0, 1, 2] rfl ?_
  exact Mod_digits_p0 ao aa hC N _ _ _ (r) _ hf
def Mod_escape_b180 (N : Nat) (σ : g_S) : Option (Int32 × g_S) := some (1, (gF σ 11 ((σ.1 11) + 1)))
theorem Mod_escape_p180 (ao aa : Nat → Nat) {X : g_X} (hC : gC X c_Mod_escape R_Mod 4 87 4 (some .int)) (N : Nat) (σ : g_S) (r : Int32) (σe : g_S) (hf : Mod_escape_b180 N σ = some (r, σe)) : gw X (.inl (some (.int r))) (LM ao aa X.2.2.1 σe) (LM ao aa X.2.2.1 σ) [(0, .ref (ao 0))] 180 [] := by
  unfold Mod_escape_b180 at hf
  refine gw_aload_n hC 0 d_Mod_escape_180 rfl rfl ?_
  refine gw_dup hC d_Mod_escape_181 rfl ?_
  refine Mg11 hC kf_Mod_129 d_Mod_escape_182 (σ.1 11) rfl ?_
  refine gw_iconst hC 1 d_Mod_escape_185 (by decide) ?_
  refine gw_iadd hC d_Mod_escape_186 ?_
  refine Mp11 hC kf_Mod_129 d_Mod_escape_187 ?_
  refine gw_iconst hC 1 d_Mod_escape_190 (by decide) ?_
  cases hf
  exact gw_iret hC d_Mod_escape_191
def Mod_escape_b240 (N : Nat) (s1 : Int32) (s2 : Int32) (σ : g_S) : Option (Int32 × g_S) := some (0, (gF σ 11 (s1 + s2)))
theorem Mod_escape_p240 (ao aa : Nat → Nat) {X : g_X} (hC : gC X c_Mod_escape R_Mod 4 87 4 (some .int)) (N : Nat) (s1 : Int32) (s2 : Int32) (σ : g_S) (r : Int32) (σe : g_S) (hf : Mod_escape_b240 N s1 s2 σ = some (r, σe)) : gw X (.inl (some (.int r))) (LM ao aa X.2.2.1 σe) (LM ao aa X.2.2.1 σ) [(0, .ref (ao 0))] 240 [.int s2, .int s1, .ref (ao 0)] := by
  unfold Mod_escape_b240 at hf
  refine gw_iadd hC d_Mod_escape_240 ?_
  refine Mp11 hC kf_Mod_129 d_Mod_escape_241 ?_
  refine gw_iconst hC 0 d_Mod_escape_244 (by decide) ?_
  cases hf
  exact gw_iret hC d_Mod_escape_245
def Mod_escape_b239 (N : Nat) (s1 : Int32) (σ : g_S) : Option (Int32 × g_S) := Mod_escape_b240 N s1 5 σ
theorem Mod_escape_p239 (ao aa : Nat → Nat) {X : g_X} (hC : gC X c_Mod_escape R_Mod 4 87 4 (some .int)) (N : Nat) (s1 : Int32) (σ : g_S) (r : Int32) (σe : g_S) (hf : Mod_escape_b239 N s1 σ = some (r, σe)) : gw X (.inl (some (.int r))) (LM ao aa X.2.2.1 σe) (LM ao aa X.2.2.1 σ) [(0, .ref (ao 0))] 239 [.int s1, .ref (ao 0)] := by
  unfold Mod_escape_b239 at hf
  refine gw_iconst hC 5 d_Mod_escape_239 (by decide) ?_
  exact Mod_escape_p240 ao aa hC N _ _ _ _ _ hf
def Mod_escape_b235 (N : Nat) (s1 : Int32) (σ : g_S) : Option (Int32 × g_S) := Mod_escape_b240 N s1 3 σ
theorem Mod_escape_p235 (ao aa : Nat → Nat) {X : g_X} (hC : gC X c_Mod_escape R_Mod 4 87 4 (some .int)) (N : Nat) (s1 : Int32) (σ : g_S) (r : Int32) (σe : g_S) (hf : Mod_escape_b235 N s1 σ = some (r, σe)) : gw X (.inl (some (.int r))) (LM ao aa X.2.2.1 σe) (LM ao aa X.2.2.1 σ) [(0, .ref (ao 0))] 235 [.int s1, .ref (ao 0)] := by
  unfold Mod_escape_b235 at hf
  refine gw_iconst hC 3 d_Mod_escape_235 (by decide) ?_
  refine gw_goto hC 240 d_Mod_escape_236 (by decide) ?_
  exact Mod_escape_p240 ao aa hC N _ _ _ _ _ hf
def Mod_escape_b218 (N : Nat) (x2 : Int32) (s2 : Int32) (s3 : Int32) (σ : g_S) : Option (Int32 × g_S) := (Mod_digits N s2 s3 σ).bind fun q218 => if x2 = 120 then Mod_escape_b235 N (q218.2.1 11) (gF q218.2 13 q218.1) else Mod_escape_b239 N (q218.2.1 11) (gF q218.2 13 q218.1)
theorem Mod_escape_p218 (ao aa : Nat → Nat) {X : g_X} (hC : gC X c_Mod_escape R_Mod 4 87 4 (some .int)) (N : Nat) (x2 : Int32) (s2 : Int32) (s3 : Int32) (σ : g_S) (r : Int32) (σe : g_S) (hf : Mod_escape_b218 N x2 s2 s3 σ = some (r, σe)) : gw X (.inl (some (.int r))) (LM ao aa X.2.2.1 σe) (LM ao aa X.2.2.1 σ) [(0, .ref (ao 0)), (2, .int x2)] 218 [.int s3, .int s2, .ref (ao 0), .ref (ao 0)] := by
  unfold Mod_escape_b218 at hf
  obtain ⟨q218, hq218, hf⟩ := g_bind hf
  refine gw_callV hC [.int s2, .int s3] [.ref (ao 0)] (Mod_digits_m _ _ _ ao aa N _ _ _ _ _ hq218) kc_Mod_172 0 (g_lay_obj rfl) rfl rfl ⟨by decide, by decide⟩ (Nat.le_of_ble_eq_true rfl) [.int s3, .int s2, .ref (ao 0), .ref (ao 0)] [.int q218.1, .ref (ao 0)] rfl rfl d_Mod_escape_218 ?_
  refine Mp13 hC kf_Mod_169 d_Mod_escape_221 ?_
  refine gw_aload_n hC 0 d_Mod_escape_224 rfl rfl ?_
  refine gw_aload_n hC 0 d_Mod_escape_225 rfl rfl ?_
  refine Mg11 hC kf_Mod_129 d_Mod_escape_226 (q218.2.1 11) rfl ?_
  refine gw_iload_n hC 1 d_Mod_escape_229 rfl rfl ?_
  refine gw_bipush hC 120 d_Mod_escape_230 (by decide) ?_
  refine gw_icmp_ne hC 239 d_Mod_escape_232 (by decide) (fun hh => ?_) (fun hh => ?_)
  · rw [if_neg hh] at hf
    refine gw_lv [0] rfl ?_
    exact Mod_escape_p239 ao aa hC N _ _ _ _ hf
  · rw [if_pos hh] at hf
    refine gw_lv [0] rfl ?_
    exact Mod_escape_p235 ao aa hC N _ _ _ _ hf
def Mod_escape_b217 (N : Nat) (x2 : Int32) (s2 : Int32) (σ : g_S) : Option (Int32 × g_S) := Mod_escape_b218 N x2 s2 4 σ
theorem Mod_escape_p217 (ao aa : Nat → Nat) {X : g_X} (hC : gC X c_Mod_escape R_Mod 4 87 4 (some .int)) (N : Nat) (x2 : Int32) (s2 : Int32) (σ : g_S) (r : Int32) (σe : g_S) (hf : Mod_escape_b217 N x2 s2 σ = some (r, σe)) : gw X (.inl (some (.int r))) (LM ao aa X.2.2.1 σe) (LM ao aa X.2.2.1 σ) [(0, .ref (ao 0)), (2, .int x2)] 217 [.int s2, .ref (ao 0), .ref (ao 0)] := by
  unfold Mod_escape_b217 at hf
  refine gw_iconst hC 4 d_Mod_escape_217 (by decide) ?_
  exact Mod_escape_p218 ao aa hC N _ _ _ _ _ _ hf
def Mod_escape_b213 (N : Nat) (x2 : Int32) (s2 : Int32) (σ : g_S) : Option (Int32 × g_S) := Mod_escape_b218 N x2 s2 2 σ
theorem Mod_escape_p213 (ao aa : Nat → Nat) {X : g_X} (hC : gC X c_Mod_escape R_Mod 4 87 4 (some .int)) (N : Nat) (x2 : Int32) (s2 : Int32) (σ : g_S) (r : Int32) (σe : g_S) (hf : Mod_escape_b213 N x2 s2 σ = some (r, σe)) : gw X (.inl (some (.int r))) (LM ao aa X.2.2.1 σe) (LM ao aa X.2.2.1 σ) [(0, .ref (ao 0)), (2, .int x2)] 213 [.int s2, .ref (ao 0), .ref (ao 0)] := by
  unfold Mod_escape_b213 at hf
  refine gw_iconst hC 2 d_Mod_escape_213 (by decide) ?_
  refine gw_goto hC 218 d_Mod_escape_214 (by decide) ?_
  exact Mod_escape_p218 ao aa hC N _ _ _ _ _ _ hf
def Mod_escape_b204 (N : Nat) (x2 : Int32) (σ : g_S) : Option (Int32 × g_S) := if x2 = 120 then Mod_escape_b213 N x2 1 σ else Mod_escape_b217 N x2 1 σ
theorem Mod_escape_p204 (ao aa : Nat → Nat) {X : g_X} (hC : gC X c_Mod_escape R_Mod 4 87 4 (some .int)) (N : Nat) (x2 : Int32) (σ : g_S) (r : Int32) (σe : g_S) (hf : Mod_escape_b204 N x2 σ = some (r, σe)) : gw X (.inl (some (.int r))) (LM ao aa X.2.2.1 σe) (LM ao aa X.2.2.1 σ) [(0, .ref (ao 0)), (2, .int x2)] 204 [] := by
  unfold Mod_escape_b204 at hf
  refine gw_aload_n hC 0 d_Mod_escape_204 rfl rfl ?_
  refine gw_aload_n hC 0 d_Mod_escape_205 rfl rfl ?_
  refine gw_iconst hC 1 d_Mod_escape_206 (by decide) ?_
  refine gw_iload_n hC 1 d_Mod_escape_207 rfl rfl ?_
  refine gw_bipush hC 120 d_Mod_escape_208 (by decide) ?_
  refine gw_icmp_ne hC 217 d_Mod_escape_210 (by decide) (fun hh => ?_) (fun hh => ?_)
  · rw [if_neg hh] at hf
    exact Mod_escape_p217 ao aa hC N _ _ _ _ _ hf
  · rw [if_pos hh] at hf
    exact Mod_escape_p213 ao aa hC N _ _ _ _ _ hf
def Mod_escape_b470 (N : Nat) (σ : g_S) : Option (Int32 × g_S) := some (0, σ)
theorem Mod_escape_p470 (ao aa : Nat → Nat) {X : g_X} (hC : gC X c_Mod_escape R_Mod 4 87 4 (some .int)) (N : Nat) (σ : g_S) (r : Int32) (σe : g_S) (hf : Mod_escape_b470 N σ = some (r, σe)) : gw X (.inl (some (.int r))) (LM ao aa X.2.2.1 σe) (LM ao aa X.2.2.1 σ) [(0, .ref (ao 0))] 470 [] := by
  unfold Mod_escape_b470 at hf
  refine gw_iconst hC 0 d_Mod_escape_470 (by decide) ?_
  cases hf
  exact gw_iret hC d_Mod_escape_471
def Mod_escape_b460 (N : Nat) (σ : g_S) : Option (Int32 × g_S) := (Mod_fail N ((σ.1 11) - 1) σ).bind fun q467 => Mod_escape_b470 N q467.2
theorem Mod_escape_p460 (ao aa : Nat → Nat) {X : g_X} (hC : gC X c_Mod_escape R_Mod 4 87 4 (some .int)) (N : Nat) (σ : g_S) (r : Int32) (σe : g_S) (hf : Mod_escape_b460 N σ = some (r, σe)) : gw X (.inl (some (.int r))) (LM ao aa X.2.2.1 σe) (LM ao aa X.2.2.1 σ) [(0, .ref (ao 0))] 460 [] := by
  unfold Mod_escape_b460 at hf
  refine gw_aload_n hC 0 d_Mod_escape_460 rfl rfl ?_
  refine gw_aload_n hC 0 d_Mod_escape_461 rfl rfl ?_
  refine Mg11 hC kf_Mod_129 d_Mod_escape_462 (σ.1 11) rfl ?_
  refine gw_iconst hC 1 d_Mod_escape_465 (by decide) ?_
  refine gw_isub hC d_Mod_escape_466 ?_
  obtain ⟨q467, hq467, hf⟩ := g_bind hf
  refine gw_callV hC [.int ((σ.1 11) - 1)] [] (Mod_fail_m _ _ _ ao aa N _ _ _ _ hq467) kc_Mod_165 0 (g_lay_obj rfl) rfl rfl ⟨by decide, by decide⟩ (Nat.le_of_ble_eq_true rfl) [.int ((σ.1 11) - 1), .ref (ao 0)] [] rfl rfl d_Mod_escape_467 ?_
  exact Mod_escape_p470 ao aa hC N _ _ _ hf
def Mod_escape_b453 (N : Nat) (x2 : Int32) (σ : g_S) : Option (Int32 × g_S) := if x2 ≤ 255 then Mod_escape_b470 N σ else Mod_escape_b460 N σ
theorem Mod_escape_p453 (ao aa : Nat → Nat) {X : g_X} (hC : gC X c_Mod_escape R_Mod 4 87 4 (some .int)) (N : Nat) (x2 : Int32) (σ : g_S) (r : Int32) (σe : g_S) (hf : Mod_escape_b453 N x2 σ = some (r, σe)) : gw X (.inl (some (.int r))) (LM ao aa X.2.2.1 σe) (LM ao aa X.2.2.1 σ) [(0, .ref (ao 0)), (2, .int x2)] 453 [] := by
  unfold Mod_escape_b453 at hf
  refine gw_iload_n hC 1 d_Mod_escape_453 rfl rfl ?_
  refine gw_sipush hC 255 d_Mod_escape_454 (by decide) ?_
  refine gw_icmp_le hC 470 d_Mod_escape_457 (by decide) (fun hh => ?_) (fun hh => ?_)
  · rw [if_pos hh] at hf
    refine gw_lv [0] rfl ?_
    exact Mod_escape_p470 ao aa hC N _ _ _ hf
  · rw [if_neg hh] at hf
    refine gw_lv [0] rfl ?_
    exact Mod_escape_p460 ao aa hC N _ _ _ hf
def Mod_escape_b446 (N : Nat) (x2 : Int32) (σ : g_S) : Option (Int32 × g_S) := (Mod_isNamed N x2 σ).bind fun q447 => if q447.1 = 0 then Mod_escape_b453 N x2 q447.2 else Mod_escape_b460 N q447.2
theorem Mod_escape_p446 (ao aa : Nat → Nat) {X : g_X} (hC : gC X c_Mod_escape R_Mod 4 87 4 (some .int)) (N : Nat) (x2 : Int32) (σ : g_S) (r : Int32) (σe : g_S) (hf : Mod_escape_b446 N x2 σ = some (r, σe)) : gw X (.inl (some (.int r))) (LM ao aa X.2.2.1 σe) (LM ao aa X.2.2.1 σ) [(0, .ref (ao 0)), (2, .int x2)] 446 [] := by
  unfold Mod_escape_b446 at hf
  refine gw_iload_n hC 1 d_Mod_escape_446 rfl rfl ?_
  obtain ⟨q447, hq447, hf⟩ := g_bind hf
  refine gw_callS hC [.int x2] [] (Mod_isNamed_m _ _ _ ao aa N _ _ _ _ hq447) kc_Mod_176 ⟨by decide, by decide⟩ (Nat.le_of_ble_eq_true rfl) [.int x2] [.int q447.1] rfl rfl d_Mod_escape_447 ?_
  refine gw_if_ne hC 460 d_Mod_escape_450 (by decide) (fun hh => ?_) (fun hh => ?_)
  · rw [if_neg hh] at hf
    refine gw_lv [0] rfl ?_
    exact Mod_escape_p460 ao aa hC N _ _ _ hf
  · rw [if_pos hh] at hf
    exact Mod_escape_p453 ao aa hC N _ _ _ _ hf
def Mod_escape_b442 (N : Nat) (x2 : Int32) (x3 : Int32) (σ : g_S) : Option (Int32 × g_S) := if x3 = 0 then Mod_escape_b446 N x2 σ else Mod_escape_b470 N σ
theorem Mod_escape_p442 (ao aa : Nat → Nat) {X : g_X} (hC : gC X c_Mod_escape R_Mod 4 87 4 (some .int)) (N : Nat) (x2 : Int32) (x3 : Int32) (σ : g_S) (r : Int32) (σe : g_S) (hf : Mod_escape_b442 N x2 x3 σ = some (r, σe)) : gw X (.inl (some (.int r))) (LM ao aa X.2.2.1 σe) (LM ao aa X.2.2.1 σ) [(0, .ref (ao 0)), (2, .int x2), (3, .int x3)] 442 [] := by
  unfold Mod_escape_b442 at hf
  refine gw_iload_n hC 2 d_Mod_escape_442 rfl rfl ?_
  refine gw_if_ne hC 470 d_Mod_escape_443 (by decide) (fun hh => ?_) (fun hh => ?_)
  · rw [if_neg hh] at hf
    refine gw_lv [0] rfl ?_
    exact Mod_escape_p470 ao aa hC N _ _ _ hf
  · rw [if_pos hh] at hf
    refine gw_lv [0, 1] rfl ?_
    exact Mod_escape_p446 ao aa hC N _ _ _ _ hf
def Mod_escape_b433 (N : Nat) (σ : g_S) : Option (Int32 × g_S) := Mod_escape_b470 N (gF σ 13 8)
theorem Mod_escape_p433 (ao aa : Nat → Nat) {X : g_X} (hC : gC X c_Mod_escape R_Mod 4 87 4 (some .int)) (N : Nat) (σ : g_S) (r : Int32) (σe : g_S) (hf : Mod_escape_b433 N σ = some (r, σe)) : gw X (.inl (some (.int r))) (LM ao aa X.2.2.1 σe) (LM ao aa X.2.2.1 σ) [(0, .ref (ao 0))] 433 [] := by
  unfold Mod_escape_b433 at hf
  refine gw_aload_n hC 0 d_Mod_escape_433 rfl rfl ?_
  refine gw_bipush hC 8 d_Mod_escape_434 (by decide) ?_
  refine Mp13 hC kf_Mod_169 d_Mod_escape_436 ?_
  refine gw_goto hC 470 d_Mod_escape_439 (by decide) ?_
  exact Mod_escape_p470 ao aa hC N _ _ _ hf
def Mod_escape_b427 (N : Nat) (x2 : Int32) (x3 : Int32) (σ : g_S) : Option (Int32 × g_S) := if x2 = 98 then Mod_escape_b433 N σ else Mod_escape_b442 N x2 x3 σ
theorem Mod_escape_p427 (ao aa : Nat → Nat) {X : g_X} (hC : gC X c_Mod_escape R_Mod 4 87 4 (some .int)) (N : Nat) (x2 : Int32) (x3 : Int32) (σ : g_S) (r : Int32) (σe : g_S) (hf : Mod_escape_b427 N x2 x3 σ = some (r, σe)) : gw X (.inl (some (.int r))) (LM ao aa X.2.2.1 σe) (LM ao aa X.2.2.1 σ) [(0, .ref (ao 0)), (2, .int x2), (3, .int x3)] 427 [] := by
  unfold Mod_escape_b427 at hf
  refine gw_iload_n hC 1 d_Mod_escape_427 rfl rfl ?_
  refine gw_bipush hC 98 d_Mod_escape_428 (by decide) ?_
  refine gw_icmp_ne hC 442 d_Mod_escape_430 (by decide) (fun hh => ?_) (fun hh => ?_)
  · rw [if_neg hh] at hf
    exact Mod_escape_p442 ao aa hC N _ _ _ _ _ hf
  · rw [if_pos hh] at hf
    refine gw_lv [0] rfl ?_
    exact Mod_escape_p433 ao aa hC N _ _ _ hf
def Mod_escape_b420 (N : Nat) (x1 : Int32) (x2 : Int32) (x3 : Int32) (s1 : Int32) (σ : g_S) : Option (Int32 × g_S) := if x1 = 0 then Mod_escape_b442 N x2 x3 (gF σ 13 s1) else Mod_escape_b427 N x2 x3 (gF σ 13 s1)
theorem Mod_escape_p420 (ao aa : Nat → Nat) {X : g_X} (hC : gC X c_Mod_escape R_Mod 4 87 4 (some .int)) (N : Nat) (x1 : Int32) (x2 : Int32) (x3 : Int32) (s1 : Int32) (σ : g_S) (r : Int32) (σe : g_S) (hf : Mod_escape_b420 N x1 x2 x3 s1 σ = some (r, σe)) : gw X (.inl (some (.int r))) (LM ao aa X.2.2.1 σe) (LM ao aa X.2.2.1 σ) [(0, .ref (ao 0)), (1, .int x1), (2, .int x2), (3, .int x3)] 420 [.int s1, .ref (ao 0)] := by
  unfold Mod_escape_b420 at hf
  refine Mp13 hC kf_Mod_169 d_Mod_escape_420 ?_
  refine gw_iload_n hC 1 d_Mod_escape_423 rfl rfl ?_
  refine gw_if_eq hC 442 d_Mod_escape_424 (by decide) (fun hh => ?_) (fun hh => ?_)
  · rw [if_pos hh] at hf
    refine gw_lv [0, 2, 3] rfl ?_
    exact Mod_escape_p442 ao aa hC N _ _ _ _ _ hf
  · rw [if_neg hh] at hf
    refine gw_lv [0, 2, 3] rfl ?_
    exact Mod_escape_p427 ao aa hC N _ _ _ _ _ hf
def Mod_escape_b419 (N : Nat) (x1 : Int32) (x2 : Int32) (x3 : Int32) (σ : g_S) : Option (Int32 × g_S) := Mod_escape_b420 N x1 x2 x3 x2 σ
theorem Mod_escape_p419 (ao aa : Nat → Nat) {X : g_X} (hC : gC X c_Mod_escape R_Mod 4 87 4 (some .int)) (N : Nat) (x1 : Int32) (x2 : Int32) (x3 : Int32) (σ : g_S) (r : Int32) (σe : g_S) (hf : Mod_escape_b419 N x1 x2 x3 σ = some (r, σe)) : gw X (.inl (some (.int r))) (LM ao aa X.2.2.1 σe) (LM ao aa X.2.2.1 σ) [(0, .ref (ao 0)), (1, .int x1), (2, .int x2), (3, .int x3)] 419 [.ref (ao 0)] := by
  unfold Mod_escape_b419 at hf
  refine gw_iload_n hC 2 d_Mod_escape_419 rfl rfl ?_
  exact Mod_escape_p420 ao aa hC N _ _ _ _ _ _ _ hf
def Mod_escape_b414 (N : Nat) (x1 : Int32) (x2 : Int32) (x3 : Int32) (σ : g_S) : Option (Int32 × g_S) := Mod_escape_b420 N x1 x2 x3 13 σ
theorem Mod_escape_p414 (ao aa : Nat → Nat) {X : g_X} (hC : gC X c_Mod_escape R_Mod 4 87 4 (some .int)) (N : Nat) (x1 : Int32) (x2 : Int32) (x3 : Int32) (σ : g_S) (r : Int32) (σe : g_S) (hf : Mod_escape_b414 N x1 x2 x3 σ = some (r, σe)) : gw X (.inl (some (.int r))) (LM ao aa X.2.2.1 σe) (LM ao aa X.2.2.1 σ) [(0, .ref (ao 0)), (1, .int x1), (2, .int x2), (3, .int x3)] 414 [.ref (ao 0)] := by
  unfold Mod_escape_b414 at hf
  refine gw_bipush hC 13 d_Mod_escape_414 (by decide) ?_
  refine gw_goto hC 420 d_Mod_escape_416 (by decide) ?_
  exact Mod_escape_p420 ao aa hC N _ _ _ _ _ _ _ hf
def Mod_escape_b408 (N : Nat) (x1 : Int32) (x2 : Int32) (x3 : Int32) (σ : g_S) : Option (Int32 × g_S) := if x2 = 114 then Mod_escape_b414 N x1 x2 x3 σ else Mod_escape_b419 N x1 x2 x3 σ
theorem Mod_escape_p408 (ao aa : Nat → Nat) {X : g_X} (hC : gC X c_Mod_escape R_Mod 4 87 4 (some .int)) (N : Nat) (x1 : Int32) (x2 : Int32) (x3 : Int32) (σ : g_S) (r : Int32) (σe : g_S) (hf : Mod_escape_b408 N x1 x2 x3 σ = some (r, σe)) : gw X (.inl (some (.int r))) (LM ao aa X.2.2.1 σe) (LM ao aa X.2.2.1 σ) [(0, .ref (ao 0)), (1, .int x1), (2, .int x2), (3, .int x3)] 408 [.ref (ao 0)] := by
  unfold Mod_escape_b408 at hf
  refine gw_iload_n hC 2 d_Mod_escape_408 rfl rfl ?_
  refine gw_bipush hC 114 d_Mod_escape_409 (by decide) ?_
  refine gw_icmp_ne hC 419 d_Mod_escape_411 (by decide) (fun hh => ?_) (fun hh => ?_)
  · rw [if_neg hh] at hf
    exact Mod_escape_p419 ao aa hC N _ _ _ _ _ _ hf
  · rw [if_pos hh] at hf
    exact Mod_escape_p414 ao aa hC N _ _ _ _ _ _ hf
def Mod_escape_b403 (N : Nat) (x1 : Int32) (x2 : Int32) (x3 : Int32) (σ : g_S) : Option (Int32 × g_S) := Mod_escape_b420 N x1 x2 x3 12 σ
theorem Mod_escape_p403 (ao aa : Nat → Nat) {X : g_X} (hC : gC X c_Mod_escape R_Mod 4 87 4 (some .int)) (N : Nat) (x1 : Int32) (x2 : Int32) (x3 : Int32) (σ : g_S) (r : Int32) (σe : g_S) (hf : Mod_escape_b403 N x1 x2 x3 σ = some (r, σe)) : gw X (.inl (some (.int r))) (LM ao aa X.2.2.1 σe) (LM ao aa X.2.2.1 σ) [(0, .ref (ao 0)), (1, .int x1), (2, .int x2), (3, .int x3)] 403 [.ref (ao 0)] := by
  unfold Mod_escape_b403 at hf
  refine gw_bipush hC 12 d_Mod_escape_403 (by decide) ?_
  refine gw_goto hC 420 d_Mod_escape_405 (by decide) ?_
  exact Mod_escape_p420 ao aa hC N _ _ _ _ _ _ _ hf
def Mod_escape_b397 (N : Nat) (x1 : Int32) (x2 : Int32) (x3 : Int32) (σ : g_S) : Option (Int32 × g_S) := if x2 = 102 then Mod_escape_b403 N x1 x2 x3 σ else Mod_escape_b408 N x1 x2 x3 σ
theorem Mod_escape_p397 (ao aa : Nat → Nat) {X : g_X} (hC : gC X c_Mod_escape R_Mod 4 87 4 (some .int)) (N : Nat) (x1 : Int32) (x2 : Int32) (x3 : Int32) (σ : g_S) (r : Int32) (σe : g_S) (hf : Mod_escape_b397 N x1 x2 x3 σ = some (r, σe)) : gw X (.inl (some (.int r))) (LM ao aa X.2.2.1 σe) (LM ao aa X.2.2.1 σ) [(0, .ref (ao 0)), (1, .int x1), (2, .int x2), (3, .int x3)] 397 [.ref (ao 0)] := by
  unfold Mod_escape_b397 at hf
  refine gw_iload_n hC 2 d_Mod_escape_397 rfl rfl ?_
  refine gw_bipush hC 102 d_Mod_escape_398 (by decide) ?_
  refine gw_icmp_ne hC 408 d_Mod_escape_400 (by decide) (fun hh => ?_) (fun hh => ?_)
  · rw [if_neg hh] at hf
    exact Mod_escape_p408 ao aa hC N _ _ _ _ _ _ hf
  · rw [if_pos hh] at hf
    exact Mod_escape_p403 ao aa hC N _ _ _ _ _ _ hf
def Mod_escape_b392 (N : Nat) (x1 : Int32) (x2 : Int32) (x3 : Int32) (σ : g_S) : Option (Int32 × g_S) := Mod_escape_b420 N x1 x2 x3 11 σ
theorem Mod_escape_p392 (ao aa : Nat → Nat) {X : g_X} (hC : gC X c_Mod_escape R_Mod 4 87 4 (some .int)) (N : Nat) (x1 : Int32) (x2 : Int32) (x3 : Int32) (σ : g_S) (r : Int32) (σe : g_S) (hf : Mod_escape_b392 N x1 x2 x3 σ = some (r, σe)) : gw X (.inl (some (.int r))) (LM ao aa X.2.2.1 σe) (LM ao aa X.2.2.1 σ) [(0, .ref (ao 0)), (1, .int x1), (2, .int x2), (3, .int x3)] 392 [.ref (ao 0)] := by
  unfold Mod_escape_b392 at hf
  refine gw_bipush hC 11 d_Mod_escape_392 (by decide) ?_
  refine gw_goto hC 420 d_Mod_escape_394 (by decide) ?_
  exact Mod_escape_p420 ao aa hC N _ _ _ _ _ _ _ hf
def Mod_escape_b386 (N : Nat) (x1 : Int32) (x2 : Int32) (x3 : Int32) (σ : g_S) : Option (Int32 × g_S) := if x2 = 118 then Mod_escape_b392 N x1 x2 x3 σ else Mod_escape_b397 N x1 x2 x3 σ
theorem Mod_escape_p386 (ao aa : Nat → Nat) {X : g_X} (hC : gC X c_Mod_escape R_Mod 4 87 4 (some .int)) (N : Nat) (x1 : Int32) (x2 : Int32) (x3 : Int32) (σ : g_S) (r : Int32) (σe : g_S) (hf : Mod_escape_b386 N x1 x2 x3 σ = some (r, σe)) : gw X (.inl (some (.int r))) (LM ao aa X.2.2.1 σe) (LM ao aa X.2.2.1 σ) [(0, .ref (ao 0)), (1, .int x1), (2, .int x2), (3, .int x3)] 386 [.ref (ao 0)] := by
  unfold Mod_escape_b386 at hf
  refine gw_iload_n hC 2 d_Mod_escape_386 rfl rfl ?_
  refine gw_bipush hC 118 d_Mod_escape_387 (by decide) ?_
  refine gw_icmp_ne hC 397 d_Mod_escape_389 (by decide) (fun hh => ?_) (fun hh => ?_)
  · rw [if_neg hh] at hf
    exact Mod_escape_p397 ao aa hC N _ _ _ _ _ _ hf
  · rw [if_pos hh] at hf
    exact Mod_escape_p392 ao aa hC N _ _ _ _ _ _ hf
def Mod_escape_b381 (N : Nat) (x1 : Int32) (x2 : Int32) (x3 : Int32) (σ : g_S) : Option (Int32 × g_S) := Mod_escape_b420 N x1 x2 x3 10 σ
theorem Mod_escape_p381 (ao aa : Nat → Nat) {X : g_X} (hC : gC X c_Mod_escape R_Mod 4 87 4 (some .int)) (N : Nat) (x1 : Int32) (x2 : Int32) (x3 : Int32) (σ : g_S) (r : Int32) (σe : g_S) (hf : Mod_escape_b381 N x1 x2 x3 σ = some (r, σe)) : gw X (.inl (some (.int r))) (LM ao aa X.2.2.1 σe) (LM ao aa X.2.2.1 σ) [(0, .ref (ao 0)), (1, .int x1), (2, .int x2), (3, .int x3)] 381 [.ref (ao 0)] := by
  unfold Mod_escape_b381 at hf
  refine gw_bipush hC 10 d_Mod_escape_381 (by decide) ?_
  refine gw_goto hC 420 d_Mod_escape_383 (by decide) ?_
  exact Mod_escape_p420 ao aa hC N _ _ _ _ _ _ _ hf
def Mod_escape_b375 (N : Nat) (x1 : Int32) (x2 : Int32) (x3 : Int32) (σ : g_S) : Option (Int32 × g_S) := if x2 = 110 then Mod_escape_b381 N x1 x2 x3 σ else Mod_escape_b386 N x1 x2 x3 σ
theorem Mod_escape_p375 (ao aa : Nat → Nat) {X : g_X} (hC : gC X c_Mod_escape R_Mod 4 87 4 (some .int)) (N : Nat) (x1 : Int32) (x2 : Int32) (x3 : Int32) (σ : g_S) (r : Int32) (σe : g_S) (hf : Mod_escape_b375 N x1 x2 x3 σ = some (r, σe)) : gw X (.inl (some (.int r))) (LM ao aa X.2.2.1 σe) (LM ao aa X.2.2.1 σ) [(0, .ref (ao 0)), (1, .int x1), (2, .int x2), (3, .int x3)] 375 [.ref (ao 0)] := by
  unfold Mod_escape_b375 at hf
  refine gw_iload_n hC 2 d_Mod_escape_375 rfl rfl ?_
  refine gw_bipush hC 110 d_Mod_escape_376 (by decide) ?_
  refine gw_icmp_ne hC 386 d_Mod_escape_378 (by decide) (fun hh => ?_) (fun hh => ?_)
  · rw [if_neg hh] at hf
    exact Mod_escape_p386 ao aa hC N _ _ _ _ _ _ hf
  · rw [if_pos hh] at hf
    exact Mod_escape_p381 ao aa hC N _ _ _ _ _ _ hf
def Mod_escape_b370 (N : Nat) (x1 : Int32) (x2 : Int32) (x3 : Int32) (σ : g_S) : Option (Int32 × g_S) := Mod_escape_b420 N x1 x2 x3 9 σ
theorem Mod_escape_p370 (ao aa : Nat → Nat) {X : g_X} (hC : gC X c_Mod_escape R_Mod 4 87 4 (some .int)) (N : Nat) (x1 : Int32) (x2 : Int32) (x3 : Int32) (σ : g_S) (r : Int32) (σe : g_S) (hf : Mod_escape_b370 N x1 x2 x3 σ = some (r, σe)) : gw X (.inl (some (.int r))) (LM ao aa X.2.2.1 σe) (LM ao aa X.2.2.1 σ) [(0, .ref (ao 0)), (1, .int x1), (2, .int x2), (3, .int x3)] 370 [.ref (ao 0)] := by
  unfold Mod_escape_b370 at hf
  refine gw_bipush hC 9 d_Mod_escape_370 (by decide) ?_
  refine gw_goto hC 420 d_Mod_escape_372 (by decide) ?_
  exact Mod_escape_p420 ao aa hC N _ _ _ _ _ _ _ hf
def Mod_escape_b362 (N : Nat) (x1 : Int32) (x2 : Int32) (s0 : Int32) (σ : g_S) : Option (Int32 × g_S) := if x2 = 116 then Mod_escape_b370 N x1 x2 s0 σ else Mod_escape_b375 N x1 x2 s0 σ
theorem Mod_escape_p362 (ao aa : Nat → Nat) {X : g_X} (hC : gC X c_Mod_escape R_Mod 4 87 4 (some .int)) (N : Nat) (x1 : Int32) (x2 : Int32) (s0 : Int32) (σ : g_S) (r : Int32) (σe : g_S) (hf : Mod_escape_b362 N x1 x2 s0 σ = some (r, σe)) : gw X (.inl (some (.int r))) (LM ao aa X.2.2.1 σe) (LM ao aa X.2.2.1 σ) [(0, .ref (ao 0)), (1, .int x1), (2, .int x2)] 362 [.int s0] := by
  unfold Mod_escape_b362 at hf
  refine gw_istore_n hC [(3, .int s0), (0, .ref (ao 0)), (1, .int x1), (2, .int x2)] d_Mod_escape_362 rfl (by decide) rfl ?_
  refine gw_aload_n hC 1 d_Mod_escape_363 rfl rfl ?_
  refine gw_iload_n hC 3 d_Mod_escape_364 rfl rfl ?_
  refine gw_bipush hC 116 d_Mod_escape_365 (by decide) ?_
  refine gw_icmp_ne hC 375 d_Mod_escape_367 (by decide) (fun hh => ?_) (fun hh => ?_)
  · rw [if_neg hh] at hf
    refine gw_lv [1, 2, 3, 0] rfl ?_
    exact Mod_escape_p375 ao aa hC N _ _ _ _ _ _ hf
  · rw [if_pos hh] at hf
    refine gw_lv [1, 2, 3, 0] rfl ?_
    exact Mod_escape_p370 ao aa hC N _ _ _ _ _ _ hf
def Mod_escape_b357 (N : Nat) (x1 : Int32) (x2 : Int32) (σ : g_S) : Option (Int32 × g_S) := Mod_escape_b362 N x1 x2 1 σ
theorem Mod_escape_p357 (ao aa : Nat → Nat) {X : g_X} (hC : gC X c_Mod_escape R_Mod 4 87 4 (some .int)) (N : Nat) (x1 : Int32) (x2 : Int32) (σ : g_S) (r : Int32) (σe : g_S) (hf : Mod_escape_b357 N x1 x2 σ = some (r, σe)) : gw X (.inl (some (.int r))) (LM ao aa X.2.2.1 σe) (LM ao aa X.2.2.1 σ) [(0, .ref (ao 0)), (1, .int x1), (2, .int x2)] 357 [] := by
  unfold Mod_escape_b357 at hf
  refine gw_iconst hC 1 d_Mod_escape_357 (by decide) ?_
  refine gw_goto hC 362 d_Mod_escape_358 (by decide) ?_
  exact Mod_escape_p362 ao aa hC N _ _ _ _ _ _ hf
def Mod_escape_b361 (N : Nat) (x1 : Int32) (x2 : Int32) (σ : g_S) : Option (Int32 × g_S) := Mod_escape_b362 N x1 x2 0 σ
theorem Mod_escape_p361 (ao aa : Nat → Nat) {X : g_X} (hC : gC X c_Mod_escape R_Mod 4 87 4 (some .int)) (N : Nat) (x1 : Int32) (x2 : Int32) (σ : g_S) (r : Int32) (σe : g_S) (hf : Mod_escape_b361 N x1 x2 σ = some (r, σe)) : gw X (.inl (some (.int r))) (LM ao aa X.2.2.1 σe) (LM ao aa X.2.2.1 σ) [(0, .ref (ao 0)), (1, .int x1), (2, .int x2)] 361 [] := by
  unfold Mod_escape_b361 at hf
  refine gw_iconst hC 0 d_Mod_escape_361 (by decide) ?_
  exact Mod_escape_p362 ao aa hC N _ _ _ _ _ _ hf
def Mod_escape_b351 (N : Nat) (x1 : Int32) (x2 : Int32) (σ : g_S) : Option (Int32 × g_S) := if x2 = 114 then Mod_escape_b357 N x1 x2 σ else Mod_escape_b361 N x1 x2 σ
theorem Mod_escape_p351 (ao aa : Nat → Nat) {X : g_X} (hC : gC X c_Mod_escape R_Mod 4 87 4 (some .int)) (N : Nat) (x1 : Int32) (x2 : Int32) (σ : g_S) (r : Int32) (σe : g_S) (hf : Mod_escape_b351 N x1 x2 σ = some (r, σe)) : gw X (.inl (some (.int r))) (LM ao aa X.2.2.1 σe) (LM ao aa X.2.2.1 σ) [(0, .ref (ao 0)), (1, .int x1), (2, .int x2)] 351 [] := by
  unfold Mod_escape_b351 at hf
  refine gw_iload_n hC 2 d_Mod_escape_351 rfl rfl ?_
  refine gw_bipush hC 114 d_Mod_escape_352 (by decide) ?_
  refine gw_icmp_ne hC 361 d_Mod_escape_354 (by decide) (fun hh => ?_) (fun hh => ?_)
  · rw [if_neg hh] at hf
    exact Mod_escape_p361 ao aa hC N _ _ _ _ _ hf
  · rw [if_pos hh] at hf
    exact Mod_escape_p357 ao aa hC N _ _ _ _ _ hf
def Mod_escape_b345 (N : Nat) (x1 : Int32) (x2 : Int32) (σ : g_S) : Option (Int32 × g_S) := if x2 = 102 then Mod_escape_b357 N x1 x2 σ else Mod_escape_b351 N x1 x2 σ
theorem Mod_escape_p345 (ao aa : Nat → Nat) {X : g_X} (hC : gC X c_Mod_escape R_Mod 4 87 4 (some .int)) (N : Nat) (x1 : Int32) (x2 : Int32) (σ : g_S) (r : Int32) (σe : g_S) (hf : Mod_escape_b345 N x1 x2 σ = some (r, σe)) : gw X (.inl (some (.int r))) (LM ao aa X.2.2.1 σe) (LM ao aa X.2.2.1 σ) [(0, .ref (ao 0)), (1, .int x1), (2, .int x2)] 345 [] := by
  unfold Mod_escape_b345 at hf
  refine gw_iload_n hC 2 d_Mod_escape_345 rfl rfl ?_
  refine gw_bipush hC 102 d_Mod_escape_346 (by decide) ?_
  refine gw_icmp_eq hC 357 d_Mod_escape_348 (by decide) (fun hh => ?_) (fun hh => ?_)
  · rw [if_pos hh] at hf
    exact Mod_escape_p357 ao aa hC N _ _ _ _ _ hf
  · rw [if_neg hh] at hf
    exact Mod_escape_p351 ao aa hC N _ _ _ _ _ hf
def Mod_escape_b339 (N : Nat) (x1 : Int32) (x2 : Int32) (σ : g_S) : Option (Int32 × g_S) := if x2 = 118 then Mod_escape_b357 N x1 x2 σ else Mod_escape_b345 N x1 x2 σ
theorem Mod_escape_p339 (ao aa : Nat → Nat) {X : g_X} (hC : gC X c_Mod_escape R_Mod 4 87 4 (some .int)) (N : Nat) (x1 : Int32) (x2 : Int32) (σ : g_S) (r : Int32) (σe : g_S) (hf : Mod_escape_b339 N x1 x2 σ = some (r, σe)) : gw X (.inl (some (.int r))) (LM ao aa X.2.2.1 σe) (LM ao aa X.2.2.1 σ) [(0, .ref (ao 0)), (1, .int x1), (2, .int x2)] 339 [] := by
  unfold Mod_escape_b339 at hf
  refine gw_iload_n hC 2 d_Mod_escape_339 rfl rfl ?_
  refine gw_bipush hC 118 d_Mod_escape_340 (by decide) ?_
  refine gw_icmp_eq hC 357 d_Mod_escape_342 (by decide) (fun hh => ?_) (fun hh => ?_)
  · rw [if_pos hh] at hf
    exact Mod_escape_p357 ao aa hC N _ _ _ _ _ hf
  · rw [if_neg hh] at hf
    exact Mod_escape_p345 ao aa hC N _ _ _ _ _ hf
def Mod_escape_b333 (N : Nat) (x1 : Int32) (x2 : Int32) (σ : g_S) : Option (Int32 × g_S) := if x2 = 110 then Mod_escape_b357 N x1 x2 σ else Mod_escape_b339 N x1 x2 σ
theorem Mod_escape_p333 (ao aa : Nat → Nat) {X : g_X} (hC : gC X c_Mod_escape R_Mod 4 87 4 (some .int)) (N : Nat) (x1 : Int32) (x2 : Int32) (σ : g_S) (r : Int32) (σe : g_S) (hf : Mod_escape_b333 N x1 x2 σ = some (r, σe)) : gw X (.inl (some (.int r))) (LM ao aa X.2.2.1 σe) (LM ao aa X.2.2.1 σ) [(0, .ref (ao 0)), (1, .int x1), (2, .int x2)] 333 [] := by
  unfold Mod_escape_b333 at hf
  refine gw_iload_n hC 2 d_Mod_escape_333 rfl rfl ?_
  refine gw_bipush hC 110 d_Mod_escape_334 (by decide) ?_
  refine gw_icmp_eq hC 357 d_Mod_escape_336 (by decide) (fun hh => ?_) (fun hh => ?_)
  · rw [if_pos hh] at hf
    exact Mod_escape_p357 ao aa hC N _ _ _ _ _ hf
  · rw [if_neg hh] at hf
    exact Mod_escape_p339 ao aa hC N _ _ _ _ _ hf
def Mod_escape_b317 (N : Nat) (x1 : Int32) (x2 : Int32) (σ : g_S) : Option (Int32 × g_S) := if x2 = 116 then Mod_escape_b357 N x1 x2 (gF σ 11 ((σ.1 11) + 1)) else Mod_escape_b333 N x1 x2 (gF σ 11 ((σ.1 11) + 1))
theorem Mod_escape_p317 (ao aa : Nat → Nat) {X : g_X} (hC : gC X c_Mod_escape R_Mod 4 87 4 (some .int)) (N : Nat) (x1 : Int32) (x2 : Int32) (σ : g_S) (r : Int32) (σe : g_S) (hf : Mod_escape_b317 N x1 x2 σ = some (r, σe)) : gw X (.inl (some (.int r))) (LM ao aa X.2.2.1 σe) (LM ao aa X.2.2.1 σ) [(0, .ref (ao 0)), (1, .int x1), (2, .int x2)] 317 [] := by
  unfold Mod_escape_b317 at hf
  refine gw_aload_n hC 0 d_Mod_escape_317 rfl rfl ?_
  refine gw_dup hC d_Mod_escape_318 rfl ?_
  refine Mg11 hC kf_Mod_129 d_Mod_escape_319 (σ.1 11) rfl ?_
  refine gw_iconst hC 1 d_Mod_escape_322 (by decide) ?_
  refine gw_iadd hC d_Mod_escape_323 ?_
  refine Mp11 hC kf_Mod_129 d_Mod_escape_324 ?_
  refine gw_iload_n hC 2 d_Mod_escape_327 rfl rfl ?_
  refine gw_bipush hC 116 d_Mod_escape_328 (by decide) ?_
  refine gw_icmp_eq hC 357 d_Mod_escape_330 (by decide) (fun hh => ?_) (fun hh => ?_)
  · rw [if_pos hh] at hf
    exact Mod_escape_p357 ao aa hC N _ _ _ _ _ hf
  · rw [if_neg hh] at hf
    exact Mod_escape_p333 ao aa hC N _ _ _ _ _ hf
def Mod_escape_b293 (N : Nat) (σ : g_S) : Option (Int32 × g_S) := (Mod_see N 1 σ).bind fun q296 => some (0, (gF (gF q296.2 13 (q296.1 - q296.1 / 32 * 32)) 11 ((q296.2.1 11) + 2)))
theorem Mod_escape_p293 (ao aa : Nat → Nat) {X : g_X} (hC : gC X c_Mod_escape R_Mod 4 87 4 (some .int)) (N : Nat) (σ : g_S) (r : Int32) (σe : g_S) (hf : Mod_escape_b293 N σ = some (r, σe)) : gw X (.inl (some (.int r))) (LM ao aa X.2.2.1 σe) (LM ao aa X.2.2.1 σ) [(0, .ref (ao 0))] 293 [] := by
  unfold Mod_escape_b293 at hf
  refine gw_aload_n hC 0 d_Mod_escape_293 rfl rfl ?_
  refine gw_aload_n hC 0 d_Mod_escape_294 rfl rfl ?_
  refine gw_iconst hC 1 d_Mod_escape_295 (by decide) ?_
  obtain ⟨q296, hq296, hf⟩ := g_bind hf
  refine gw_callV hC [.int 1] [.ref (ao 0)] (Mod_see_m _ _ _ ao aa N _ _ _ _ hq296) kc_Mod_158 0 (g_lay_obj rfl) rfl rfl ⟨by decide, by decide⟩ (Nat.le_of_ble_eq_true rfl) [.int 1, .ref (ao 0), .ref (ao 0)] [.int q296.1, .ref (ao 0)] rfl rfl d_Mod_escape_296 ?_
  refine gw_bipush hC 32 d_Mod_escape_299 (by decide) ?_
  refine gw_irem hC d_Mod_escape_301 (by decide) ?_
  refine Mp13 hC kf_Mod_169 d_Mod_escape_302 ?_
  refine gw_aload_n hC 0 d_Mod_escape_305 rfl rfl ?_
  refine gw_aload_n hC 0 d_Mod_escape_306 rfl rfl ?_
  refine Mg11 hC kf_Mod_129 d_Mod_escape_307 (q296.2.1 11) rfl ?_
  refine gw_iconst hC 2 d_Mod_escape_310 (by decide) ?_
  refine gw_iadd hC d_Mod_escape_311 ?_
  refine Mp11 hC kf_Mod_129 d_Mod_escape_312 ?_
  refine gw_iconst hC 0 d_Mod_escape_315 (by decide) ?_
  cases hf
  exact gw_iret hC d_Mod_escape_316
def Mod_escape_b290 (N : Nat) (s1 : Int32) (σ : g_S) : Option (Int32 × g_S) := (Mod_fail N s1 σ).bind fun q290 => Mod_escape_b293 N q290.2
theorem Mod_escape_p290 (ao aa : Nat → Nat) {X : g_X} (hC : gC X c_Mod_escape R_Mod 4 87 4 (some .int)) (N : Nat) (s1 : Int32) (σ : g_S) (r : Int32) (σe : g_S) (hf : Mod_escape_b290 N s1 σ = some (r, σe)) : gw X (.inl (some (.int r))) (LM ao aa X.2.2.1 σe) (LM ao aa X.2.2.1 σ) [(0, .ref (ao 0))] 290 [.int s1, .ref (ao 0)] := by
  unfold Mod_escape_b290 at hf
  obtain ⟨q290, hq290, hf⟩ := g_bind hf
  refine gw_callV hC [.int s1] [] (Mod_fail_m _ _ _ ao aa N _ _ _ _ hq290) kc_Mod_165 0 (g_lay_obj rfl) rfl rfl ⟨by decide, by decide⟩ (Nat.le_of_ble_eq_true rfl) [.int s1, .ref (ao 0)] [] rfl rfl d_Mod_escape_290 ?_
  exact Mod_escape_p293 ao aa hC N _ _ _ hf
def Mod_escape_b286 (N : Nat) (σ : g_S) : Option (Int32 × g_S) := Mod_escape_b290 N (σ.1 2) σ
theorem Mod_escape_p286 (ao aa : Nat → Nat) {X : g_X} (hC : gC X c_Mod_escape R_Mod 4 87 4 (some .int)) (N : Nat) (σ : g_S) (r : Int32) (σe : g_S) (hf : Mod_escape_b286 N σ = some (r, σe)) : gw X (.inl (some (.int r))) (LM ao aa X.2.2.1 σe) (LM ao aa X.2.2.1 σ) [(0, .ref (ao 0))] 286 [.ref (ao 0)] := by
  unfold Mod_escape_b286 at hf
  refine gw_aload_n hC 0 d_Mod_escape_286 rfl rfl ?_
  refine Mg2 hC kf_Mod_132 d_Mod_escape_287 (σ.1 2) rfl ?_
  exact Mod_escape_p290 ao aa hC N _ _ _ _ hf
def Mod_escape_b277 (N : Nat) (σ : g_S) : Option (Int32 × g_S) := Mod_escape_b290 N ((σ.1 11) + 1) σ
theorem Mod_escape_p277 (ao aa : Nat → Nat) {X : g_X} (hC : gC X c_Mod_escape R_Mod 4 87 4 (some .int)) (N : Nat) (σ : g_S) (r : Int32) (σe : g_S) (hf : Mod_escape_b277 N σ = some (r, σe)) : gw X (.inl (some (.int r))) (LM ao aa X.2.2.1 σe) (LM ao aa X.2.2.1 σ) [(0, .ref (ao 0))] 277 [.ref (ao 0)] := by
  unfold Mod_escape_b277 at hf
  refine gw_aload_n hC 0 d_Mod_escape_277 rfl rfl ?_
  refine Mg11 hC kf_Mod_129 d_Mod_escape_278 (σ.1 11) rfl ?_
  refine gw_iconst hC 1 d_Mod_escape_281 (by decide) ?_
  refine gw_iadd hC d_Mod_escape_282 ?_
  refine gw_goto hC 290 d_Mod_escape_283 (by decide) ?_
  exact Mod_escape_p290 ao aa hC N _ _ _ _ hf
def Mod_escape_b263 (N : Nat) (σ : g_S) : Option (Int32 × g_S) := if (σ.1 2) ≤ ((σ.1 11) + 1) then Mod_escape_b286 N σ else Mod_escape_b277 N σ
theorem Mod_escape_p263 (ao aa : Nat → Nat) {X : g_X} (hC : gC X c_Mod_escape R_Mod 4 87 4 (some .int)) (N : Nat) (σ : g_S) (r : Int32) (σe : g_S) (hf : Mod_escape_b263 N σ = some (r, σe)) : gw X (.inl (some (.int r))) (LM ao aa X.2.2.1 σe) (LM ao aa X.2.2.1 σ) [(0, .ref (ao 0))] 263 [] := by
  unfold Mod_escape_b263 at hf
  refine gw_aload_n hC 0 d_Mod_escape_263 rfl rfl ?_
  refine gw_aload_n hC 0 d_Mod_escape_264 rfl rfl ?_
  refine Mg11 hC kf_Mod_129 d_Mod_escape_265 (σ.1 11) rfl ?_
  refine gw_iconst hC 1 d_Mod_escape_268 (by decide) ?_
  refine gw_iadd hC d_Mod_escape_269 ?_
  refine gw_aload_n hC 0 d_Mod_escape_270 rfl rfl ?_
  refine Mg2 hC kf_Mod_132 d_Mod_escape_271 (σ.1 2) rfl ?_
  refine gw_icmp_ge hC 286 d_Mod_escape_274 (by decide) (fun hh => ?_) (fun hh => ?_)
  · rw [if_pos hh] at hf
    exact Mod_escape_p286 ao aa hC N _ _ _ hf
  · rw [if_neg hh] at hf
    exact Mod_escape_p277 ao aa hC N _ _ _ hf
def Mod_escape_b252 (N : Nat) (σ : g_S) : Option (Int32 × g_S) := (Mod_see N 1 σ).bind fun q254 => (Mod_isLetter N q254.1 q254.2).bind fun q257 => if q257.1 = 0 then Mod_escape_b263 N q257.2 else Mod_escape_b293 N q257.2
theorem Mod_escape_p252 (ao aa : Nat → Nat) {X : g_X} (hC : gC X c_Mod_escape R_Mod 4 87 4 (some .int)) (N : Nat) (σ : g_S) (r : Int32) (σe : g_S) (hf : Mod_escape_b252 N σ = some (r, σe)) : gw X (.inl (some (.int r))) (LM ao aa X.2.2.1 σe) (LM ao aa X.2.2.1 σ) [(0, .ref (ao 0))] 252 [] := by
  unfold Mod_escape_b252 at hf
  refine gw_aload_n hC 0 d_Mod_escape_252 rfl rfl ?_
  refine gw_iconst hC 1 d_Mod_escape_253 (by decide) ?_
  obtain ⟨q254, hq254, hf⟩ := g_bind hf
  refine gw_callV hC [.int 1] [] (Mod_see_m _ _ _ ao aa N _ _ _ _ hq254) kc_Mod_158 0 (g_lay_obj rfl) rfl rfl ⟨by decide, by decide⟩ (Nat.le_of_ble_eq_true rfl) [.int 1, .ref (ao 0)] [.int q254.1] rfl rfl d_Mod_escape_254 ?_
  obtain ⟨q257, hq257, hf⟩ := g_bind hf
  refine gw_callS hC [.int q254.1] [] (Mod_isLetter_m _ _ _ ao aa N _ _ _ _ hq257) kc_Mod_112 ⟨by decide, by decide⟩ (Nat.le_of_ble_eq_true rfl) [.int q254.1] [.int q257.1] rfl rfl d_Mod_escape_257 ?_
  refine gw_if_ne hC 293 d_Mod_escape_260 (by decide) (fun hh => ?_) (fun hh => ?_)
  · rw [if_neg hh] at hf
    exact Mod_escape_p293 ao aa hC N _ _ _ hf
  · rw [if_pos hh] at hf
    exact Mod_escape_p263 ao aa hC N _ _ _ hf
def Mod_escape_b246 (N : Nat) (x1 : Int32) (x2 : Int32) (σ : g_S) : Option (Int32 × g_S) := if x2 = 99 then Mod_escape_b252 N σ else Mod_escape_b317 N x1 x2 σ
theorem Mod_escape_p246 (ao aa : Nat → Nat) {X : g_X} (hC : gC X c_Mod_escape R_Mod 4 87 4 (some .int)) (N : Nat) (x1 : Int32) (x2 : Int32) (σ : g_S) (r : Int32) (σe : g_S) (hf : Mod_escape_b246 N x1 x2 σ = some (r, σe)) : gw X (.inl (some (.int r))) (LM ao aa X.2.2.1 σe) (LM ao aa X.2.2.1 σ) [(0, .ref (ao 0)), (1, .int x1), (2, .int x2)] 246 [] := by
  unfold Mod_escape_b246 at hf
  refine gw_iload_n hC 2 d_Mod_escape_246 rfl rfl ?_
  refine gw_bipush hC 99 d_Mod_escape_247 (by decide) ?_
  refine gw_icmp_ne hC 317 d_Mod_escape_249 (by decide) (fun hh => ?_) (fun hh => ?_)
  · rw [if_neg hh] at hf
    exact Mod_escape_p317 ao aa hC N _ _ _ _ _ hf
  · rw [if_pos hh] at hf
    refine gw_lv [0] rfl ?_
    exact Mod_escape_p252 ao aa hC N _ _ _ hf
def Mod_escape_b198 (N : Nat) (x1 : Int32) (x2 : Int32) (σ : g_S) : Option (Int32 × g_S) := if x2 = 117 then Mod_escape_b204 N x2 σ else Mod_escape_b246 N x1 x2 σ
theorem Mod_escape_p198 (ao aa : Nat → Nat) {X : g_X} (hC : gC X c_Mod_escape R_Mod 4 87 4 (some .int)) (N : Nat) (x1 : Int32) (x2 : Int32) (σ : g_S) (r : Int32) (σe : g_S) (hf : Mod_escape_b198 N x1 x2 σ = some (r, σe)) : gw X (.inl (some (.int r))) (LM ao aa X.2.2.1 σe) (LM ao aa X.2.2.1 σ) [(0, .ref (ao 0)), (1, .int x1), (2, .int x2)] 198 [] := by
  unfold Mod_escape_b198 at hf
  refine gw_iload_n hC 2 d_Mod_escape_198 rfl rfl ?_
  refine gw_bipush hC 117 d_Mod_escape_199 (by decide) ?_
  refine gw_icmp_ne hC 246 d_Mod_escape_201 (by decide) (fun hh => ?_) (fun hh => ?_)
  · rw [if_neg hh] at hf
    exact Mod_escape_p246 ao aa hC N _ _ _ _ _ hf
  · rw [if_pos hh] at hf
    refine gw_lv [0, 2] rfl ?_
    exact Mod_escape_p204 ao aa hC N _ _ _ _ hf
def Mod_escape_b192 (N : Nat) (x1 : Int32) (x2 : Int32) (σ : g_S) : Option (Int32 × g_S) := if x2 = 120 then Mod_escape_b204 N x2 σ else Mod_escape_b198 N x1 x2 σ
theorem Mod_escape_p192 (ao aa : Nat → Nat) {X : g_X} (hC : gC X c_Mod_escape R_Mod 4 87 4 (some .int)) (N : Nat) (x1 : Int32) (x2 : Int32) (σ : g_S) (r : Int32) (σe : g_S) (hf : Mod_escape_b192 N x1 x2 σ = some (r, σe)) : gw X (.inl (some (.int r))) (LM ao aa X.2.2.1 σe) (LM ao aa X.2.2.1 σ) [(0, .ref (ao 0)), (1, .int x1), (2, .int x2)] 192 [] := by
  unfold Mod_escape_b192 at hf
  refine gw_iload_n hC 2 d_Mod_escape_192 rfl rfl ?_
  refine gw_bipush hC 120 d_Mod_escape_193 (by decide) ?_
  refine gw_icmp_eq hC 204 d_Mod_escape_195 (by decide) (fun hh => ?_) (fun hh => ?_)
  · rw [if_pos hh] at hf
    refine gw_lv [0, 2] rfl ?_
    exact Mod_escape_p204 ao aa hC N _ _ _ _ hf
  · rw [if_neg hh] at hf
    exact Mod_escape_p198 ao aa hC N _ _ _ _ _ hf
def Mod_escape_b174 (N : Nat) (x1 : Int32) (x2 : Int32) (σ : g_S) : Option (Int32 × g_S) := if x2 = 87 then Mod_escape_b180 N σ else Mod_escape_b192 N x1 x2 σ
theorem Mod_escape_p174 (ao aa : Nat → Nat) {X : g_X} (hC : gC X c_Mod_escape R_Mod 4 87 4 (some .int)) (N : Nat) (x1 : Int32) (x2 : Int32) (σ : g_S) (r : Int32) (σe : g_S) (hf : Mod_escape_b174 N x1 x2 σ = some (r, σe)) : gw X (.inl (some (.int r))) (LM ao aa X.2.2.1 σe) (LM ao aa X.2.2.1 σ) [(0, .ref (ao 0)), (1, .int x1), (2, .int x2)] 174 [] := by
  unfold Mod_escape_b174 at hf
  refine gw_iload_n hC 2 d_Mod_escape_174 rfl rfl ?_
  refine gw_bipush hC 87 d_Mod_escape_175 (by decide) ?_
  refine gw_icmp_ne hC 192 d_Mod_escape_177 (by decide) (fun hh => ?_) (fun hh => ?_)
  · rw [if_neg hh] at hf
    exact Mod_escape_p192 ao aa hC N _ _ _ _ _ hf
  · rw [if_pos hh] at hf
    refine gw_lv [0] rfl ?_
    exact Mod_escape_p180 ao aa hC N _ _ _ hf
def Mod_escape_b168 (N : Nat) (x1 : Int32) (x2 : Int32) (σ : g_S) : Option (Int32 × g_S) := if x2 = 119 then Mod_escape_b180 N σ else Mod_escape_b174 N x1 x2 σ
theorem Mod_escape_p168 (ao aa : Nat → Nat) {X : g_X} (hC : gC X c_Mod_escape R_Mod 4 87 4 (some .int)) (N : Nat) (x1 : Int32) (x2 : Int32) (σ : g_S) (r : Int32) (σe : g_S) (hf : Mod_escape_b168 N x1 x2 σ = some (r, σe)) : gw X (.inl (some (.int r))) (LM ao aa X.2.2.1 σe) (LM ao aa X.2.2.1 σ) [(0, .ref (ao 0)), (1, .int x1), (2, .int x2)] 168 [] := by
  unfold Mod_escape_b168 at hf
  refine gw_iload_n hC 2 d_Mod_escape_168 rfl rfl ?_
  refine gw_bipush hC 119 d_Mod_escape_169 (by decide) ?_
  refine gw_icmp_eq hC 180 d_Mod_escape_171 (by decide) (fun hh => ?_) (fun hh => ?_)
  · rw [if_pos hh] at hf
    refine gw_lv [0] rfl ?_
    exact Mod_escape_p180 ao aa hC N _ _ _ hf
  · rw [if_neg hh] at hf
    exact Mod_escape_p174 ao aa hC N _ _ _ _ _ hf
def Mod_escape_b162 (N : Nat) (x1 : Int32) (x2 : Int32) (σ : g_S) : Option (Int32 × g_S) := if x2 = 83 then Mod_escape_b180 N σ else Mod_escape_b168 N x1 x2 σ
theorem Mod_escape_p162 (ao aa : Nat → Nat) {X : g_X} (hC : gC X c_Mod_escape R_Mod 4 87 4 (some .int)) (N : Nat) (x1 : Int32) (x2 : Int32) (σ : g_S) (r : Int32) (σe : g_S) (hf : Mod_escape_b162 N x1 x2 σ = some (r, σe)) : gw X (.inl (some (.int r))) (LM ao aa X.2.2.1 σe) (LM ao aa X.2.2.1 σ) [(0, .ref (ao 0)), (1, .int x1), (2, .int x2)] 162 [] := by
  unfold Mod_escape_b162 at hf
  refine gw_iload_n hC 2 d_Mod_escape_162 rfl rfl ?_
  refine gw_bipush hC 83 d_Mod_escape_163 (by decide) ?_
  refine gw_icmp_eq hC 180 d_Mod_escape_165 (by decide) (fun hh => ?_) (fun hh => ?_)
  · rw [if_pos hh] at hf
    refine gw_lv [0] rfl ?_
    exact Mod_escape_p180 ao aa hC N _ _ _ hf
  · rw [if_neg hh] at hf
    exact Mod_escape_p168 ao aa hC N _ _ _ _ _ hf
def Mod_escape_b156 (N : Nat) (x1 : Int32) (x2 : Int32) (σ : g_S) : Option (Int32 × g_S) := if x2 = 115 then Mod_escape_b180 N σ else Mod_escape_b162 N x1 x2 σ
theorem Mod_escape_p156 (ao aa : Nat → Nat) {X : g_X} (hC : gC X c_Mod_escape R_Mod 4 87 4 (some .int)) (N : Nat) (x1 : Int32) (x2 : Int32) (σ : g_S) (r : Int32) (σe : g_S) (hf : Mod_escape_b156 N x1 x2 σ = some (r, σe)) : gw X (.inl (some (.int r))) (LM ao aa X.2.2.1 σe) (LM ao aa X.2.2.1 σ) [(0, .ref (ao 0)), (1, .int x1), (2, .int x2)] 156 [] := by
  unfold Mod_escape_b156 at hf
  refine gw_iload_n hC 2 d_Mod_escape_156 rfl rfl ?_
  refine gw_bipush hC 115 d_Mod_escape_157 (by decide) ?_
  refine gw_icmp_eq hC 180 d_Mod_escape_159 (by decide) (fun hh => ?_) (fun hh => ?_)
  · rw [if_pos hh] at hf
    refine gw_lv [0] rfl ?_
    exact Mod_escape_p180 ao aa hC N _ _ _ hf
  · rw [if_neg hh] at hf
    exact Mod_escape_p162 ao aa hC N _ _ _ _ _ hf
def Mod_escape_b150 (N : Nat) (x1 : Int32) (x2 : Int32) (σ : g_S) : Option (Int32 × g_S) := if x2 = 68 then Mod_escape_b180 N σ else Mod_escape_b156 N x1 x2 σ
theorem Mod_escape_p150 (ao aa : Nat → Nat) {X : g_X} (hC : gC X c_Mod_escape R_Mod 4 87 4 (some .int)) (N : Nat) (x1 : Int32) (x2 : Int32) (σ : g_S) (r : Int32) (σe : g_S) (hf : Mod_escape_b150 N x1 x2 σ = some (r, σe)) : gw X (.inl (some (.int r))) (LM ao aa X.2.2.1 σe) (LM ao aa X.2.2.1 σ) [(0, .ref (ao 0)), (1, .int x1), (2, .int x2)] 150 [] := by
  unfold Mod_escape_b150 at hf
  refine gw_iload_n hC 2 d_Mod_escape_150 rfl rfl ?_
  refine gw_bipush hC 68 d_Mod_escape_151 (by decide) ?_
  refine gw_icmp_eq hC 180 d_Mod_escape_153 (by decide) (fun hh => ?_) (fun hh => ?_)
  · rw [if_pos hh] at hf
    refine gw_lv [0] rfl ?_
    exact Mod_escape_p180 ao aa hC N _ _ _ hf
  · rw [if_neg hh] at hf
    exact Mod_escape_p156 ao aa hC N _ _ _ _ _ hf
def Mod_escape_b144 (N : Nat) (x1 : Int32) (x2 : Int32) (σ : g_S) : Option (Int32 × g_S) := if x2 = 100 then Mod_escape_b180 N σ else Mod_escape_b150 N x1 x2 σ
theorem Mod_escape_p144 (ao aa : Nat → Nat) {X : g_X} (hC : gC X c_Mod_escape R_Mod 4 87 4 (some .int)) (N : Nat) (x1 : Int32) (x2 : Int32) (σ : g_S) (r : Int32) (σe : g_S) (hf : Mod_escape_b144 N x1 x2 σ = some (r, σe)) : gw X (.inl (some (.int r))) (LM ao aa X.2.2.1 σe) (LM ao aa X.2.2.1 σ) [(0, .ref (ao 0)), (1, .int x1), (2, .int x2)] 144 [] := by
  unfold Mod_escape_b144 at hf
  refine gw_iload_n hC 2 d_Mod_escape_144 rfl rfl ?_
  refine gw_bipush hC 100 d_Mod_escape_145 (by decide) ?_
  refine gw_icmp_eq hC 180 d_Mod_escape_147 (by decide) (fun hh => ?_) (fun hh => ?_)
  · rw [if_pos hh] at hf
    refine gw_lv [0] rfl ?_
    exact Mod_escape_p180 ao aa hC N _ _ _ hf
  · rw [if_neg hh] at hf
    exact Mod_escape_p150 ao aa hC N _ _ _ _ _ hf
def Mod_escape_b137 (N : Nat) (x3 : Int32) (σ : g_S) : Option (Int32 × g_S) := some (2, (gF σ 13 x3))
theorem Mod_escape_p137 (ao aa : Nat → Nat) {X : g_X} (hC : gC X c_Mod_escape R_Mod 4 87 4 (some .int)) (N : Nat) (x3 : Int32) (σ : g_S) (r : Int32) (σe : g_S) (hf : Mod_escape_b137 N x3 σ = some (r, σe)) : gw X (.inl (some (.int r))) (LM ao aa X.2.2.1 σe) (LM ao aa X.2.2.1 σ) [(0, .ref (ao 0)), (3, .int x3)] 137 [] := by
  unfold Mod_escape_b137 at hf
  refine gw_aload_n hC 0 d_Mod_escape_137 rfl rfl ?_
  refine gw_iload_n hC 1 d_Mod_escape_138 rfl rfl ?_
  refine Mp13 hC kf_Mod_169 d_Mod_escape_139 ?_
  refine gw_iconst hC 2 d_Mod_escape_142 (by decide) ?_
  cases hf
  exact gw_iret hC d_Mod_escape_143
def Mod_escape_b123 (N : Nat) (k88 : Int32 → g_S → Option (Int32 × g_S)) (s0 : Int32) (σ : g_S) : Option (Int32 × g_S) := k88 s0 (gF σ 11 ((σ.1 11) + 1))
theorem Mod_escape_p123 (ao aa : Nat → Nat) {X : g_X} (hC : gC X c_Mod_escape R_Mod 4 87 4 (some .int)) (N : Nat) (k88 : Int32 → g_S → Option (Int32 × g_S)) (hk88 : ∀ (x3 : Int32) (σ : g_S) (r : Int32) (σe : g_S), k88 x3 σ = some (r, σe) → gw X (.inl (some (.int r))) (LM ao aa X.2.2.1 σe) (LM ao aa X.2.2.1 σ) [(0, .ref (ao 0)), (3, .int x3)] 88 []) (s0 : Int32) (σ : g_S) (r : Int32) (σe : g_S) (hf : Mod_escape_b123 N k88 s0 σ = some (r, σe)) : gw X (.inl (some (.int r))) (LM ao aa X.2.2.1 σe) (LM ao aa X.2.2.1 σ) [(0, .ref (ao 0))] 123 [.int s0] := by
  unfold Mod_escape_b123 at hf
  refine gw_istore_n hC [(3, .int s0), (0, .ref (ao 0))] d_Mod_escape_123 rfl (by decide) rfl ?_
  refine gw_aload_n hC 1 d_Mod_escape_124 rfl rfl ?_
  refine gw_dup hC d_Mod_escape_125 rfl ?_
  refine Mg11 hC kf_Mod_129 d_Mod_escape_126 (σ.1 11) rfl ?_
  refine gw_iconst hC 1 d_Mod_escape_129 (by decide) ?_
  refine gw_iadd hC d_Mod_escape_130 ?_
  refine Mp11 hC kf_Mod_129 d_Mod_escape_131 ?_
  refine gw_goto hC 88 d_Mod_escape_134 (by decide) ?_
  refine gw_lv [1, 0] rfl ?_
  exact hk88 _ _ _ _ hf
def Mod_escape_b110 (N : Nat) (k88 : Int32 → g_S → Option (Int32 × g_S)) (x3 : Int32) (σ : g_S) : Option (Int32 × g_S) := (Mod_see N 0 σ).bind fun q116 => Mod_escape_b123 N k88 (((10 * x3) + q116.1) - 48) q116.2
theorem Mod_escape_p110 (ao aa : Nat → Nat) {X : g_X} (hC : gC X c_Mod_escape R_Mod 4 87 4 (some .int)) (N : Nat) (k88 : Int32 → g_S → Option (Int32 × g_S)) (hk88 : ∀ (x3 : Int32) (σ : g_S) (r : Int32) (σe : g_S), k88 x3 σ = some (r, σe) → gw X (.inl (some (.int r))) (LM ao aa X.2.2.1 σe) (LM ao aa X.2.2.1 σ) [(0, .ref (ao 0)), (3, .int x3)] 88 []) (x3 : Int32) (σ : g_S) (r : Int32) (σe : g_S) (hf : Mod_escape_b110 N k88 x3 σ = some (r, σe)) : gw X (.inl (some (.int r))) (LM ao aa X.2.2.1 σe) (LM ao aa X.2.2.1 σ) [(0, .ref (ao 0)), (3, .int x3)] 110 [] := by
  unfold Mod_escape_b110 at hf
  refine gw_bipush hC 10 d_Mod_escape_110 (by decide) ?_
  refine gw_iload_n hC 1 d_Mod_escape_112 rfl rfl ?_
  refine gw_imul hC d_Mod_escape_113 ?_
  refine gw_aload_n hC 0 d_Mod_escape_114 rfl rfl ?_
  refine gw_iconst hC 0 d_Mod_escape_115 (by decide) ?_
  obtain ⟨q116, hq116, hf⟩ := g_bind hf
  refine gw_callV hC [.int 0] [.int (10 * x3)] (Mod_see_m _ _ _ ao aa N _ _ _ _ hq116) kc_Mod_158 0 (g_lay_obj rfl) rfl rfl ⟨by decide, by decide⟩ (Nat.le_of_ble_eq_true rfl) [.int 0, .ref (ao 0), .int (10 * x3)] [.int q116.1, .int (10 * x3)] rfl rfl d_Mod_escape_116 ?_
  refine gw_iadd hC d_Mod_escape_119 ?_
  refine gw_bipush hC 48 d_Mod_escape_120 (by decide) ?_
  refine gw_isub hC d_Mod_escape_122 ?_
  refine gw_lv [0] rfl ?_
  exact Mod_escape_p123 ao aa hC N _ hk88 _ _ _ _ hf
def Mod_escape_b106 (N : Nat) (k88 : Int32 → g_S → Option (Int32 × g_S)) (x3 : Int32) (σ : g_S) : Option (Int32 × g_S) := Mod_escape_b123 N k88 x3 σ
theorem Mod_escape_p106 (ao aa : Nat → Nat) {X : g_X} (hC : gC X c_Mod_escape R_Mod 4 87 4 (some .int)) (N : Nat) (k88 : Int32 → g_S → Option (Int32 × g_S)) (hk88 : ∀ (x3 : Int32) (σ : g_S) (r : Int32) (σe : g_S), k88 x3 σ = some (r, σe) → gw X (.inl (some (.int r))) (LM ao aa X.2.2.1 σe) (LM ao aa X.2.2.1 σ) [(0, .ref (ao 0)), (3, .int x3)] 88 []) (x3 : Int32) (σ : g_S) (r : Int32) (σe : g_S) (hf : Mod_escape_b106 N k88 x3 σ = some (r, σe)) : gw X (.inl (some (.int r))) (LM ao aa X.2.2.1 σe) (LM ao aa X.2.2.1 σ) [(0, .ref (ao 0)), (3, .int x3)] 106 [] := by
  unfold Mod_escape_b106 at hf
  refine gw_iload_n hC 1 d_Mod_escape_106 rfl rfl ?_
  refine gw_goto hC 123 d_Mod_escape_107 (by decide) ?_
  refine gw_lv [0] rfl ?_
  exact Mod_escape_p123 ao aa hC N _ hk88 _ _ _ _ hf
def Mod_escape_b99 (N : Nat) (k88 : Int32 → g_S → Option (Int32 × g_S)) (x3 : Int32) (σ : g_S) : Option (Int32 × g_S) := if x3 ≤ 1000 then Mod_escape_b110 N k88 x3 σ else Mod_escape_b106 N k88 x3 σ
theorem Mod_escape_p99 (ao aa : Nat → Nat) {X : g_X} (hC : gC X c_Mod_escape R_Mod 4 87 4 (some .int)) (N : Nat) (k88 : Int32 → g_S → Option (Int32 × g_S)) (hk88 : ∀ (x3 : Int32) (σ : g_S) (r : Int32) (σe : g_S), k88 x3 σ = some (r, σe) → gw X (.inl (some (.int r))) (LM ao aa X.2.2.1 σe) (LM ao aa X.2.2.1 σ) [(0, .ref (ao 0)), (3, .int x3)] 88 []) (x3 : Int32) (σ : g_S) (r : Int32) (σe : g_S) (hf : Mod_escape_b99 N k88 x3 σ = some (r, σe)) : gw X (.inl (some (.int r))) (LM ao aa X.2.2.1 σe) (LM ao aa X.2.2.1 σ) [(0, .ref (ao 0)), (3, .int x3)] 99 [] := by
  unfold Mod_escape_b99 at hf
  refine gw_iload_n hC 1 d_Mod_escape_99 rfl rfl ?_
  refine gw_sipush hC 1000 d_Mod_escape_100 (by decide) ?_
  refine gw_icmp_le hC 110 d_Mod_escape_103 (by decide) (fun hh => ?_) (fun hh => ?_)
  · rw [if_pos hh] at hf
    exact Mod_escape_p110 ao aa hC N _ hk88 _ _ _ _ hf
  · rw [if_neg hh] at hf
    exact Mod_escape_p106 ao aa hC N _ hk88 _ _ _ _ hf
def Mod_escape_b88 (N : Nat) (k88 : Int32 → g_S → Option (Int32 × g_S)) (x3 : Int32) (σ : g_S) : Option (Int32 × g_S) := (Mod_see N 0 σ).bind fun q90 => (Mod_isDigit N q90.1 q90.2).bind fun q93 => if q93.1 = 0 then Mod_escape_b137 N x3 q93.2 else Mod_escape_b99 N k88 x3 q93.2
theorem Mod_escape_p88 (ao aa : Nat → Nat) {X : g_X} (hC : gC X c_Mod_escape R_Mod 4 87 4 (some .int)) (N : Nat) (k88 : Int32 → g_S → Option (Int32 × g_S)) (hk88 : ∀ (x3 : Int32) (σ : g_S) (r : Int32) (σe : g_S), k88 x3 σ = some (r, σe) → gw X (.inl (some (.int r))) (LM ao aa X.2.2.1 σe) (LM ao aa X.2.2.1 σ) [(0, .ref (ao 0)), (3, .int x3)] 88 []) (x3 : Int32) (σ : g_S) (r : Int32) (σe : g_S) (hf : Mod_escape_b88 N k88 x3 σ = some (r, σe)) : gw X (.inl (some (.int r))) (LM ao aa X.2.2.1 σe) (LM ao aa X.2.2.1 σ) [(0, .ref (ao 0)), (3, .int x3)] 88 [] := by
  unfold Mod_escape_b88 at hf
  refine gw_aload_n hC 0 d_Mod_escape_88 rfl rfl ?_
  refine gw_iconst hC 0 d_Mod_escape_89 (by decide) ?_
  obtain ⟨q90, hq90, hf⟩ := g_bind hf
  refine gw_callV hC [.int 0] [] (Mod_see_m _ _ _ ao aa N _ _ _ _ hq90) kc_Mod_158 0 (g_lay_obj rfl) rfl rfl ⟨by decide, by decide⟩ (Nat.le_of_ble_eq_true rfl) [.int 0, .ref (ao 0)] [.int q90.1] rfl rfl d_Mod_escape_90 ?_
  obtain ⟨q93, hq93, hf⟩ := g_bind hf
  refine gw_callS hC [.int q90.1] [] (Mod_isDigit_m _ _ _ ao aa N _ _ _ _ hq93) kc_Mod_116 ⟨by decide, by decide⟩ (Nat.le_of_ble_eq_true rfl) [.int q90.1] [.int q93.1] rfl rfl d_Mod_escape_93 ?_
  refine gw_if_eq hC 137 d_Mod_escape_96 (by decide) (fun hh => ?_) (fun hh => ?_)
  · rw [if_pos hh] at hf
    exact Mod_escape_p137 ao aa hC N _ _ _ _ hf
  · rw [if_neg hh] at hf
    exact Mod_escape_p99 ao aa hC N _ hk88 _ _ _ _ hf
def Mod_escape_l88 (N : Nat) : Nat → Int32 → g_S → Option (Int32 × g_S)
  | 0 => fun _ _ => none
  | n + 1 => fun x3 σ => Mod_escape_b88 N (Mod_escape_l88 N n) x3 σ
theorem Mod_escape_q88 (ao aa : Nat → Nat) {X : g_X} (hC : gC X c_Mod_escape R_Mod 4 87 4 (some .int)) (N : Nat) (n : Nat) : ∀ (x3 : Int32) (σ : g_S) (r : Int32) (σe : g_S), Mod_escape_l88 N n x3 σ = some (r, σe) → gw X (.inl (some (.int r))) (LM ao aa X.2.2.1 σe) (LM ao aa X.2.2.1 σ) [(0, .ref (ao 0)), (3, .int x3)] 88 [] := by
  induction n with
  | zero => intro x3 σ r σe hf; cases hf
  | succ n ih => intro x3 σ r σe hf; exact Mod_escape_p88 ao aa hC N _ (fun x3 σ r2 σ2 h2 => ih x3 σ r2 σ2 h2) x3 σ r σe hf
def Mod_escape_b86 (N : Nat) (σ : g_S) : Option (Int32 × g_S) := Mod_escape_l88 N N 0 σ
theorem Mod_escape_p86 (ao aa : Nat → Nat) {X : g_X} (hC : gC X c_Mod_escape R_Mod 4 87 4 (some .int)) (N : Nat) (σ : g_S) (r : Int32) (σe : g_S) (hf : Mod_escape_b86 N σ = some (r, σe)) : gw X (.inl (some (.int r))) (LM ao aa X.2.2.1 σe) (LM ao aa X.2.2.1 σ) [(0, .ref (ao 0))] 86 [] := by
  unfold Mod_escape_b86 at hf
  refine gw_iconst hC 0 d_Mod_escape_86 (by decide) ?_
  refine gw_istore_n hC [(3, .int 0), (0, .ref (ao 0))] d_Mod_escape_87 rfl (by decide) rfl ?_
  refine gw_lv [1, 0] rfl ?_
  exact Mod_escape_q88 ao aa hC N N _ _ _ _ hf
def Mod_escape_b78 (N : Nat) (σ : g_S) : Option (Int32 × g_S) := (Mod_fail N (σ.1 11) σ).bind fun q83 => Mod_escape_b86 N q83.2
theorem Mod_escape_p78 (ao aa : Nat → Nat) {X : g_X} (hC : gC X c_Mod_escape R_Mod 4 87 4 (some .int)) (N : Nat) (σ : g_S) (r : Int32) (σe : g_S) (hf : Mod_escape_b78 N σ = some (r, σe)) : gw X (.inl (some (.int r))) (LM ao aa X.2.2.1 σe) (LM ao aa X.2.2.1 σ) [(0, .ref (ao 0))] 78 [] := by
  unfold Mod_escape_b78 at hf
  refine gw_aload_n hC 0 d_Mod_escape_78 rfl rfl ?_
  refine gw_aload_n hC 0 d_Mod_escape_79 rfl rfl ?_
  refine Mg11 hC kf_Mod_129 d_Mod_escape_80 (σ.1 11) rfl ?_
  obtain ⟨q83, hq83, hf⟩ := g_bind hf
  refine gw_callV hC [.int (σ.1 11)] [] (Mod_fail_m _ _ _ ao aa N _ _ _ _ hq83) kc_Mod_165 0 (g_lay_obj rfl) rfl rfl ⟨by decide, by decide⟩ (Nat.le_of_ble_eq_true rfl) [.int (σ.1 11), .ref (ao 0)] [] rfl rfl d_Mod_escape_83 ?_
  exact Mod_escape_p86 ao aa hC N _ _ _ hf
def Mod_escape_b74 (N : Nat) (x1 : Int32) (σ : g_S) : Option (Int32 × g_S) := if x1 = 0 then Mod_escape_b86 N σ else Mod_escape_b78 N σ
theorem Mod_escape_p74 (ao aa : Nat → Nat) {X : g_X} (hC : gC X c_Mod_escape R_Mod 4 87 4 (some .int)) (N : Nat) (x1 : Int32) (σ : g_S) (r : Int32) (σe : g_S) (hf : Mod_escape_b74 N x1 σ = some (r, σe)) : gw X (.inl (some (.int r))) (LM ao aa X.2.2.1 σe) (LM ao aa X.2.2.1 σ) [(0, .ref (ao 0)), (1, .int x1)] 74 [] := by
  unfold Mod_escape_b74 at hf
  refine gw_iload_n hC 1 d_Mod_escape_74 rfl rfl ?_
  refine gw_if_eq hC 86 d_Mod_escape_75 (by decide) (fun hh => ?_) (fun hh => ?_)
  · rw [if_pos hh] at hf
    refine gw_lv [0] rfl ?_
    exact Mod_escape_p86 ao aa hC N _ _ _ hf
  · rw [if_neg hh] at hf
    refine gw_lv [0] rfl ?_
    exact Mod_escape_p78 ao aa hC N _ _ _ hf
def Mod_escape_b67 (N : Nat) (x1 : Int32) (x2 : Int32) (σ : g_S) : Option (Int32 × g_S) := (Mod_isDigit N x2 σ).bind fun q68 => if q68.1 = 0 then Mod_escape_b144 N x1 x2 q68.2 else Mod_escape_b74 N x1 q68.2
theorem Mod_escape_p67 (ao aa : Nat → Nat) {X : g_X} (hC : gC X c_Mod_escape R_Mod 4 87 4 (some .int)) (N : Nat) (x1 : Int32) (x2 : Int32) (σ : g_S) (r : Int32) (σe : g_S) (hf : Mod_escape_b67 N x1 x2 σ = some (r, σe)) : gw X (.inl (some (.int r))) (LM ao aa X.2.2.1 σe) (LM ao aa X.2.2.1 σ) [(0, .ref (ao 0)), (1, .int x1), (2, .int x2)] 67 [] := by
  unfold Mod_escape_b67 at hf
  refine gw_iload_n hC 2 d_Mod_escape_67 rfl rfl ?_
  obtain ⟨q68, hq68, hf⟩ := g_bind hf
  refine gw_callS hC [.int x2] [] (Mod_isDigit_m _ _ _ ao aa N _ _ _ _ hq68) kc_Mod_116 ⟨by decide, by decide⟩ (Nat.le_of_ble_eq_true rfl) [.int x2] [.int q68.1] rfl rfl d_Mod_escape_68 ?_
  refine gw_if_eq hC 144 d_Mod_escape_71 (by decide) (fun hh => ?_) (fun hh => ?_)
  · rw [if_pos hh] at hf
    exact Mod_escape_p144 ao aa hC N _ _ _ _ _ hf
  · rw [if_neg hh] at hf
    refine gw_lv [0, 1] rfl ?_
    exact Mod_escape_p74 ao aa hC N _ _ _ _ hf
def Mod_escape_b55 (N : Nat) (σ : g_S) : Option (Int32 × g_S) := some (0, (gF σ 11 ((σ.1 11) + 1)))
theorem Mod_escape_p55 (ao aa : Nat → Nat) {X : g_X} (hC : gC X c_Mod_escape R_Mod 4 87 4 (some .int)) (N : Nat) (σ : g_S) (r : Int32) (σe : g_S) (hf : Mod_escape_b55 N σ = some (r, σe)) : gw X (.inl (some (.int r))) (LM ao aa X.2.2.1 σe) (LM ao aa X.2.2.1 σ) [(0, .ref (ao 0))] 55 [] := by
  unfold Mod_escape_b55 at hf
  refine gw_aload_n hC 0 d_Mod_escape_55 rfl rfl ?_
  refine gw_dup hC d_Mod_escape_56 rfl ?_
  refine Mg11 hC kf_Mod_129 d_Mod_escape_57 (σ.1 11) rfl ?_
  refine gw_iconst hC 1 d_Mod_escape_60 (by decide) ?_
  refine gw_iadd hC d_Mod_escape_61 ?_
  refine Mp11 hC kf_Mod_129 d_Mod_escape_62 ?_
  refine gw_iconst hC 0 d_Mod_escape_65 (by decide) ?_
  cases hf
  exact gw_iret hC d_Mod_escape_66
def Mod_escape_b45 (N : Nat) (σ : g_S) : Option (Int32 × g_S) := (Mod_fail N ((σ.1 11) + 1) σ).bind fun q52 => Mod_escape_b55 N q52.2
theorem Mod_escape_p45 (ao aa : Nat → Nat) {X : g_X} (hC : gC X c_Mod_escape R_Mod 4 87 4 (some .int)) (N : Nat) (σ : g_S) (r : Int32) (σe : g_S) (hf : Mod_escape_b45 N σ = some (r, σe)) : gw X (.inl (some (.int r))) (LM ao aa X.2.2.1 σe) (LM ao aa X.2.2.1 σ) [(0, .ref (ao 0))] 45 [] := by
  unfold Mod_escape_b45 at hf
  refine gw_aload_n hC 0 d_Mod_escape_45 rfl rfl ?_
  refine gw_aload_n hC 0 d_Mod_escape_46 rfl rfl ?_
  refine Mg11 hC kf_Mod_129 d_Mod_escape_47 (σ.1 11) rfl ?_
  refine gw_iconst hC 1 d_Mod_escape_50 (by decide) ?_
  refine gw_iadd hC d_Mod_escape_51 ?_
  obtain ⟨q52, hq52, hf⟩ := g_bind hf
  refine gw_callV hC [.int ((σ.1 11) + 1)] [] (Mod_fail_m _ _ _ ao aa N _ _ _ _ hq52) kc_Mod_165 0 (g_lay_obj rfl) rfl rfl ⟨by decide, by decide⟩ (Nat.le_of_ble_eq_true rfl) [.int ((σ.1 11) + 1), .ref (ao 0)] [] rfl rfl d_Mod_escape_52 ?_
  exact Mod_escape_p55 ao aa hC N _ _ _ hf
def Mod_escape_b29 (N : Nat) (σ : g_S) : Option (Int32 × g_S) := (Mod_see N 1 (gF σ 13 0)).bind fun q36 => (Mod_isDigit N q36.1 q36.2).bind fun q39 => if q39.1 = 0 then Mod_escape_b55 N q39.2 else Mod_escape_b45 N q39.2
theorem Mod_escape_p29 (ao aa : Nat → Nat) {X : g_X} (hC : gC X c_Mod_escape R_Mod 4 87 4 (some .int)) (N : Nat) (σ : g_S) (r : Int32) (σe : g_S) (hf : Mod_escape_b29 N σ = some (r, σe)) : gw X (.inl (some (.int r))) (LM ao aa X.2.2.1 σe) (LM ao aa X.2.2.1 σ) [(0, .ref (ao 0))] 29 [] := by
  unfold Mod_escape_b29 at hf
  refine gw_aload_n hC 0 d_Mod_escape_29 rfl rfl ?_
  refine gw_iconst hC 0 d_Mod_escape_30 (by decide) ?_
  refine Mp13 hC kf_Mod_169 d_Mod_escape_31 ?_
  refine gw_aload_n hC 0 d_Mod_escape_34 rfl rfl ?_
  refine gw_iconst hC 1 d_Mod_escape_35 (by decide) ?_
  obtain ⟨q36, hq36, hf⟩ := g_bind hf
  refine gw_callV hC [.int 1] [] (Mod_see_m _ _ _ ao aa N _ _ _ _ hq36) kc_Mod_158 0 (g_lay_obj rfl) rfl rfl ⟨by decide, by decide⟩ (Nat.le_of_ble_eq_true rfl) [.int 1, .ref (ao 0)] [.int q36.1] rfl rfl d_Mod_escape_36 ?_
  obtain ⟨q39, hq39, hf⟩ := g_bind hf
  refine gw_callS hC [.int q36.1] [] (Mod_isDigit_m _ _ _ ao aa N _ _ _ _ hq39) kc_Mod_116 ⟨by decide, by decide⟩ (Nat.le_of_ble_eq_true rfl) [.int q36.1] [.int q39.1] rfl rfl d_Mod_escape_39 ?_
  refine gw_if_eq hC 55 d_Mod_escape_42 (by decide) (fun hh => ?_) (fun hh => ?_)
  · rw [if_pos hh] at hf
    exact Mod_escape_p55 ao aa hC N _ _ _ hf
  · rw [if_neg hh] at hf
    exact Mod_escape_p45 ao aa hC N _ _ _ hf
def Mod_escape_b23 (N : Nat) (x1 : Int32) (x2 : Int32) (σ : g_S) : Option (Int32 × g_S) := if x2 = 48 then Mod_escape_b29 N σ else Mod_escape_b67 N x1 x2 σ
theorem Mod_escape_p23 (ao aa : Nat → Nat) {X : g_X} (hC : gC X c_Mod_escape R_Mod 4 87 4 (some .int)) (N : Nat) (x1 : Int32) (x2 : Int32) (σ : g_S) (r : Int32) (σe : g_S) (hf : Mod_escape_b23 N x1 x2 σ = some (r, σe)) : gw X (.inl (some (.int r))) (LM ao aa X.2.2.1 σe) (LM ao aa X.2.2.1 σ) [(0, .ref (ao 0)), (1, .int x1), (2, .int x2)] 23 [] := by
  unfold Mod_escape_b23 at hf
  refine gw_iload_n hC 2 d_Mod_escape_23 rfl rfl ?_
  refine gw_bipush hC 48 d_Mod_escape_24 (by decide) ?_
  refine gw_icmp_ne hC 67 d_Mod_escape_26 (by decide) (fun hh => ?_) (fun hh => ?_)
  · rw [if_neg hh] at hf
    exact Mod_escape_p67 ao aa hC N _ _ _ _ _ hf
  · rw [if_pos hh] at hf
    refine gw_lv [0] rfl ?_
    exact Mod_escape_p29 ao aa hC N _ _ _ hf
def Mod_escape_b15 (N : Nat) (x1 : Int32) (x2 : Int32) (σ : g_S) : Option (Int32 × g_S) := (Mod_fail N (σ.1 2) σ).bind fun q20 => Mod_escape_b23 N x1 x2 q20.2
theorem Mod_escape_p15 (ao aa : Nat → Nat) {X : g_X} (hC : gC X c_Mod_escape R_Mod 4 87 4 (some .int)) (N : Nat) (x1 : Int32) (x2 : Int32) (σ : g_S) (r : Int32) (σe : g_S) (hf : Mod_escape_b15 N x1 x2 σ = some (r, σe)) : gw X (.inl (some (.int r))) (LM ao aa X.2.2.1 σe) (LM ao aa X.2.2.1 σ) [(0, .ref (ao 0)), (1, .int x1), (2, .int x2)] 15 [] := by
  unfold Mod_escape_b15 at hf
  refine gw_aload_n hC 0 d_Mod_escape_15 rfl rfl ?_
  refine gw_aload_n hC 0 d_Mod_escape_16 rfl rfl ?_
  refine Mg2 hC kf_Mod_132 d_Mod_escape_17 (σ.1 2) rfl ?_
  obtain ⟨q20, hq20, hf⟩ := g_bind hf
  refine gw_callV hC [.int (σ.1 2)] [] (Mod_fail_m _ _ _ ao aa N _ _ _ _ hq20) kc_Mod_165 0 (g_lay_obj rfl) rfl rfl ⟨by decide, by decide⟩ (Nat.le_of_ble_eq_true rfl) [.int (σ.1 2), .ref (ao 0)] [] rfl rfl d_Mod_escape_20 ?_
  exact Mod_escape_p23 ao aa hC N _ _ _ _ _ hf
def Mod_escape_b0 (N : Nat) (x1 : Int32) (σ : g_S) : Option (Int32 × g_S) := (Mod_see N 0 σ).bind fun q2 => if 0 ≤ q2.1 then Mod_escape_b23 N x1 q2.1 (gF q2.2 13 q2.1) else Mod_escape_b15 N x1 q2.1 (gF q2.2 13 q2.1)
theorem Mod_escape_p0 (ao aa : Nat → Nat) {X : g_X} (hC : gC X c_Mod_escape R_Mod 4 87 4 (some .int)) (N : Nat) (x1 : Int32) (σ : g_S) (r : Int32) (σe : g_S) (hf : Mod_escape_b0 N x1 σ = some (r, σe)) : gw X (.inl (some (.int r))) (LM ao aa X.2.2.1 σe) (LM ao aa X.2.2.1 σ) [(0, .ref (ao 0)), (1, .int x1)] 0 [] := by
  unfold Mod_escape_b0 at hf
  refine gw_aload_n hC 0 d_Mod_escape_0 rfl rfl ?_
  refine gw_iconst hC 0 d_Mod_escape_1 (by decide) ?_
  obtain ⟨q2, hq2, hf⟩ := g_bind hf
  refine gw_callV hC [.int 0] [] (Mod_see_m _ _ _ ao aa N _ _ _ _ hq2) kc_Mod_158 0 (g_lay_obj rfl) rfl rfl ⟨by decide, by decide⟩ (Nat.le_of_ble_eq_true rfl) [.int 0, .ref (ao 0)] [.int q2.1] rfl rfl d_Mod_escape_2 ?_
  refine gw_istore_n hC [(2, .int q2.1), (0, .ref (ao 0)), (1, .int x1)] d_Mod_escape_5 rfl (by decide) rfl ?_
  refine gw_aload_n hC 1 d_Mod_escape_6 rfl rfl ?_
  refine gw_iload_n hC 0 d_Mod_escape_7 rfl rfl ?_
  refine Mp13 hC kf_Mod_169 d_Mod_escape_8 ?_
  refine gw_iload_n hC 0 d_Mod_escape_11 rfl rfl ?_
  refine gw_if_ge hC 23 d_Mod_escape_12 (by decide) (fun hh => ?_) (fun hh => ?_)
  · rw [if_pos hh] at hf
    refine gw_lv [1, 2, 0] rfl ?_
    exact Mod_escape_p23 ao aa hC N _ _ _ _ _ hf
  · rw [if_neg hh] at hf
    refine gw_lv [1, 2, 0] rfl ?_
    exact Mod_escape_p15 ao aa hC N _ _ _ _ _ hf
def Mod_escape (N : Nat) (x1 : Int32) (σ : g_S) : Option (Int32 × g_S) := Mod_escape_b0 N x1 σ
theorem Mod_escape_m (l : Launch) (D : va_G) (cA : ClassId) (ao aa : Nat → Nat) (N : Nat) (x1 : Int32) (σ : g_S) (r : Int32) (σe : g_S) (hf : Mod_escape N x1 σ = some (r, σe)) : Mt l D cA y_Mod_escape c_Mod_escape 4 (some .int) 4 87 [.ref (ao 0), .int x1] (LM ao aa cA σ) (some (.int r)) (LM ao aa cA σe) := by
  refine g_met (by decide +kernel) (by simp [lg_sl, Value.category]) (fun X e1 e2 e3 hC => ?_)
  subst e1 e2 e3
  refine gw_lv [0, 1] rfl ?_
  exact Mod_escape_p0 ao aa hC N _ _ (r) _ hf
def Mod_member_b42 (N : Nat) (σ : g_S) : Option (Int32 × g_S) := (Mod_see N 0 σ).bind fun q45 => some (0, (gF (gF q45.2 13 q45.1) 11 ((q45.2.1 11) + 1)))
theorem Mod_member_p42 (ao aa : Nat → Nat) {X : g_X} (hC : gC X c_Mod_member R_Mod 5 110 1 (some .int)) (N : Nat) (σ : g_S) (r : Int32) (σe : g_S) (hf : Mod_member_b42 N σ = some (r, σe)) : gw X (.inl (some (.int r))) (LM ao aa X.2.2.1 σe) (LM ao aa X.2.2.1 σ) [(0, .ref (ao 0))] 42 [] := by
  unfold Mod_member_b42 at hf
  refine gw_aload_n hC 0 d_Mod_member_42 rfl rfl ?_
  refine gw_aload_n hC 0 d_Mod_member_43 rfl rfl ?_
  refine gw_iconst hC 0 d_Mod_member_44 (by decide) ?_
  obtain ⟨q45, hq45, hf⟩ := g_bind hf
  refine gw_callV hC [.int 0] [.ref (ao 0)] (Mod_see_m _ _ _ ao aa N _ _ _ _ hq45) kc_Mod_158 0 (g_lay_obj rfl) rfl rfl ⟨by decide, by decide⟩ (Nat.le_of_ble_eq_true rfl) [.int 0, .ref (ao 0), .ref (ao 0)] [.int q45.1, .ref (ao 0)] rfl rfl d_Mod_member_45 ?_
  refine Mp13 hC kf_Mod_169 d_Mod_member_48 ?_
  refine gw_aload_n hC 0 d_Mod_member_51 rfl rfl ?_
  refine gw_dup hC d_Mod_member_52 rfl ?_
  refine Mg11 hC kf_Mod_129 d_Mod_member_53 (q45.2.1 11) rfl ?_
  refine gw_iconst hC 1 d_Mod_member_56 (by decide) ?_
  refine gw_iadd hC d_Mod_member_57 ?_
  refine Mp11 hC kf_Mod_129 d_Mod_member_58 ?_
  refine gw_iconst hC 0 d_Mod_member_61 (by decide) ?_
  cases hf
  exact gw_iret hC d_Mod_member_62
def Mod_member_b26 (N : Nat) (σ : g_S) : Option (Int32 × g_S) := (Mod_escape N 1 (gF σ 11 ((σ.1 11) + 1))).bind fun q38 => some (q38.1, q38.2)
theorem Mod_member_p26 (ao aa : Nat → Nat) {X : g_X} (hC : gC X c_Mod_member R_Mod 5 110 1 (some .int)) (N : Nat) (σ : g_S) (r : Int32) (σe : g_S) (hf : Mod_member_b26 N σ = some (r, σe)) : gw X (.inl (some (.int r))) (LM ao aa X.2.2.1 σe) (LM ao aa X.2.2.1 σ) [(0, .ref (ao 0))] 26 [] := by
  unfold Mod_member_b26 at hf
  refine gw_aload_n hC 0 d_Mod_member_26 rfl rfl ?_
  refine gw_dup hC d_Mod_member_27 rfl ?_
  refine Mg11 hC kf_Mod_129 d_Mod_member_28 (σ.1 11) rfl ?_
  refine gw_iconst hC 1 d_Mod_member_31 (by decide) ?_
  refine gw_iadd hC d_Mod_member_32 ?_
  refine Mp11 hC kf_Mod_129 d_Mod_member_33 ?_
  refine gw_aload_n hC 0 d_Mod_member_36 rfl rfl ?_
  refine gw_iconst hC 1 d_Mod_member_37 (by decide) ?_
  obtain ⟨q38, hq38, hf⟩ := g_bind hf
  refine gw_callV hC [.int 1] [] (Mod_escape_m _ _ _ ao aa N _ _ _ _ hq38) kc_Mod_179 0 (g_lay_obj rfl) rfl rfl ⟨by decide, by decide⟩ (Nat.le_of_ble_eq_true rfl) [.int 1, .ref (ao 0)] [.int q38.1] rfl rfl d_Mod_member_38 ?_
  cases hf
  exact gw_iret hC d_Mod_member_41
def Mod_member_b16 (N : Nat) (σ : g_S) : Option (Int32 × g_S) := (Mod_see N 0 σ).bind fun q18 => if q18.1 = 92 then Mod_member_b26 N q18.2 else Mod_member_b42 N q18.2
theorem Mod_member_p16 (ao aa : Nat → Nat) {X : g_X} (hC : gC X c_Mod_member R_Mod 5 110 1 (some .int)) (N : Nat) (σ : g_S) (r : Int32) (σe : g_S) (hf : Mod_member_b16 N σ = some (r, σe)) : gw X (.inl (some (.int r))) (LM ao aa X.2.2.1 σe) (LM ao aa X.2.2.1 σ) [(0, .ref (ao 0))] 16 [] := by
  unfold Mod_member_b16 at hf
  refine gw_aload_n hC 0 d_Mod_member_16 rfl rfl ?_
  refine gw_iconst hC 0 d_Mod_member_17 (by decide) ?_
  obtain ⟨q18, hq18, hf⟩ := g_bind hf
  refine gw_callV hC [.int 0] [] (Mod_see_m _ _ _ ao aa N _ _ _ _ hq18) kc_Mod_158 0 (g_lay_obj rfl) rfl rfl ⟨by decide, by decide⟩ (Nat.le_of_ble_eq_true rfl) [.int 0, .ref (ao 0)] [.int q18.1] rfl rfl d_Mod_member_18 ?_
  refine gw_bipush hC 92 d_Mod_member_21 (by decide) ?_
  refine gw_icmp_ne hC 42 d_Mod_member_23 (by decide) (fun hh => ?_) (fun hh => ?_)
  · rw [if_neg hh] at hf
    exact Mod_member_p42 ao aa hC N _ _ _ hf
  · rw [if_pos hh] at hf
    exact Mod_member_p26 ao aa hC N _ _ _ hf
def Mod_member_b8 (N : Nat) (σ : g_S) : Option (Int32 × g_S) := (Mod_fail N (σ.1 2) σ).bind fun q13 => Mod_member_b16 N q13.2
theorem Mod_member_p8 (ao aa : Nat → Nat) {X : g_X} (hC : gC X c_Mod_member R_Mod 5 110 1 (some .int)) (N : Nat) (σ : g_S) (r : Int32) (σe : g_S) (hf : Mod_member_b8 N σ = some (r, σe)) : gw X (.inl (some (.int r))) (LM ao aa X.2.2.1 σe) (LM ao aa X.2.2.1 σ) [(0, .ref (ao 0))] 8 [] := by
  unfold Mod_member_b8 at hf
  refine gw_aload_n hC 0 d_Mod_member_8 rfl rfl ?_
  refine gw_aload_n hC 0 d_Mod_member_9 rfl rfl ?_
  refine Mg2 hC kf_Mod_132 d_Mod_member_10 (σ.1 2) rfl ?_
  obtain ⟨q13, hq13, hf⟩ := g_bind hf
  refine gw_callV hC [.int (σ.1 2)] [] (Mod_fail_m _ _ _ ao aa N _ _ _ _ hq13) kc_Mod_165 0 (g_lay_obj rfl) rfl rfl ⟨by decide, by decide⟩ (Nat.le_of_ble_eq_true rfl) [.int (σ.1 2), .ref (ao 0)] [] rfl rfl d_Mod_member_13 ?_
  exact Mod_member_p16 ao aa hC N _ _ _ hf
def Mod_member_b0 (N : Nat) (σ : g_S) : Option (Int32 × g_S) := (Mod_see N 0 σ).bind fun q2 => if 0 ≤ q2.1 then Mod_member_b16 N q2.2 else Mod_member_b8 N q2.2
theorem Mod_member_p0 (ao aa : Nat → Nat) {X : g_X} (hC : gC X c_Mod_member R_Mod 5 110 1 (some .int)) (N : Nat) (σ : g_S) (r : Int32) (σe : g_S) (hf : Mod_member_b0 N σ = some (r, σe)) : gw X (.inl (some (.int r))) (LM ao aa X.2.2.1 σe) (LM ao aa X.2.2.1 σ) [(0, .ref (ao 0))] 0 [] := by
  unfold Mod_member_b0 at hf
  refine gw_aload_n hC 0 d_Mod_member_0 rfl rfl ?_
  refine gw_iconst hC 0 d_Mod_member_1 (by decide) ?_
  obtain ⟨q2, hq2, hf⟩ := g_bind hf
  refine gw_callV hC [.int 0] [] (Mod_see_m _ _ _ ao aa N _ _ _ _ hq2) kc_Mod_158 0 (g_lay_obj rfl) rfl rfl ⟨by decide, by decide⟩ (Nat.le_of_ble_eq_true rfl) [.int 0, .ref (ao 0)] [.int q2.1] rfl rfl d_Mod_member_2 ?_
  refine gw_if_ge hC 16 d_Mod_member_5 (by decide) (fun hh => ?_) (fun hh => ?_)
  · rw [if_pos hh] at hf
    exact Mod_member_p16 ao aa hC N _ _ _ hf
  · rw [if_neg hh] at hf
    exact Mod_member_p8 ao aa hC N _ _ _ hf
def Mod_member (N : Nat) (σ : g_S) : Option (Int32 × g_S) := Mod_member_b0 N  σ
theorem Mod_member_m (l : Launch) (D : va_G) (cA : ClassId) (ao aa : Nat → Nat) (N : Nat) (σ : g_S) (r : Int32) (σe : g_S) (hf : Mod_member N σ = some (r, σe)) : Mt l D cA y_Mod_member c_Mod_member 1 (some .int) 5 110 [.ref (ao 0)] (LM ao aa cA σ) (some (.int r)) (LM ao aa cA σe) := by
  refine g_met (by decide +kernel) (by simp [lg_sl, Value.category]) (fun X e1 e2 e3 hC => ?_)
  subst e1 e2 e3
  refine gw_lv [0] rfl ?_
  exact Mod_member_p0 ao aa hC N _ (r) _ hf
