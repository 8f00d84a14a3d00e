theorem kf_Desk_38 : Cond.fieldLink R_Desk 38 "PatternDesk" "wrongPlace" "I" ∈ g_TB := g_mem (List.mem_append_right _ (List.mem_append_left _ (List.mem_of_getElem? (i := 234) (by decide +kernel)))) rfl
theorem kf_Machine_53 : Cond.fieldLink R_Machine 53 "PatternDesk$Machine" "length" "I" ∈ g_TB := g_mem (List.mem_append_right _ (List.mem_append_left _ (List.mem_of_getElem? (i := 194) (by decide +kernel)))) rfl
theorem kf_Machine_13 : Cond.fieldLink R_Machine 13 "PatternDesk$Machine" "text" "[I" ∈ g_TB := g_mem (List.mem_append_right _ (List.mem_append_left _ (List.mem_of_getElem? (i := 182) (by decide +kernel)))) rfl
theorem kc_Machine_43 : g_okS R_Machine 43 y_Rows_read c_Rows_read 2 (some .int) 2 := ⟨g_mem (List.mem_append_right _ (List.mem_append_right _ (List.mem_append_left _ (List.mem_of_getElem? (i := 28) rfl)))) rfl, g_mem (List.mem_append_right _ (List.mem_append_left _ (List.mem_of_getElem? (i := 11) (by decide +kernel)))) rfl, g_mem (List.mem_append_right _ (List.mem_append_right _ (List.mem_append_left _ (List.mem_of_getElem? (i := 26) (by decide +kernel))))) rfl, g_mem (List.mem_append_right _ (List.mem_append_right _ (List.mem_append_left _ (List.mem_of_getElem? (i := 27) (by decide +kernel))))) rfl, by decide +kernel, by decide +kernel, by decide +kernel⟩
theorem kc_Machine_49 : g_okS R_Machine 49 y_Rows_write c_Rows_write 3 none 3 := ⟨g_mem (List.mem_append_right _ (List.mem_append_right _ (List.mem_append_left _ (List.mem_of_getElem? (i := 31) rfl)))) rfl, g_mem (List.mem_append_right _ (List.mem_append_left _ (List.mem_of_getElem? (i := 11) (by decide +kernel)))) rfl, g_mem (List.mem_append_right _ (List.mem_append_right _ (List.mem_append_left _ (List.mem_of_getElem? (i := 29) (by decide +kernel))))) rfl, g_mem (List.mem_append_right _ (List.mem_append_right _ (List.mem_append_left _ (List.mem_of_getElem? (i := 30) (by decide +kernel))))) rfl, by decide +kernel, by decide +kernel, by decide +kernel⟩
theorem kf_Desk_49 : Cond.fieldLink R_Desk 49 "PatternDesk" "toldCount" "I" ∈ g_TB := g_mem (List.mem_append_right _ (List.mem_append_left _ (List.mem_of_getElem? (i := 233) (by decide +kernel)))) rfl
theorem kf_Desk_64 : Cond.fieldLink R_Desk 64 "PatternDesk" "hasResult" "Z" ∈ g_TB := g_mem (List.mem_append_right _ (List.mem_append_left _ (List.mem_of_getElem? (i := 236) (by decide +kernel)))) rfl
theorem kf_Desk_34 : Cond.fieldLink R_Desk 34 "PatternDesk" "machine" "LPatternDesk$Machine;" ∈ g_TB := g_mem (List.mem_append_right _ (List.mem_append_left _ (List.mem_of_getElem? (i := 232) (by decide +kernel)))) rfl
theorem kf_Desk_9 : Cond.fieldLink R_Desk 9 "PatternDesk" "told" "[I" ∈ g_TB := g_mem (List.mem_append_right _ (List.mem_append_left _ (List.mem_of_getElem? (i := 229) (by decide +kernel)))) rfl
theorem kc_Desk_86 : g_okV R_Desk 86 y_Machine_takeText c_Machine_takeText 4 none 2 := ⟨g_mem (List.mem_append_right _ (List.mem_append_right _ (List.mem_append_left _ (List.mem_of_getElem? (i := 25) rfl)))) rfl, g_mem (List.mem_append_right _ (List.mem_append_left _ (List.mem_of_getElem? (i := 4) (by decide +kernel)))) rfl, g_mem (List.mem_append_right _ (List.mem_append_right _ (List.mem_append_left _ (List.mem_of_getElem? (i := 22) (by decide +kernel))))) rfl, g_mem (List.mem_append_right _ (List.mem_append_right _ (List.mem_append_left _ (List.mem_of_getElem? (i := 23) (by decide +kernel))))) rfl, g_mem (List.mem_append_right _ (List.mem_append_right _ (List.mem_append_left _ (List.mem_of_getElem? (i := 24) (by decide +kernel))))) rfl, by decide +kernel, by decide +kernel, by decide +kernel⟩
theorem kf_Desk_117 : Cond.fieldLink R_Desk 117 "PatternDesk$Machine" "taken" "I" ∈ g_TB := g_mem (List.mem_append_right _ (List.mem_append_left _ (List.mem_of_getElem? (i := 197) (by decide +kernel)))) rfl
theorem kc_Units_13 : g_okS R_Units 13 y_Units_isDigit c_Units_isDigit 1 (some .boolean) 1 := ⟨g_mem (List.mem_append_right _ (List.mem_append_right _ (List.mem_append_left _ (List.mem_of_getElem? (i := 206) rfl)))) rfl, g_mem (List.mem_append_right _ (List.mem_append_left _ (List.mem_of_getElem? (i := 12) (by decide +kernel)))) rfl, g_mem (List.mem_append_right _ (List.mem_append_right _ (List.mem_append_left _ (List.mem_of_getElem? (i := 226) (by decide +kernel))))) rfl, g_mem (List.mem_append_right _ (List.mem_append_right _ (List.mem_append_left _ (List.mem_of_getElem? (i := 205) (by decide +kernel))))) rfl, by decide +kernel, by decide +kernel, by decide +kernel⟩
theorem kc_Units_7 : g_okS R_Units 7 y_Units_isLetter c_Units_isLetter 1 (some .boolean) 1 := ⟨g_mem (List.mem_append_right _ (List.mem_append_right _ (List.mem_append_left _ (List.mem_of_getElem? (i := 213) rfl)))) rfl, g_mem (List.mem_append_right _ (List.mem_append_left _ (List.mem_of_getElem? (i := 12) (by decide +kernel)))) rfl, g_mem (List.mem_append_right _ (List.mem_append_right _ (List.mem_append_left _ (List.mem_of_getElem? (i := 225) (by decide +kernel))))) rfl, g_mem (List.mem_append_right _ (List.mem_append_right _ (List.mem_append_left _ (List.mem_of_getElem? (i := 212) (by decide +kernel))))) rfl, by decide +kernel, by decide +kernel, by decide +kernel⟩
theorem kc_Units_20 : g_okS R_Units 20 y_Units_isLineEnd c_Units_isLineEnd 1 (some .boolean) 1 := ⟨g_mem (List.mem_append_right _ (List.mem_append_right _ (List.mem_append_right _ (List.mem_append_left _ (List.mem_of_getElem? (i := 99) rfl))))) rfl, g_mem (List.mem_append_right _ (List.mem_append_left _ (List.mem_of_getElem? (i := 12) (by decide +kernel)))) rfl, g_mem (List.mem_append_right _ (List.mem_append_right _ (List.mem_append_right _ (List.mem_append_left _ (List.mem_of_getElem? (i := 107) (by decide +kernel)))))) rfl, g_mem (List.mem_append_right _ (List.mem_append_right _ (List.mem_append_right _ (List.mem_append_left _ (List.mem_of_getElem? (i := 98) (by decide +kernel)))))) rfl, by decide +kernel, by decide +kernel, by decide +kernel⟩
theorem kc_Units_17 : g_okS R_Units 17 y_Units_isBlank c_Units_isBlank 1 (some .boolean) 1 := ⟨g_mem (List.mem_append_right _ (List.mem_append_right _ (List.mem_append_right _ (List.mem_append_left _ (List.mem_of_getElem? (i := 106) rfl))))) rfl, g_mem (List.mem_append_right _ (List.mem_append_left _ (List.mem_of_getElem? (i := 12) (by decide +kernel)))) rfl, g_mem (List.mem_append_right _ (List.mem_append_right _ (List.mem_append_right _ (List.mem_append_left _ (List.mem_of_getElem? (i := 104) (by decide +kernel)))))) rfl, g_mem (List.mem_append_right _ (List.mem_append_right _ (List.mem_append_right _ (List.mem_append_left _ (List.mem_of_getElem? (i := 105) (by decide +kernel)))))) rfl, by decide +kernel, by decide +kernel, by decide +kernel⟩
theorem kc_Units_23 : g_okS R_Units 23 y_Units_isWord c_Units_isWord 1 (some .boolean) 1 := ⟨g_mem (List.mem_append_right _ (List.mem_append_right _ (List.mem_append_right _ (List.mem_append_left _ (List.mem_of_getElem? (i := 110) rfl))))) rfl, g_mem (List.mem_append_right _ (List.mem_append_left _ (List.mem_of_getElem? (i := 12) (by decide +kernel)))) rfl, g_mem (List.mem_append_right _ (List.mem_append_right _ (List.mem_append_right _ (List.mem_append_left _ (List.mem_of_getElem? (i := 108) (by decide +kernel)))))) rfl, g_mem (List.mem_append_right _ (List.mem_append_right _ (List.mem_append_right _ (List.mem_append_left _ (List.mem_of_getElem? (i := 109) (by decide +kernel)))))) rfl, by decide +kernel, by decide +kernel, by decide +kernel⟩
theorem kn_Units_16 : Cond.constant R_Units 16 65536 ∈ g_TB := g_mem (List.mem_append_right _ (List.mem_append_right _ (List.mem_append_right _ (List.mem_append_left _ (List.mem_of_getElem? (i := 103) (by decide +kernel)))))) rfl
theorem kc_Units_26 : g_okS R_Units 26 y_Units_upper c_Units_upper 1 (some .int) 1 := ⟨g_mem (List.mem_append_right _ (List.mem_append_right _ (List.mem_append_right _ (List.mem_append_left _ (List.mem_of_getElem? (i := 96) rfl))))) rfl, g_mem (List.mem_append_right _ (List.mem_append_left _ (List.mem_of_getElem? (i := 12) (by decide +kernel)))) rfl, g_mem (List.mem_append_right _ (List.mem_append_right _ (List.mem_append_right _ (List.mem_append_left _ (List.mem_of_getElem? (i := 118) (by decide +kernel)))))) rfl, g_mem (List.mem_append_right _ (List.mem_append_right _ (List.mem_append_right _ (List.mem_append_left _ (List.mem_of_getElem? (i := 95) (by decide +kernel)))))) rfl, by decide +kernel, by decide +kernel, by decide +kernel⟩
theorem kf_Program_48 : Cond.fieldLink R_Program 48 "PatternDesk$Program" "nodes" "I" ∈ g_TB := g_mem (List.mem_append_right _ (List.mem_append_left _ (List.mem_of_getElem? (i := 61) (by decide +kernel)))) rfl
theorem kf_Program_52 : Cond.fieldLink R_Program 52 "PatternDesk$Program" "members" "I" ∈ g_TB := g_mem (List.mem_append_right _ (List.mem_append_left _ (List.mem_of_getElem? (i := 63) (by decide +kernel)))) rfl
theorem kf_Program_55 : Cond.fieldLink R_Program 55 "PatternDesk$Program" "repeats" "I" ∈ g_TB := g_mem (List.mem_append_right _ (List.mem_append_left _ (List.mem_of_getElem? (i := 65) (by decide +kernel)))) rfl
theorem kf_Program_58 : Cond.fieldLink R_Program 58 "PatternDesk$Program" "looks" "I" ∈ g_TB := g_mem (List.mem_append_right _ (List.mem_append_left _ (List.mem_of_getElem? (i := 67) (by decide +kernel)))) rfl
theorem kf_Program_61 : Cond.fieldLink R_Program 61 "PatternDesk$Program" "groups" "I" ∈ g_TB := g_mem (List.mem_append_right _ (List.mem_append_left _ (List.mem_of_getElem? (i := 69) (by decide +kernel)))) rfl
theorem kf_Program_11 : Cond.fieldLink R_Program 11 "PatternDesk$Program" "kind" "[I" ∈ g_TB := g_mem (List.mem_append_right _ (List.mem_append_left _ (List.mem_of_getElem? (i := 28) (by decide +kernel)))) rfl
theorem kf_Program_15 : Cond.fieldLink R_Program 15 "PatternDesk$Program" "next" "[I" ∈ g_TB := g_mem (List.mem_append_right _ (List.mem_append_left _ (List.mem_of_getElem? (i := 31) (by decide +kernel)))) rfl
theorem kf_Program_18 : Cond.fieldLink R_Program 18 "PatternDesk$Program" "first" "[I" ∈ g_TB := g_mem (List.mem_append_right _ (List.mem_append_left _ (List.mem_of_getElem? (i := 33) (by decide +kernel)))) rfl
theorem kf_Program_21 : Cond.fieldLink R_Program 21 "PatternDesk$Program" "second" "[I" ∈ g_TB := g_mem (List.mem_append_right _ (List.mem_append_left _ (List.mem_of_getElem? (i := 36) (by decide +kernel)))) rfl
theorem kc_Program_64 : g_okS R_Program 64 y_Rows_write c_Rows_write 3 none 3 := ⟨g_mem (List.mem_append_right _ (List.mem_append_right _ (List.mem_append_left _ (List.mem_of_getElem? (i := 31) rfl)))) rfl, g_mem (List.mem_append_right _ (List.mem_append_left _ (List.mem_of_getElem? (i := 11) (by decide +kernel)))) rfl, g_mem (List.mem_append_right _ (List.mem_append_right _ (List.mem_append_left _ (List.mem_of_getElem? (i := 170) (by decide +kernel))))) rfl, g_mem (List.mem_append_right _ (List.mem_append_right _ (List.mem_append_left _ (List.mem_of_getElem? (i := 30) (by decide +kernel))))) rfl, by decide +kernel, by decide +kernel, by decide +kernel⟩
theorem kf_Program_24 : Cond.fieldLink R_Program 24 "PatternDesk$Program" "low" "[I" ∈ g_TB := g_mem (List.mem_append_right _ (List.mem_append_left _ (List.mem_of_getElem? (i := 39) (by decide +kernel)))) rfl
theorem kf_Program_27 : Cond.fieldLink R_Program 27 "PatternDesk$Program" "high" "[I" ∈ g_TB := g_mem (List.mem_append_right _ (List.mem_append_left _ (List.mem_of_getElem? (i := 41) (by decide +kernel)))) rfl
theorem kf_Reader_24 : Cond.fieldLink R_Reader 24 "PatternDesk$Reader" "program" "LPatternDesk$Program;" ∈ g_TB := g_mem (List.mem_append_right _ (List.mem_append_left _ (List.mem_of_getElem? (i := 122) (by decide +kernel)))) rfl
theorem kc_Reader_52 : g_okV R_Reader 52 y_Program_addNode c_Program_addNode 5 (some .int) 3 := ⟨g_mem (List.mem_append_right _ (List.mem_append_right _ (List.mem_append_left _ (List.mem_of_getElem? (i := 148) rfl)))) rfl, g_mem (List.mem_append_right _ (List.mem_append_left _ (List.mem_of_getElem? (i := 2) (by decide +kernel)))) rfl, g_mem (List.mem_append_right _ (List.mem_append_right _ (List.mem_append_left _ (List.mem_of_getElem? (i := 145) (by decide +kernel))))) rfl, g_mem (List.mem_append_right _ (List.mem_append_right _ (List.mem_append_left _ (List.mem_of_getElem? (i := 146) (by decide +kernel))))) rfl, g_mem (List.mem_append_right _ (List.mem_append_right _ (List.mem_append_left _ (List.mem_of_getElem? (i := 147) (by decide +kernel))))) rfl, by decide +kernel, by decide +kernel, by decide +kernel⟩
theorem kf_Reader_102 : Cond.fieldLink R_Reader 102 "PatternDesk$Reader" "alternative" "I" ∈ g_TB := g_mem (List.mem_append_right _ (List.mem_append_left _ (List.mem_of_getElem? (i := 132) (by decide +kernel)))) rfl
theorem kf_Reader_69 : Cond.fieldLink R_Reader 69 "PatternDesk$Reader" "tail" "I" ∈ g_TB := g_mem (List.mem_append_right _ (List.mem_append_left _ (List.mem_of_getElem? (i := 133) (by decide +kernel)))) rfl
theorem d_Desk_place_0 : decode c_Desk_place 0 = .ok (.aload_n 0, 1) := by decide +kernel
theorem d_Desk_place_1 : decode c_Desk_place 1 = .ok (.getfield 38, 3) := by decide +kernel
theorem d_Desk_place_4 : decode c_Desk_place 4 = .ok (.ireturn, 1) := by decide +kernel
theorem d_Rows_read_0 : decode c_Rows_read 0 = .ok (.iload_n 1, 1) := by decide +kernel
theorem d_Rows_read_1 : decode c_Rows_read 1 = .ok (.ifCond .lt 15, 3) := by decide +kernel
theorem d_Rows_read_4 : decode c_Rows_read 4 = .ok (.iload_n 1, 1) := by decide +kernel
theorem d_Rows_read_5 : decode c_Rows_read 5 = .ok (.aload_n 0, 1) := by decide +kernel
theorem d_Rows_read_6 : decode c_Rows_read 6 = .ok (.arraylength, 1) := by decide +kernel
theorem d_Rows_read_7 : decode c_Rows_read 7 = .ok (.if_icmp .ge 9, 3) := by decide +kernel
theorem d_Rows_read_10 : decode c_Rows_read 10 = .ok (.aload_n 0, 1) := by decide +kernel
theorem d_Rows_read_11 : decode c_Rows_read 11 = .ok (.iload_n 1, 1) := by decide +kernel
theorem d_Rows_read_12 : decode c_Rows_read 12 = .ok (.iaload, 1) := by decide +kernel
theorem d_Rows_read_13 : decode c_Rows_read 13 = .ok (.goto 4, 3) := by decide +kernel
theorem d_Rows_read_16 : decode c_Rows_read 16 = .ok (.iconst 0, 1) := by decide +kernel
theorem d_Rows_read_17 : decode c_Rows_read 17 = .ok (.ireturn, 1) := by decide +kernel
theorem d_Rows_write_0 : decode c_Rows_write 0 = .ok (.iload_n 1, 1) := by decide +kernel
theorem d_Rows_write_1 : decode c_Rows_write 1 = .ok (.ifCond .lt 13, 3) := by decide +kernel
theorem d_Rows_write_4 : decode c_Rows_write 4 = .ok (.iload_n 1, 1) := by decide +kernel
theorem d_Rows_write_5 : decode c_Rows_write 5 = .ok (.aload_n 0, 1) := by decide +kernel
theorem d_Rows_write_6 : decode c_Rows_write 6 = .ok (.arraylength, 1) := by decide +kernel
theorem d_Rows_write_7 : decode c_Rows_write 7 = .ok (.if_icmp .ge 7, 3) := by decide +kernel
theorem d_Rows_write_10 : decode c_Rows_write 10 = .ok (.aload_n 0, 1) := by decide +kernel
theorem d_Rows_write_11 : decode c_Rows_write 11 = .ok (.iload_n 1, 1) := by decide +kernel
theorem d_Rows_write_12 : decode c_Rows_write 12 = .ok (.iload_n 2, 1) := by decide +kernel
theorem d_Rows_write_13 : decode c_Rows_write 13 = .ok (.iastore, 1) := by decide +kernel
theorem d_Rows_write_14 : decode c_Rows_write 14 = .ok (.return_, 1) := by decide +kernel
theorem d_Machine_takeText_0 : decode c_Machine_takeText 0 = .ok (.iconst 0, 1) := by decide +kernel
theorem d_Machine_takeText_1 : decode c_Machine_takeText 1 = .ok (.istore_n 3, 1) := by decide +kernel
theorem d_Machine_takeText_2 : decode c_Machine_takeText 2 = .ok (.iload_n 3, 1) := by decide +kernel
theorem d_Machine_takeText_3 : decode c_Machine_takeText 3 = .ok (.iload_n 2, 1) := by decide +kernel
theorem d_Machine_takeText_4 : decode c_Machine_takeText 4 = .ok (.if_icmp .ge 22, 3) := by decide +kernel
theorem d_Machine_takeText_7 : decode c_Machine_takeText 7 = .ok (.aload_n 0, 1) := by decide +kernel
theorem d_Machine_takeText_8 : decode c_Machine_takeText 8 = .ok (.getfield 13, 3) := by decide +kernel
theorem d_Machine_takeText_11 : decode c_Machine_takeText 11 = .ok (.iload_n 3, 1) := by decide +kernel
theorem d_Machine_takeText_12 : decode c_Machine_takeText 12 = .ok (.aload_n 1, 1) := by decide +kernel
theorem d_Machine_takeText_13 : decode c_Machine_takeText 13 = .ok (.iload_n 3, 1) := by decide +kernel
theorem d_Machine_takeText_14 : decode c_Machine_takeText 14 = .ok (.invokestatic 43, 3) := by decide +kernel
theorem d_Machine_takeText_17 : decode c_Machine_takeText 17 = .ok (.invokestatic 49, 3) := by decide +kernel
theorem d_Machine_takeText_20 : decode c_Machine_takeText 20 = .ok (.iinc 3 1, 3) := by decide +kernel
theorem d_Machine_takeText_23 : decode c_Machine_takeText 23 = .ok (.goto (-21), 3) := by decide +kernel
theorem d_Machine_takeText_26 : decode c_Machine_takeText 26 = .ok (.aload_n 0, 1) := by decide +kernel
theorem d_Machine_takeText_27 : decode c_Machine_takeText 27 = .ok (.iload_n 2, 1) := by decide +kernel
theorem d_Machine_takeText_28 : decode c_Machine_takeText 28 = .ok (.putfield 53, 3) := by decide +kernel
theorem d_Machine_takeText_31 : decode c_Machine_takeText 31 = .ok (.return_, 1) := by decide +kernel
theorem d_Desk_text_0 : decode c_Desk_text 0 = .ok (.aload_n 0, 1) := by decide +kernel
theorem d_Desk_text_1 : decode c_Desk_text 1 = .ok (.getfield 49, 3) := by decide +kernel
theorem d_Desk_text_4 : decode c_Desk_text 4 = .ok (.istore_n 1, 1) := by decide +kernel
theorem d_Desk_text_5 : decode c_Desk_text 5 = .ok (.aload_n 0, 1) := by decide +kernel
theorem d_Desk_text_6 : decode c_Desk_text 6 = .ok (.iconst 0, 1) := by decide +kernel
theorem d_Desk_text_7 : decode c_Desk_text 7 = .ok (.putfield 49, 3) := by decide +kernel
theorem d_Desk_text_10 : decode c_Desk_text 10 = .ok (.aload_n 0, 1) := by decide +kernel
theorem d_Desk_text_11 : decode c_Desk_text 11 = .ok (.iconst 0, 1) := by decide +kernel
theorem d_Desk_text_12 : decode c_Desk_text 12 = .ok (.putfield 64, 3) := by decide +kernel
theorem d_Desk_text_15 : decode c_Desk_text 15 = .ok (.aload_n 0, 1) := by decide +kernel
theorem d_Desk_text_16 : decode c_Desk_text 16 = .ok (.getfield 34, 3) := by decide +kernel
theorem d_Desk_text_19 : decode c_Desk_text 19 = .ok (.aload_n 0, 1) := by decide +kernel
theorem d_Desk_text_20 : decode c_Desk_text 20 = .ok (.getfield 9, 3) := by decide +kernel
theorem d_Desk_text_23 : decode c_Desk_text 23 = .ok (.iload_n 1, 1) := by decide +kernel
theorem d_Desk_text_24 : decode c_Desk_text 24 = .ok (.invokevirtual 86, 3) := by decide +kernel
theorem d_Desk_text_27 : decode c_Desk_text 27 = .ok (.iload_n 1, 1) := by decide +kernel
theorem d_Desk_text_28 : decode c_Desk_text 28 = .ok (.ireturn, 1) := by decide +kernel
theorem d_Desk_steps_0 : decode c_Desk_steps 0 = .ok (.aload_n 0, 1) := by decide +kernel
theorem d_Desk_steps_1 : decode c_Desk_steps 1 = .ok (.getfield 34, 3) := by decide +kernel
theorem d_Desk_steps_4 : decode c_Desk_steps 4 = .ok (.getfield 117, 3) := by decide +kernel
theorem d_Desk_steps_7 : decode c_Desk_steps 7 = .ok (.ireturn, 1) := by decide +kernel
theorem d_Desk_settled_0 : decode c_Desk_settled 0 = .ok (.aload_n 0, 1) := by decide +kernel
theorem d_Desk_settled_1 : decode c_Desk_settled 1 = .ok (.iload_n 1, 1) := by decide +kernel
theorem d_Desk_settled_2 : decode c_Desk_settled 2 = .ok (.iconst 1, 1) := by decide +kernel
theorem d_Desk_settled_3 : decode c_Desk_settled 3 = .ok (.if_icmp .ne 7, 3) := by decide +kernel
theorem d_Desk_settled_6 : decode c_Desk_settled 6 = .ok (.iconst 1, 1) := by decide +kernel
theorem d_Desk_settled_7 : decode c_Desk_settled 7 = .ok (.goto 4, 3) := by decide +kernel
theorem d_Desk_settled_10 : decode c_Desk_settled 10 = .ok (.iconst 0, 1) := by decide +kernel
theorem d_Desk_settled_11 : decode c_Desk_settled 11 = .ok (.putfield 64, 3) := by decide +kernel
theorem d_Desk_settled_14 : decode c_Desk_settled 14 = .ok (.iload_n 1, 1) := by decide +kernel
theorem d_Desk_settled_15 : decode c_Desk_settled 15 = .ok (.ireturn, 1) := by decide +kernel
theorem d_Units_isDigit_0 : decode c_Units_isDigit 0 = .ok (.iload_n 0, 1) := by decide +kernel
theorem d_Units_isDigit_1 : decode c_Units_isDigit 1 = .ok (.bipush 48, 2) := by decide +kernel
theorem d_Units_isDigit_3 : decode c_Units_isDigit 3 = .ok (.if_icmp .lt 13, 3) := by decide +kernel
theorem d_Units_isDigit_6 : decode c_Units_isDigit 6 = .ok (.iload_n 0, 1) := by decide +kernel
theorem d_Units_isDigit_7 : decode c_Units_isDigit 7 = .ok (.bipush 57, 2) := by decide +kernel
theorem d_Units_isDigit_9 : decode c_Units_isDigit 9 = .ok (.if_icmp .gt 7, 3) := by decide +kernel
theorem d_Units_isDigit_12 : decode c_Units_isDigit 12 = .ok (.iconst 1, 1) := by decide +kernel
theorem d_Units_isDigit_13 : decode c_Units_isDigit 13 = .ok (.goto 4, 3) := by decide +kernel
theorem d_Units_isDigit_16 : decode c_Units_isDigit 16 = .ok (.iconst 0, 1) := by decide +kernel
theorem d_Units_isDigit_17 : decode c_Units_isDigit 17 = .ok (.ireturn, 1) := by decide +kernel
theorem d_Units_isLetter_0 : decode c_Units_isLetter 0 = .ok (.iload_n 0, 1) := by decide +kernel
theorem d_Units_isLetter_1 : decode c_Units_isLetter 1 = .ok (.bipush 65, 2) := by decide +kernel
theorem d_Units_isLetter_3 : decode c_Units_isLetter 3 = .ok (.if_icmp .lt 9, 3) := by decide +kernel
theorem d_Units_isLetter_6 : decode c_Units_isLetter 6 = .ok (.iload_n 0, 1) := by decide +kernel
theorem d_Units_isLetter_7 : decode c_Units_isLetter 7 = .ok (.bipush 90, 2) := by decide +kernel
theorem d_Units_isLetter_9 : decode c_Units_isLetter 9 = .ok (.if_icmp .le 15, 3) := by decide +kernel
theorem d_Units_isLetter_12 : decode c_Units_isLetter 12 = .ok (.iload_n 0, 1) := by decide +kernel
theorem d_Units_isLetter_13 : decode c_Units_isLetter 13 = .ok (.bipush 97, 2) := by decide +kernel
theorem d_Units_isLetter_15 : decode c_Units_isLetter 15 = .ok (.if_icmp .lt 13, 3) := by decide +kernel
theorem d_Units_isLetter_18 : decode c_Units_isLetter 18 = .ok (.iload_n 0, 1) := by decide +kernel
theorem d_Units_isLetter_19 : decode c_Units_isLetter 19 = .ok (.bipush 122, 2) := by decide +kernel
theorem d_Units_isLetter_21 : decode c_Units_isLetter 21 = .ok (.if_icmp .gt 7, 3) := by decide +kernel
theorem d_Units_isLetter_24 : decode c_Units_isLetter 24 = .ok (.iconst 1, 1) := by decide +kernel
theorem d_Units_isLetter_25 : decode c_Units_isLetter 25 = .ok (.goto 4, 3) := by decide +kernel
theorem d_Units_isLetter_28 : decode c_Units_isLetter 28 = .ok (.iconst 0, 1) := by decide +kernel
theorem d_Units_isLetter_29 : decode c_Units_isLetter 29 = .ok (.ireturn, 1) := by decide +kernel
theorem d_Units_isWord_0 : decode c_Units_isWord 0 = .ok (.iload_n 0, 1) := by decide +kernel
theorem d_Units_isWord_1 : decode c_Units_isWord 1 = .ok (.invokestatic 7, 3) := by decide +kernel
theorem d_Units_isWord_4 : decode c_Units_isWord 4 = .ok (.ifCond .ne 16, 3) := by decide +kernel
theorem d_Units_isWord_7 : decode c_Units_isWord 7 = .ok (.iload_n 0, 1) := by decide +kernel
theorem d_Units_isWord_8 : decode c_Units_isWord 8 = .ok (.invokestatic 13, 3) := by decide +kernel
theorem d_Units_isWord_11 : decode c_Units_isWord 11 = .ok (.ifCond .ne 9, 3) := by decide +kernel
theorem d_Units_isWord_14 : decode c_Units_isWord 14 = .ok (.iload_n 0, 1) := by decide +kernel
theorem d_Units_isWord_15 : decode c_Units_isWord 15 = .ok (.bipush 95, 2) := by decide +kernel
theorem d_Units_isWord_17 : decode c_Units_isWord 17 = .ok (.if_icmp .ne 7, 3) := by decide +kernel
theorem d_Units_isWord_20 : decode c_Units_isWord 20 = .ok (.iconst 1, 1) := by decide +kernel
theorem d_Units_isWord_21 : decode c_Units_isWord 21 = .ok (.goto 4, 3) := by decide +kernel
theorem d_Units_isWord_24 : decode c_Units_isWord 24 = .ok (.iconst 0, 1) := by decide +kernel
theorem d_Units_isWord_25 : decode c_Units_isWord 25 = .ok (.ireturn, 1) := by decide +kernel
theorem d_Units_isLineEnd_0 : decode c_Units_isLineEnd 0 = .ok (.iload_n 0, 1) := by decide +kernel
theorem d_Units_isLineEnd_1 : decode c_Units_isLineEnd 1 = .ok (.bipush 10, 2) := by decide +kernel
theorem d_Units_isLineEnd_3 : decode c_Units_isLineEnd 3 = .ok (.if_icmp .eq 23, 3) := by decide +kernel
theorem d_Units_isLineEnd_6 : decode c_Units_isLineEnd 6 = .ok (.iload_n 0, 1) := by decide +kernel
theorem d_Units_isLineEnd_7 : decode c_Units_isLineEnd 7 = .ok (.bipush 13, 2) := by decide +kernel
theorem d_Units_isLineEnd_9 : decode c_Units_isLineEnd 9 = .ok (.if_icmp .eq 17, 3) := by decide +kernel
theorem d_Units_isLineEnd_12 : decode c_Units_isLineEnd 12 = .ok (.iload_n 0, 1) := by decide +kernel
theorem d_Units_isLineEnd_13 : decode c_Units_isLineEnd 13 = .ok (.sipush 8232, 3) := by decide +kernel
theorem d_Units_isLineEnd_16 : decode c_Units_isLineEnd 16 = .ok (.if_icmp .eq 10, 3) := by decide +kernel
theorem d_Units_isLineEnd_19 : decode c_Units_isLineEnd 19 = .ok (.iload_n 0, 1) := by decide +kernel
theorem d_Units_isLineEnd_20 : decode c_Units_isLineEnd 20 = .ok (.sipush 8233, 3) := by decide +kernel
theorem d_Units_isLineEnd_23 : decode c_Units_isLineEnd 23 = .ok (.if_icmp .ne 7, 3) := by decide +kernel
theorem d_Units_isLineEnd_26 : decode c_Units_isLineEnd 26 = .ok (.iconst 1, 1) := by decide +kernel
theorem d_Units_isLineEnd_27 : decode c_Units_isLineEnd 27 = .ok (.goto 4, 3) := by decide +kernel
theorem d_Units_isLineEnd_30 : decode c_Units_isLineEnd 30 = .ok (.iconst 0, 1) := by decide +kernel
theorem d_Units_isLineEnd_31 : decode c_Units_isLineEnd 31 = .ok (.ireturn, 1) := by decide +kernel
theorem d_Units_isBlank_0 : decode c_Units_isBlank 0 = .ok (.iload_n 0, 1) := by decide +kernel
theorem d_Units_isBlank_1 : decode c_Units_isBlank 1 = .ok (.lookupswitch 101 #[(9, 99), (11, 99), (12, 99), (32, 99), (160, 99), (5760, 99), (6158, 99), (8239, 99), (8287, 99), (12288, 99), (65279, 99)], 99) := by decide +kernel
theorem d_Units_isBlank_100 : decode c_Units_isBlank 100 = .ok (.iconst 1, 1) := by decide +kernel
theorem d_Units_isBlank_101 : decode c_Units_isBlank 101 = .ok (.ireturn, 1) := by decide +kernel
theorem d_Units_isBlank_102 : decode c_Units_isBlank 102 = .ok (.iload_n 0, 1) := by decide +kernel
theorem d_Units_isBlank_103 : decode c_Units_isBlank 103 = .ok (.sipush 8192, 3) := by decide +kernel
theorem d_Units_isBlank_106 : decode c_Units_isBlank 106 = .ok (.if_icmp .lt 14, 3) := by decide +kernel
theorem d_Units_isBlank_109 : decode c_Units_isBlank 109 = .ok (.iload_n 0, 1) := by decide +kernel
theorem d_Units_isBlank_110 : decode c_Units_isBlank 110 = .ok (.sipush 8202, 3) := by decide +kernel
theorem d_Units_isBlank_113 : decode c_Units_isBlank 113 = .ok (.if_icmp .gt 7, 3) := by decide +kernel
theorem d_Units_isBlank_116 : decode c_Units_isBlank 116 = .ok (.iconst 1, 1) := by decide +kernel
theorem d_Units_isBlank_117 : decode c_Units_isBlank 117 = .ok (.goto 4, 3) := by decide +kernel
theorem d_Units_isBlank_120 : decode c_Units_isBlank 120 = .ok (.iconst 0, 1) := by decide +kernel
theorem d_Units_isBlank_121 : decode c_Units_isBlank 121 = .ok (.ireturn, 1) := by decide +kernel
theorem d_Units_isNamePart_0 : decode c_Units_isNamePart 0 = .ok (.iload_n 0, 1) := by decide +kernel
theorem d_Units_isNamePart_1 : decode c_Units_isNamePart 1 = .ok (.lookupswitch 53 #[(36, 51), (95, 51), (170, 51), (181, 51), (186, 51)], 51) := by decide +kernel
theorem d_Units_isNamePart_52 : decode c_Units_isNamePart 52 = .ok (.iconst 1, 1) := by decide +kernel
theorem d_Units_isNamePart_53 : decode c_Units_isNamePart 53 = .ok (.ireturn, 1) := by decide +kernel
theorem d_Units_isNamePart_54 : decode c_Units_isNamePart 54 = .ok (.iload_n 0, 1) := by decide +kernel
theorem d_Units_isNamePart_55 : decode c_Units_isNamePart 55 = .ok (.invokestatic 7, 3) := by decide +kernel
theorem d_Units_isNamePart_58 : decode c_Units_isNamePart 58 = .ok (.ifCond .ne 38, 3) := by decide +kernel
theorem d_Units_isNamePart_61 : decode c_Units_isNamePart 61 = .ok (.iload_n 0, 1) := by decide +kernel
theorem d_Units_isNamePart_62 : decode c_Units_isNamePart 62 = .ok (.invokestatic 13, 3) := by decide +kernel
theorem d_Units_isNamePart_65 : decode c_Units_isNamePart 65 = .ok (.ifCond .ne 31, 3) := by decide +kernel
theorem d_Units_isNamePart_68 : decode c_Units_isNamePart 68 = .ok (.iload_n 0, 1) := by decide +kernel
theorem d_Units_isNamePart_69 : decode c_Units_isNamePart 69 = .ok (.sipush 192, 3) := by decide +kernel
theorem d_Units_isNamePart_72 : decode c_Units_isNamePart 72 = .ok (.if_icmp .lt 28, 3) := by decide +kernel
theorem d_Units_isNamePart_75 : decode c_Units_isNamePart 75 = .ok (.iload_n 0, 1) := by decide +kernel
theorem d_Units_isNamePart_76 : decode c_Units_isNamePart 76 = .ok (.sipush 255, 3) := by decide +kernel
theorem d_Units_isNamePart_79 : decode c_Units_isNamePart 79 = .ok (.if_icmp .gt 21, 3) := by decide +kernel
theorem d_Units_isNamePart_82 : decode c_Units_isNamePart 82 = .ok (.iload_n 0, 1) := by decide +kernel
theorem d_Units_isNamePart_83 : decode c_Units_isNamePart 83 = .ok (.sipush 215, 3) := by decide +kernel
theorem d_Units_isNamePart_86 : decode c_Units_isNamePart 86 = .ok (.if_icmp .eq 14, 3) := by decide +kernel
theorem d_Units_isNamePart_89 : decode c_Units_isNamePart 89 = .ok (.iload_n 0, 1) := by decide +kernel
theorem d_Units_isNamePart_90 : decode c_Units_isNamePart 90 = .ok (.sipush 247, 3) := by decide +kernel
theorem d_Units_isNamePart_93 : decode c_Units_isNamePart 93 = .ok (.if_icmp .eq 7, 3) := by decide +kernel
theorem d_Units_isNamePart_96 : decode c_Units_isNamePart 96 = .ok (.iconst 1, 1) := by decide +kernel
theorem d_Units_isNamePart_97 : decode c_Units_isNamePart 97 = .ok (.goto 4, 3) := by decide +kernel
theorem d_Units_isNamePart_100 : decode c_Units_isNamePart 100 = .ok (.iconst 0, 1) := by decide +kernel
theorem d_Units_isNamePart_101 : decode c_Units_isNamePart 101 = .ok (.ireturn, 1) := by decide +kernel
theorem d_Units_inSet_0 : decode c_Units_inSet 0 = .ok (.iload_n 0, 1) := by decide +kernel
theorem d_Units_inSet_1 : decode c_Units_inSet 1 = .ok (.ldc 16, 2) := by decide +kernel
theorem d_Units_inSet_3 : decode c_Units_inSet 3 = .ok (.isub, 1) := by decide +kernel
theorem d_Units_inSet_4 : decode c_Units_inSet 4 = .ok (.lookupswitch 115 #[(68, 57), (83, 90), (100, 52), (115, 70), (119, 110)], 52) := by decide +kernel
theorem d_Units_inSet_56 : decode c_Units_inSet 56 = .ok (.iload_n 1, 1) := by decide +kernel
theorem d_Units_inSet_57 : decode c_Units_inSet 57 = .ok (.invokestatic 13, 3) := by decide +kernel
theorem d_Units_inSet_60 : decode c_Units_inSet 60 = .ok (.ireturn, 1) := by decide +kernel
theorem d_Units_inSet_61 : decode c_Units_inSet 61 = .ok (.iload_n 1, 1) := by decide +kernel
theorem d_Units_inSet_62 : decode c_Units_inSet 62 = .ok (.invokestatic 13, 3) := by decide +kernel
theorem d_Units_inSet_65 : decode c_Units_inSet 65 = .ok (.ifCond .ne 7, 3) := by decide +kernel
theorem d_Units_inSet_68 : decode c_Units_inSet 68 = .ok (.iconst 1, 1) := by decide +kernel
theorem d_Units_inSet_69 : decode c_Units_inSet 69 = .ok (.goto 4, 3) := by decide +kernel
theorem d_Units_inSet_72 : decode c_Units_inSet 72 = .ok (.iconst 0, 1) := by decide +kernel
theorem d_Units_inSet_73 : decode c_Units_inSet 73 = .ok (.ireturn, 1) := by decide +kernel
theorem d_Units_inSet_74 : decode c_Units_inSet 74 = .ok (.iload_n 1, 1) := by decide +kernel
theorem d_Units_inSet_75 : decode c_Units_inSet 75 = .ok (.invokestatic 17, 3) := by decide +kernel
theorem d_Units_inSet_78 : decode c_Units_inSet 78 = .ok (.ifCond .ne 10, 3) := by decide +kernel
theorem d_Units_inSet_81 : decode c_Units_inSet 81 = .ok (.iload_n 1, 1) := by decide +kernel
theorem d_Units_inSet_82 : decode c_Units_inSet 82 = .ok (.invokestatic 20, 3) := by decide +kernel
theorem d_Units_inSet_85 : decode c_Units_inSet 85 = .ok (.ifCond .eq 7, 3) := by decide +kernel
theorem d_Units_inSet_88 : decode c_Units_inSet 88 = .ok (.iconst 1, 1) := by decide +kernel
theorem d_Units_inSet_89 : decode c_Units_inSet 89 = .ok (.goto 4, 3) := by decide +kernel
theorem d_Units_inSet_92 : decode c_Units_inSet 92 = .ok (.iconst 0, 1) := by decide +kernel
theorem d_Units_inSet_93 : decode c_Units_inSet 93 = .ok (.ireturn, 1) := by decide +kernel
theorem d_Units_inSet_94 : decode c_Units_inSet 94 = .ok (.iload_n 1, 1) := by decide +kernel
theorem d_Units_inSet_95 : decode c_Units_inSet 95 = .ok (.invokestatic 17, 3) := by decide +kernel
theorem d_Units_inSet_98 : decode c_Units_inSet 98 = .ok (.ifCond .ne 14, 3) := by decide +kernel
theorem d_Units_inSet_101 : decode c_Units_inSet 101 = .ok (.iload_n 1, 1) := by decide +kernel
theorem d_Units_inSet_102 : decode c_Units_inSet 102 = .ok (.invokestatic 20, 3) := by decide +kernel
theorem d_Units_inSet_105 : decode c_Units_inSet 105 = .ok (.ifCond .ne 7, 3) := by decide +kernel
theorem d_Units_inSet_108 : decode c_Units_inSet 108 = .ok (.iconst 1, 1) := by decide +kernel
theorem d_Units_inSet_109 : decode c_Units_inSet 109 = .ok (.goto 4, 3) := by decide +kernel
theorem d_Units_inSet_112 : decode c_Units_inSet 112 = .ok (.iconst 0, 1) := by decide +kernel
theorem d_Units_inSet_113 : decode c_Units_inSet 113 = .ok (.ireturn, 1) := by decide +kernel
theorem d_Units_inSet_114 : decode c_Units_inSet 114 = .ok (.iload_n 1, 1) := by decide +kernel
theorem d_Units_inSet_115 : decode c_Units_inSet 115 = .ok (.invokestatic 23, 3) := by decide +kernel
theorem d_Units_inSet_118 : decode c_Units_inSet 118 = .ok (.ireturn, 1) := by decide +kernel
theorem d_Units_inSet_119 : decode c_Units_inSet 119 = .ok (.iload_n 1, 1) := by decide +kernel
theorem d_Units_inSet_120 : decode c_Units_inSet 120 = .ok (.invokestatic 23, 3) := by decide +kernel
theorem d_Units_inSet_123 : decode c_Units_inSet 123 = .ok (.ifCond .ne 7, 3) := by decide +kernel
theorem d_Units_inSet_126 : decode c_Units_inSet 126 = .ok (.iconst 1, 1) := by decide +kernel
theorem d_Units_inSet_127 : decode c_Units_inSet 127 = .ok (.goto 4, 3) := by decide +kernel
theorem d_Units_inSet_130 : decode c_Units_inSet 130 = .ok (.iconst 0, 1) := by decide +kernel
theorem d_Units_inSet_131 : decode c_Units_inSet 131 = .ok (.ireturn, 1) := by decide +kernel
theorem d_Units_sixteenth_0 : decode c_Units_sixteenth 0 = .ok (.iload_n 0, 1) := by decide +kernel
theorem d_Units_sixteenth_1 : decode c_Units_sixteenth 1 = .ok (.bipush 48, 2) := by decide +kernel
theorem d_Units_sixteenth_3 : decode c_Units_sixteenth 3 = .ok (.if_icmp .lt 14, 3) := by decide +kernel
theorem d_Units_sixteenth_6 : decode c_Units_sixteenth 6 = .ok (.iload_n 0, 1) := by decide +kernel
theorem d_Units_sixteenth_7 : decode c_Units_sixteenth 7 = .ok (.bipush 57, 2) := by decide +kernel
theorem d_Units_sixteenth_9 : decode c_Units_sixteenth 9 = .ok (.if_icmp .gt 8, 3) := by decide +kernel
theorem d_Units_sixteenth_12 : decode c_Units_sixteenth 12 = .ok (.iload_n 0, 1) := by decide +kernel
theorem d_Units_sixteenth_13 : decode c_Units_sixteenth 13 = .ok (.bipush 48, 2) := by decide +kernel
theorem d_Units_sixteenth_15 : decode c_Units_sixteenth 15 = .ok (.isub, 1) := by decide +kernel
theorem d_Units_sixteenth_16 : decode c_Units_sixteenth 16 = .ok (.ireturn, 1) := by decide +kernel
theorem d_Units_sixteenth_17 : decode c_Units_sixteenth 17 = .ok (.iload_n 0, 1) := by decide +kernel
theorem d_Units_sixteenth_18 : decode c_Units_sixteenth 18 = .ok (.bipush 97, 2) := by decide +kernel
theorem d_Units_sixteenth_20 : decode c_Units_sixteenth 20 = .ok (.if_icmp .lt 17, 3) := by decide +kernel
theorem d_Units_sixteenth_23 : decode c_Units_sixteenth 23 = .ok (.iload_n 0, 1) := by decide +kernel
theorem d_Units_sixteenth_24 : decode c_Units_sixteenth 24 = .ok (.bipush 102, 2) := by decide +kernel
theorem d_Units_sixteenth_26 : decode c_Units_sixteenth 26 = .ok (.if_icmp .gt 11, 3) := by decide +kernel
theorem d_Units_sixteenth_29 : decode c_Units_sixteenth 29 = .ok (.iload_n 0, 1) := by decide +kernel
theorem d_Units_sixteenth_30 : decode c_Units_sixteenth 30 = .ok (.bipush 97, 2) := by decide +kernel
theorem d_Units_sixteenth_32 : decode c_Units_sixteenth 32 = .ok (.isub, 1) := by decide +kernel
theorem d_Units_sixteenth_33 : decode c_Units_sixteenth 33 = .ok (.bipush 10, 2) := by decide +kernel
theorem d_Units_sixteenth_35 : decode c_Units_sixteenth 35 = .ok (.iadd, 1) := by decide +kernel
theorem d_Units_sixteenth_36 : decode c_Units_sixteenth 36 = .ok (.ireturn, 1) := by decide +kernel
theorem d_Units_sixteenth_37 : decode c_Units_sixteenth 37 = .ok (.iload_n 0, 1) := by decide +kernel
theorem d_Units_sixteenth_38 : decode c_Units_sixteenth 38 = .ok (.bipush 65, 2) := by decide +kernel
theorem d_Units_sixteenth_40 : decode c_Units_sixteenth 40 = .ok (.if_icmp .lt 19, 3) := by decide +kernel
theorem d_Units_sixteenth_43 : decode c_Units_sixteenth 43 = .ok (.iload_n 0, 1) := by decide +kernel
theorem d_Units_sixteenth_44 : decode c_Units_sixteenth 44 = .ok (.bipush 70, 2) := by decide +kernel
theorem d_Units_sixteenth_46 : decode c_Units_sixteenth 46 = .ok (.if_icmp .gt 13, 3) := by decide +kernel
theorem d_Units_sixteenth_49 : decode c_Units_sixteenth 49 = .ok (.iload_n 0, 1) := by decide +kernel
theorem d_Units_sixteenth_50 : decode c_Units_sixteenth 50 = .ok (.bipush 65, 2) := by decide +kernel
theorem d_Units_sixteenth_52 : decode c_Units_sixteenth 52 = .ok (.isub, 1) := by decide +kernel
theorem d_Units_sixteenth_53 : decode c_Units_sixteenth 53 = .ok (.bipush 10, 2) := by decide +kernel
theorem d_Units_sixteenth_55 : decode c_Units_sixteenth 55 = .ok (.iadd, 1) := by decide +kernel
theorem d_Units_sixteenth_56 : decode c_Units_sixteenth 56 = .ok (.goto 4, 3) := by decide +kernel
theorem d_Units_sixteenth_59 : decode c_Units_sixteenth 59 = .ok (.iconst (-1), 1) := by decide +kernel
theorem d_Units_sixteenth_60 : decode c_Units_sixteenth 60 = .ok (.ireturn, 1) := by decide +kernel
theorem d_Units_upper_0 : decode c_Units_upper 0 = .ok (.iload_n 0, 1) := by decide +kernel
theorem d_Units_upper_1 : decode c_Units_upper 1 = .ok (.bipush 97, 2) := by decide +kernel
theorem d_Units_upper_3 : decode c_Units_upper 3 = .ok (.if_icmp .lt 9, 3) := by decide +kernel
theorem d_Units_upper_6 : decode c_Units_upper 6 = .ok (.iload_n 0, 1) := by decide +kernel
theorem d_Units_upper_7 : decode c_Units_upper 7 = .ok (.bipush 122, 2) := by decide +kernel
theorem d_Units_upper_9 : decode c_Units_upper 9 = .ok (.if_icmp .le 24, 3) := by decide +kernel
theorem d_Units_upper_12 : decode c_Units_upper 12 = .ok (.iload_n 0, 1) := by decide +kernel
theorem d_Units_upper_13 : decode c_Units_upper 13 = .ok (.sipush 224, 3) := by decide +kernel
theorem d_Units_upper_16 : decode c_Units_upper 16 = .ok (.if_icmp .lt 22, 3) := by decide +kernel
theorem d_Units_upper_19 : decode c_Units_upper 19 = .ok (.iload_n 0, 1) := by decide +kernel
theorem d_Units_upper_20 : decode c_Units_upper 20 = .ok (.sipush 254, 3) := by decide +kernel
theorem d_Units_upper_23 : decode c_Units_upper 23 = .ok (.if_icmp .gt 15, 3) := by decide +kernel
theorem d_Units_upper_26 : decode c_Units_upper 26 = .ok (.iload_n 0, 1) := by decide +kernel
theorem d_Units_upper_27 : decode c_Units_upper 27 = .ok (.sipush 247, 3) := by decide +kernel
theorem d_Units_upper_30 : decode c_Units_upper 30 = .ok (.if_icmp .eq 8, 3) := by decide +kernel
theorem d_Units_upper_33 : decode c_Units_upper 33 = .ok (.iload_n 0, 1) := by decide +kernel
theorem d_Units_upper_34 : decode c_Units_upper 34 = .ok (.bipush 32, 2) := by decide +kernel
theorem d_Units_upper_36 : decode c_Units_upper 36 = .ok (.isub, 1) := by decide +kernel
theorem d_Units_upper_37 : decode c_Units_upper 37 = .ok (.ireturn, 1) := by decide +kernel
theorem d_Units_upper_38 : decode c_Units_upper 38 = .ok (.iload_n 0, 1) := by decide +kernel
theorem d_Units_upper_39 : decode c_Units_upper 39 = .ok (.sipush 255, 3) := by decide +kernel
theorem d_Units_upper_42 : decode c_Units_upper 42 = .ok (.if_icmp .ne 7, 3) := by decide +kernel
theorem d_Units_upper_45 : decode c_Units_upper 45 = .ok (.sipush 376, 3) := by decide +kernel
theorem d_Units_upper_48 : decode c_Units_upper 48 = .ok (.ireturn, 1) := by decide +kernel
theorem d_Units_upper_49 : decode c_Units_upper 49 = .ok (.iload_n 0, 1) := by decide +kernel
theorem d_Units_upper_50 : decode c_Units_upper 50 = .ok (.sipush 181, 3) := by decide +kernel
theorem d_Units_upper_53 : decode c_Units_upper 53 = .ok (.if_icmp .ne 9, 3) := by decide +kernel
theorem d_Units_upper_56 : decode c_Units_upper 56 = .ok (.sipush 924, 3) := by decide +kernel
theorem d_Units_upper_59 : decode c_Units_upper 59 = .ok (.goto 4, 3) := by decide +kernel
theorem d_Units_upper_62 : decode c_Units_upper 62 = .ok (.iload_n 0, 1) := by decide +kernel
theorem d_Units_upper_63 : decode c_Units_upper 63 = .ok (.ireturn, 1) := by decide +kernel
theorem d_Units_twin_0 : decode c_Units_twin 0 = .ok (.iload_n 0, 1) := by decide +kernel
theorem d_Units_twin_1 : decode c_Units_twin 1 = .ok (.invokestatic 26, 3) := by decide +kernel
theorem d_Units_twin_4 : decode c_Units_twin 4 = .ok (.istore_n 1, 1) := by decide +kernel
theorem d_Units_twin_5 : decode c_Units_twin 5 = .ok (.iload_n 1, 1) := by decide +kernel
theorem d_Units_twin_6 : decode c_Units_twin 6 = .ok (.iload_n 0, 1) := by decide +kernel
theorem d_Units_twin_7 : decode c_Units_twin 7 = .ok (.if_icmp .eq 5, 3) := by decide +kernel
theorem d_Units_twin_10 : decode c_Units_twin 10 = .ok (.iload_n 1, 1) := by decide +kernel
theorem d_Units_twin_11 : decode c_Units_twin 11 = .ok (.ireturn, 1) := by decide +kernel
theorem d_Units_twin_12 : decode c_Units_twin 12 = .ok (.iload_n 0, 1) := by decide +kernel
theorem d_Units_twin_13 : decode c_Units_twin 13 = .ok (.bipush 65, 2) := by decide +kernel
theorem d_Units_twin_15 : decode c_Units_twin 15 = .ok (.if_icmp .lt 9, 3) := by decide +kernel
theorem d_Units_twin_18 : decode c_Units_twin 18 = .ok (.iload_n 0, 1) := by decide +kernel
theorem d_Units_twin_19 : decode c_Units_twin 19 = .ok (.bipush 90, 2) := by decide +kernel
theorem d_Units_twin_21 : decode c_Units_twin 21 = .ok (.if_icmp .le 24, 3) := by decide +kernel
theorem d_Units_twin_24 : decode c_Units_twin 24 = .ok (.iload_n 0, 1) := by decide +kernel
theorem d_Units_twin_25 : decode c_Units_twin 25 = .ok (.sipush 192, 3) := by decide +kernel
theorem d_Units_twin_28 : decode c_Units_twin 28 = .ok (.if_icmp .lt 22, 3) := by decide +kernel
theorem d_Units_twin_31 : decode c_Units_twin 31 = .ok (.iload_n 0, 1) := by decide +kernel
theorem d_Units_twin_32 : decode c_Units_twin 32 = .ok (.sipush 222, 3) := by decide +kernel
theorem d_Units_twin_35 : decode c_Units_twin 35 = .ok (.if_icmp .gt 15, 3) := by decide +kernel
theorem d_Units_twin_38 : decode c_Units_twin 38 = .ok (.iload_n 0, 1) := by decide +kernel
theorem d_Units_twin_39 : decode c_Units_twin 39 = .ok (.sipush 215, 3) := by decide +kernel
theorem d_Units_twin_42 : decode c_Units_twin 42 = .ok (.if_icmp .eq 8, 3) := by decide +kernel
theorem d_Units_twin_45 : decode c_Units_twin 45 = .ok (.iload_n 0, 1) := by decide +kernel
theorem d_Units_twin_46 : decode c_Units_twin 46 = .ok (.bipush 32, 2) := by decide +kernel
theorem d_Units_twin_48 : decode c_Units_twin 48 = .ok (.iadd, 1) := by decide +kernel
theorem d_Units_twin_49 : decode c_Units_twin 49 = .ok (.ireturn, 1) := by decide +kernel
theorem d_Units_twin_50 : decode c_Units_twin 50 = .ok (.iload_n 0, 1) := by decide +kernel
theorem d_Units_twin_51 : decode c_Units_twin 51 = .ok (.sipush 376, 3) := by decide +kernel
theorem d_Units_twin_54 : decode c_Units_twin 54 = .ok (.if_icmp .ne 7, 3) := by decide +kernel
theorem d_Units_twin_57 : decode c_Units_twin 57 = .ok (.sipush 255, 3) := by decide +kernel
theorem d_Units_twin_60 : decode c_Units_twin 60 = .ok (.ireturn, 1) := by decide +kernel
theorem d_Units_twin_61 : decode c_Units_twin 61 = .ok (.iload_n 0, 1) := by decide +kernel
theorem d_Units_twin_62 : decode c_Units_twin 62 = .ok (.sipush 924, 3) := by decide +kernel
theorem d_Units_twin_65 : decode c_Units_twin 65 = .ok (.if_icmp .ne 9, 3) := by decide +kernel
theorem d_Units_twin_68 : decode c_Units_twin 68 = .ok (.sipush 181, 3) := by decide +kernel
theorem d_Units_twin_71 : decode c_Units_twin 71 = .ok (.goto 4, 3) := by decide +kernel
theorem d_Units_twin_74 : decode c_Units_twin 74 = .ok (.iload_n 0, 1) := by decide +kernel
theorem d_Units_twin_75 : decode c_Units_twin 75 = .ok (.ireturn, 1) := by decide +kernel
theorem d_Program_clear_0 : decode c_Program_clear 0 = .ok (.aload_n 0, 1) := by decide +kernel
theorem d_Program_clear_1 : decode c_Program_clear 1 = .ok (.iconst 0, 1) := by decide +kernel
theorem d_Program_clear_2 : decode c_Program_clear 2 = .ok (.putfield 48, 3) := by decide +kernel
theorem d_Program_clear_5 : decode c_Program_clear 5 = .ok (.aload_n 0, 1) := by decide +kernel
theorem d_Program_clear_6 : decode c_Program_clear 6 = .ok (.iconst 0, 1) := by decide +kernel
theorem d_Program_clear_7 : decode c_Program_clear 7 = .ok (.putfield 52, 3) := by decide +kernel
theorem d_Program_clear_10 : decode c_Program_clear 10 = .ok (.aload_n 0, 1) := by decide +kernel
theorem d_Program_clear_11 : decode c_Program_clear 11 = .ok (.iconst 0, 1) := by decide +kernel
theorem d_Program_clear_12 : decode c_Program_clear 12 = .ok (.putfield 55, 3) := by decide +kernel
theorem d_Program_clear_15 : decode c_Program_clear 15 = .ok (.aload_n 0, 1) := by decide +kernel
theorem d_Program_clear_16 : decode c_Program_clear 16 = .ok (.iconst 0, 1) := by decide +kernel
theorem d_Program_clear_17 : decode c_Program_clear 17 = .ok (.putfield 58, 3) := by decide +kernel
theorem d_Program_clear_20 : decode c_Program_clear 20 = .ok (.aload_n 0, 1) := by decide +kernel
theorem d_Program_clear_21 : decode c_Program_clear 21 = .ok (.iconst 0, 1) := by decide +kernel
theorem d_Program_clear_22 : decode c_Program_clear 22 = .ok (.putfield 61, 3) := by decide +kernel
theorem d_Program_clear_25 : decode c_Program_clear 25 = .ok (.return_, 1) := by decide +kernel
theorem d_Program_addNode_0 : decode c_Program_addNode 0 = .ok (.aload_n 0, 1) := by decide +kernel
theorem d_Program_addNode_1 : decode c_Program_addNode 1 = .ok (.getfield 48, 3) := by decide +kernel
theorem d_Program_addNode_4 : decode c_Program_addNode 4 = .ok (.istore 4, 2) := by decide +kernel
theorem d_Program_addNode_6 : decode c_Program_addNode 6 = .ok (.iload 4, 2) := by decide +kernel
theorem d_Program_addNode_8 : decode c_Program_addNode 8 = .ok (.ifCond .lt 53, 3) := by decide +kernel
theorem d_Program_addNode_11 : decode c_Program_addNode 11 = .ok (.iload 4, 2) := by decide +kernel
theorem d_Program_addNode_13 : decode c_Program_addNode 13 = .ok (.sipush 602, 3) := by decide +kernel
theorem d_Program_addNode_16 : decode c_Program_addNode 16 = .ok (.if_icmp .ge 45, 3) := by decide +kernel
theorem d_Program_addNode_19 : decode c_Program_addNode 19 = .ok (.aload_n 0, 1) := by decide +kernel
theorem d_Program_addNode_20 : decode c_Program_addNode 20 = .ok (.getfield 11, 3) := by decide +kernel
theorem d_Program_addNode_23 : decode c_Program_addNode 23 = .ok (.iload 4, 2) := by decide +kernel
theorem d_Program_addNode_25 : decode c_Program_addNode 25 = .ok (.iload_n 1, 1) := by decide +kernel
theorem d_Program_addNode_26 : decode c_Program_addNode 26 = .ok (.iastore, 1) := by decide +kernel
theorem d_Program_addNode_27 : decode c_Program_addNode 27 = .ok (.aload_n 0, 1) := by decide +kernel
theorem d_Program_addNode_28 : decode c_Program_addNode 28 = .ok (.getfield 15, 3) := by decide +kernel
theorem d_Program_addNode_31 : decode c_Program_addNode 31 = .ok (.iload 4, 2) := by decide +kernel
theorem d_Program_addNode_33 : decode c_Program_addNode 33 = .ok (.iconst 0, 1) := by decide +kernel
theorem d_Program_addNode_34 : decode c_Program_addNode 34 = .ok (.iastore, 1) := by decide +kernel
theorem d_Program_addNode_35 : decode c_Program_addNode 35 = .ok (.aload_n 0, 1) := by decide +kernel
theorem d_Program_addNode_36 : decode c_Program_addNode 36 = .ok (.getfield 18, 3) := by decide +kernel
theorem d_Program_addNode_39 : decode c_Program_addNode 39 = .ok (.iload 4, 2) := by decide +kernel
theorem d_Program_addNode_41 : decode c_Program_addNode 41 = .ok (.iload_n 2, 1) := by decide +kernel
theorem d_Program_addNode_42 : decode c_Program_addNode 42 = .ok (.iastore, 1) := by decide +kernel
theorem d_Program_addNode_43 : decode c_Program_addNode 43 = .ok (.aload_n 0, 1) := by decide +kernel
theorem d_Program_addNode_44 : decode c_Program_addNode 44 = .ok (.getfield 21, 3) := by decide +kernel
theorem d_Program_addNode_47 : decode c_Program_addNode 47 = .ok (.iload 4, 2) := by decide +kernel
theorem d_Program_addNode_49 : decode c_Program_addNode 49 = .ok (.iload_n 3, 1) := by decide +kernel
theorem d_Program_addNode_50 : decode c_Program_addNode 50 = .ok (.iastore, 1) := by decide +kernel
theorem d_Program_addNode_51 : decode c_Program_addNode 51 = .ok (.aload_n 0, 1) := by decide +kernel
theorem d_Program_addNode_52 : decode c_Program_addNode 52 = .ok (.dup, 1) := by decide +kernel
theorem d_Program_addNode_53 : decode c_Program_addNode 53 = .ok (.getfield 48, 3) := by decide +kernel
theorem d_Program_addNode_56 : decode c_Program_addNode 56 = .ok (.iconst 1, 1) := by decide +kernel
theorem d_Program_addNode_57 : decode c_Program_addNode 57 = .ok (.iadd, 1) := by decide +kernel
theorem d_Program_addNode_58 : decode c_Program_addNode 58 = .ok (.putfield 48, 3) := by decide +kernel
theorem d_Program_addNode_61 : decode c_Program_addNode 61 = .ok (.iload 4, 2) := by decide +kernel
theorem d_Program_addNode_63 : decode c_Program_addNode 63 = .ok (.ireturn, 1) := by decide +kernel
theorem d_Program_link_0 : decode c_Program_link 0 = .ok (.aload_n 0, 1) := by decide +kernel
theorem d_Program_link_1 : decode c_Program_link 1 = .ok (.getfield 15, 3) := by decide +kernel
theorem d_Program_link_4 : decode c_Program_link 4 = .ok (.iload_n 1, 1) := by decide +kernel
theorem d_Program_link_5 : decode c_Program_link 5 = .ok (.iload_n 2, 1) := by decide +kernel
theorem d_Program_link_6 : decode c_Program_link 6 = .ok (.invokestatic 64, 3) := by decide +kernel
theorem d_Program_link_9 : decode c_Program_link 9 = .ok (.return_, 1) := by decide +kernel
theorem d_Program_addMember_0 : decode c_Program_addMember 0 = .ok (.aload_n 0, 1) := by decide +kernel
theorem d_Program_addMember_1 : decode c_Program_addMember 1 = .ok (.getfield 52, 3) := by decide +kernel
theorem d_Program_addMember_4 : decode c_Program_addMember 4 = .ok (.ifCond .lt 43, 3) := by decide +kernel
theorem d_Program_addMember_7 : decode c_Program_addMember 7 = .ok (.aload_n 0, 1) := by decide +kernel
theorem d_Program_addMember_8 : decode c_Program_addMember 8 = .ok (.getfield 52, 3) := by decide +kernel
theorem d_Program_addMember_11 : decode c_Program_addMember 11 = .ok (.sipush 200, 3) := by decide +kernel
theorem d_Program_addMember_14 : decode c_Program_addMember 14 = .ok (.if_icmp .ge 33, 3) := by decide +kernel
theorem d_Program_addMember_17 : decode c_Program_addMember 17 = .ok (.aload_n 0, 1) := by decide +kernel
theorem d_Program_addMember_18 : decode c_Program_addMember 18 = .ok (.getfield 24, 3) := by decide +kernel
theorem d_Program_addMember_21 : decode c_Program_addMember 21 = .ok (.aload_n 0, 1) := by decide +kernel
theorem d_Program_addMember_22 : decode c_Program_addMember 22 = .ok (.getfield 52, 3) := by decide +kernel
theorem d_Program_addMember_25 : decode c_Program_addMember 25 = .ok (.iload_n 1, 1) := by decide +kernel
theorem d_Program_addMember_26 : decode c_Program_addMember 26 = .ok (.iastore, 1) := by decide +kernel
theorem d_Program_addMember_27 : decode c_Program_addMember 27 = .ok (.aload_n 0, 1) := by decide +kernel
theorem d_Program_addMember_28 : decode c_Program_addMember 28 = .ok (.getfield 27, 3) := by decide +kernel
theorem d_Program_addMember_31 : decode c_Program_addMember 31 = .ok (.aload_n 0, 1) := by decide +kernel
theorem d_Program_addMember_32 : decode c_Program_addMember 32 = .ok (.getfield 52, 3) := by decide +kernel
theorem d_Program_addMember_35 : decode c_Program_addMember 35 = .ok (.iload_n 2, 1) := by decide +kernel
theorem d_Program_addMember_36 : decode c_Program_addMember 36 = .ok (.iastore, 1) := by decide +kernel
theorem d_Program_addMember_37 : decode c_Program_addMember 37 = .ok (.aload_n 0, 1) := by decide +kernel
theorem d_Program_addMember_38 : decode c_Program_addMember 38 = .ok (.dup, 1) := by decide +kernel
theorem d_Program_addMember_39 : decode c_Program_addMember 39 = .ok (.getfield 52, 3) := by decide +kernel
theorem d_Program_addMember_42 : decode c_Program_addMember 42 = .ok (.iconst 1, 1) := by decide +kernel
theorem d_Program_addMember_43 : decode c_Program_addMember 43 = .ok (.iadd, 1) := by decide +kernel
theorem d_Program_addMember_44 : decode c_Program_addMember 44 = .ok (.putfield 52, 3) := by decide +kernel
theorem d_Program_addMember_47 : decode c_Program_addMember 47 = .ok (.return_, 1) := by decide +kernel
theorem d_Reader_beginAlternative_0 : decode c_Reader_beginAlternative 0 = .ok (.aload_n 0, 1) := by decide +kernel
theorem d_Reader_beginAlternative_1 : decode c_Reader_beginAlternative 1 = .ok (.aload_n 0, 1) := by decide +kernel
theorem d_Reader_beginAlternative_2 : decode c_Reader_beginAlternative 2 = .ok (.getfield 24, 3) := by decide +kernel
theorem d_Reader_beginAlternative_5 : decode c_Reader_beginAlternative 5 = .ok (.bipush 11, 2) := by decide +kernel
theorem d_Reader_beginAlternative_7 : decode c_Reader_beginAlternative 7 = .ok (.iconst (-1), 1) := by decide +kernel
theorem d_Reader_beginAlternative_8 : decode c_Reader_beginAlternative 8 = .ok (.iconst 0, 1) := by decide +kernel
theorem d_Reader_beginAlternative_9 : decode c_Reader_beginAlternative 9 = .ok (.invokevirtual 52, 3) := by decide +kernel
theorem d_Reader_beginAlternative_12 : decode c_Reader_beginAlternative 12 = .ok (.putfield 102, 3) := by decide +kernel
theorem d_Reader_beginAlternative_15 : decode c_Reader_beginAlternative 15 = .ok (.aload_n 0, 1) := by decide +kernel
theorem d_Reader_beginAlternative_16 : decode c_Reader_beginAlternative 16 = .ok (.aload_n 0, 1) := by decide +kernel
theorem d_Reader_beginAlternative_17 : decode c_Reader_beginAlternative 17 = .ok (.getfield 102, 3) := by decide +kernel
theorem d_Reader_beginAlternative_20 : decode c_Reader_beginAlternative 20 = .ok (.putfield 69, 3) := by decide +kernel
theorem d_Reader_beginAlternative_23 : decode c_Reader_beginAlternative 23 = .ok (.return_, 1) := by decide +kernel
def Desk_place_b0 (N : Nat) (σ : g_S) : Option (Int32 × g_S) := some ((σ.1 1), σ)
theorem Desk_place_p0 (ao aa : Nat → Nat) {X : g_X} (hC : gC X c_Desk_place R_Desk 0 0 1 (some .int)) (N : Nat) (σ : g_S) (r : Int32) (σe : g_S) (hf : Desk_place_b0 N σ = some (r, σe)) : gw X (.inl (some (.int r))) (LC ao aa X.2.2.1 σe) (LC ao aa X.2.2.1 σ) [(0, .ref (ao 0))] 0 [] := by
  unfold Desk_place_b0 at hf
  refine gw_aload_n hC 0 d_Desk_place_0 rfl rfl ?_
  refine Cg1 hC kf_Desk_38 d_Desk_place_1 (σ.1 1) rfl ?_
  cases hf
  exact gw_iret hC d_Desk_place_4
def Desk_place (N : Nat) (σ : g_S) : Option (Int32 × g_S) := Desk_place_b0 N  σ
theorem Desk_place_m (l : Launch) (D : va_G) (cA : ClassId) (ao aa : Nat → Nat) (N : Nat) (σ : g_S) (r : Int32) (σe : g_S) (hf : Desk_place N σ = some (r, σe)) : Mt l D cA y_Desk_place c_Desk_place 1 (some .int) 0 0 [.ref (ao 0)] (LC ao aa cA σ) (some (.int r)) (LC ao aa cA σe) := by
  refine g_met (by decide +kernel) (by simp [lg_sl, Value.category]) (fun X e1 e2 e3 hC => ?_)
  subst e1 e2 e3
  refine gw_lv [0] rfl ?_
  exact Desk_place_p0 ao aa hC N _ (r) _ hf
def Rows_read_b17 (N : Nat) (j0 : Nat) (s0 : Int32) (σ : g_S) : Option (Int32 × g_S) := some (s0, σ)
theorem Rows_read_p17 (ao aa : Nat → Nat) {X : g_X} (hC : gC X c_Rows_read R_Rows 0 0 2 (some .int)) (N : Nat) (j0 : Nat) (s0 : Int32) (σ : g_S) (r : Int32) (σe : g_S) (hf : Rows_read_b17 N j0 s0 σ = some (r, σe)) : gw X (.inl (some (.int r))) (LC ao aa X.2.2.1 σe) (LC ao aa X.2.2.1 σ) [(0, .ref (aa j0))] 17 [.int s0] := by
  unfold Rows_read_b17 at hf
  cases hf
  exact gw_iret hC d_Rows_read_17
def Rows_read_b16 (N : Nat) (j0 : Nat) (σ : g_S) : Option (Int32 × g_S) := Rows_read_b17 N j0 0 σ
theorem Rows_read_p16 (ao aa : Nat → Nat) {X : g_X} (hC : gC X c_Rows_read R_Rows 0 0 2 (some .int)) (N : Nat) (j0 : Nat) (σ : g_S) (r : Int32) (σe : g_S) (hf : Rows_read_b16 N j0 σ = some (r, σe)) : gw X (.inl (some (.int r))) (LC ao aa X.2.2.1 σe) (LC ao aa X.2.2.1 σ) [(0, .ref (aa j0))] 16 [] := by
  unfold Rows_read_b16 at hf
  refine gw_iconst hC 0 d_Rows_read_16 (by decide) ?_
  exact Rows_read_p17 ao aa hC N j0 _ _ _ _ hf
def Rows_read_b10 (N : Nat) (j0 : Nat) (x1 : Int32) (σ : g_S) : Option (Int32 × g_S) := if (decide (j0 < nAC) && gIn x1 (lenC j0)) = true then Rows_read_b17 N j0 (σ.2 j0 (x1).toNatClampNeg) σ else none
theorem Rows_read_p10 (ao aa : Nat → Nat) {X : g_X} (hC : gC X c_Rows_read R_Rows 0 0 2 (some .int)) (N : Nat) (j0 : Nat) (x1 : Int32) (σ : g_S) (r : Int32) (σe : g_S) (hf : Rows_read_b10 N j0 x1 σ = some (r, σe)) : gw X (.inl (some (.int r))) (LC ao aa X.2.2.1 σe) (LC ao aa X.2.2.1 σ) [(0, .ref (aa j0)), (1, .int x1)] 10 [] := by
  unfold Rows_read_b10 at hf
  refine gw_aload_n hC 0 d_Rows_read_10 rfl rfl ?_
  refine gw_iload_n hC 1 d_Rows_read_11 rfl rfl ?_
  obtain ⟨hg12, hf⟩ := g_guard hf
  refine Caldj (j := j0) hC hg12 d_Rows_read_12 (σ.2 j0 (x1).toNatClampNeg) rfl ?_
  refine gw_goto hC 17 d_Rows_read_13 (by decide) ?_
  refine gw_lv [0] rfl ?_
  exact Rows_read_p17 ao aa hC N j0 _ _ _ _ hf
def Rows_read_b4 (N : Nat) (j0 : Nat) (x1 : Int32) (σ : g_S) : Option (Int32 × g_S) := if decide (j0 < nAC) = true then if (Int32.ofNat (lenC j0)) ≤ x1 then Rows_read_b16 N j0 σ else Rows_read_b10 N j0 x1 σ else none
theorem Rows_read_p4 (ao aa : Nat → Nat) {X : g_X} (hC : gC X c_Rows_read R_Rows 0 0 2 (some .int)) (N : Nat) (j0 : Nat) (x1 : Int32) (σ : g_S) (r : Int32) (σe : g_S) (hf : Rows_read_b4 N j0 x1 σ = some (r, σe)) : gw X (.inl (some (.int r))) (LC ao aa X.2.2.1 σe) (LC ao aa X.2.2.1 σ) [(0, .ref (aa j0)), (1, .int x1)] 4 [] := by
  unfold Rows_read_b4 at hf
  refine gw_iload_n hC 1 d_Rows_read_4 rfl rfl ?_
  refine gw_aload_n hC 0 d_Rows_read_5 rfl rfl ?_
  obtain ⟨hg6, hf⟩ := g_guard hf
  refine Calen (j := j0) hC (of_decide_eq_true hg6) d_Rows_read_6 ?_
  refine gw_icmp_ge hC 16 d_Rows_read_7 (by decide) (fun hh => ?_) (fun hh => ?_)
  · rw [if_pos hh] at hf
    refine gw_lv [0] rfl ?_
    exact Rows_read_p16 ao aa hC N j0 _ _ _ hf
  · rw [if_neg hh] at hf
    exact Rows_read_p10 ao aa hC N j0 _ _ _ _ hf
def Rows_read_b0 (N : Nat) (j0 : Nat) (x1 : Int32) (σ : g_S) : Option (Int32 × g_S) := if x1 < 0 then Rows_read_b16 N j0 σ else Rows_read_b4 N j0 x1 σ
theorem Rows_read_p0 (ao aa : Nat → Nat) {X : g_X} (hC : gC X c_Rows_read R_Rows 0 0 2 (some .int)) (N : Nat) (j0 : Nat) (x1 : Int32) (σ : g_S) (r : Int32) (σe : g_S) (hf : Rows_read_b0 N j0 x1 σ = some (r, σe)) : gw X (.inl (some (.int r))) (LC ao aa X.2.2.1 σe) (LC ao aa X.2.2.1 σ) [(0, .ref (aa j0)), (1, .int x1)] 0 [] := by
  unfold Rows_read_b0 at hf
  refine gw_iload_n hC 1 d_Rows_read_0 rfl rfl ?_
  refine gw_if_lt hC 16 d_Rows_read_1 (by decide) (fun hh => ?_) (fun hh => ?_)
  · rw [if_pos hh] at hf
    refine gw_lv [0] rfl ?_
    exact Rows_read_p16 ao aa hC N j0 _ _ _ hf
  · rw [if_neg hh] at hf
    exact Rows_read_p4 ao aa hC N j0 _ _ _ _ hf
def Rows_read (N : Nat) (j0 : Nat) (x1 : Int32) (σ : g_S) : Option (Int32 × g_S) := Rows_read_b0 N j0 x1 σ
theorem Rows_read_m (l : Launch) (D : va_G) (cA : ClassId) (ao aa : Nat → Nat) (N : Nat) (j0 : Nat) (x1 : Int32) (σ : g_S) (r : Int32) (σe : g_S) (hf : Rows_read N j0 x1 σ = some (r, σe)) : Mt l D cA y_Rows_read c_Rows_read 2 (some .int) 0 0 [.ref (aa j0), .int x1] (LC ao aa cA σ) (some (.int r)) (LC ao aa cA σe) := by
  refine g_met (by decide +kernel) (by simp [lg_sl, Value.category]) (fun X e1 e2 e3 hC => ?_)
  subst e1 e2 e3
  refine gw_lv [0, 1] rfl ?_
  exact Rows_read_p0 ao aa hC N j0 _ _ (r) _ hf
def Rows_write_b14 (N : Nat) (j0 : Nat) (σ : g_S) : Option (Int32 × g_S) := some (0, σ)
theorem Rows_write_p14 (ao aa : Nat → Nat) {X : g_X} (hC : gC X c_Rows_write R_Rows 0 0 3 none) (N : Nat) (j0 : Nat) (σ : g_S) (r : Int32) (σe : g_S) (hf : Rows_write_b14 N j0 σ = some (r, σe)) : gw X (.inl none) (LC ao aa X.2.2.1 σe) (LC ao aa X.2.2.1 σ) [(0, .ref (aa j0))] 14 [] := by
  unfold Rows_write_b14 at hf
  cases hf
  exact gw_vret hC d_Rows_write_14
def Rows_write_b10 (N : Nat) (j0 : Nat) (x1 : Int32) (x2 : Int32) (σ : g_S) : Option (Int32 × g_S) := if (decide (j0 < nAC) && gIn x1 (lenC j0)) = true then Rows_write_b14 N j0 (gA σ j0 (x1).toNatClampNeg x2) else none
theorem Rows_write_p10 (ao aa : Nat → Nat) {X : g_X} (hC : gC X c_Rows_write R_Rows 0 0 3 none) (N : Nat) (j0 : Nat) (x1 : Int32) (x2 : Int32) (σ : g_S) (r : Int32) (σe : g_S) (hf : Rows_write_b10 N j0 x1 x2 σ = some (r, σe)) : gw X (.inl none) (LC ao aa X.2.2.1 σe) (LC ao aa X.2.2.1 σ) [(0, .ref (aa j0)), (1, .int x1), (2, .int x2)] 10 [] := by
  unfold Rows_write_b10 at hf
  refine gw_aload_n hC 0 d_Rows_write_10 rfl rfl ?_
  refine gw_iload_n hC 1 d_Rows_write_11 rfl rfl ?_
  refine gw_iload_n hC 2 d_Rows_write_12 rfl rfl ?_
  obtain ⟨hg13, hf⟩ := g_guard hf
  refine Castj (j := j0) hC hg13 d_Rows_write_13 ?_
  refine gw_lv [0] rfl ?_
  exact Rows_write_p14 ao aa hC N j0 _ _ _ hf
def Rows_write_b4 (N : Nat) (j0 : Nat) (x1 : Int32) (x2 : Int32) (σ : g_S) : Option (Int32 × g_S) := if decide (j0 < nAC) = true then if (Int32.ofNat (lenC j0)) ≤ x1 then Rows_write_b14 N j0 σ else Rows_write_b10 N j0 x1 x2 σ else none
theorem Rows_write_p4 (ao aa : Nat → Nat) {X : g_X} (hC : gC X c_Rows_write R_Rows 0 0 3 none) (N : Nat) (j0 : Nat) (x1 : Int32) (x2 : Int32) (σ : g_S) (r : Int32) (σe : g_S) (hf : Rows_write_b4 N j0 x1 x2 σ = some (r, σe)) : gw X (.inl none) (LC ao aa X.2.2.1 σe) (LC ao aa X.2.2.1 σ) [(0, .ref (aa j0)), (1, .int x1), (2, .int x2)] 4 [] := by
  unfold Rows_write_b4 at hf
  refine gw_iload_n hC 1 d_Rows_write_4 rfl rfl ?_
  refine gw_aload_n hC 0 d_Rows_write_5 rfl rfl ?_
  obtain ⟨hg6, hf⟩ := g_guard hf
  refine Calen (j := j0) hC (of_decide_eq_true hg6) d_Rows_write_6 ?_
  refine gw_icmp_ge hC 14 d_Rows_write_7 (by decide) (fun hh => ?_) (fun hh => ?_)
  · rw [if_pos hh] at hf
    refine gw_lv [0] rfl ?_
    exact Rows_write_p14 ao aa hC N j0 _ _ _ hf
  · rw [if_neg hh] at hf
    exact Rows_write_p10 ao aa hC N j0 _ _ _ _ _ hf
def Rows_write_b0 (N : Nat) (j0 : Nat) (x1 : Int32) (x2 : Int32) (σ : g_S) : Option (Int32 × g_S) := if x1 < 0 then Rows_write_b14 N j0 σ else Rows_write_b4 N j0 x1 x2 σ
theorem Rows_write_p0 (ao aa : Nat → Nat) {X : g_X} (hC : gC X c_Rows_write R_Rows 0 0 3 none) (N : Nat) (j0 : Nat) (x1 : Int32) (x2 : Int32) (σ : g_S) (r : Int32) (σe : g_S) (hf : Rows_write_b0 N j0 x1 x2 σ = some (r, σe)) : gw X (.inl none) (LC ao aa X.2.2.1 σe) (LC ao aa X.2.2.1 σ) [(0, .ref (aa j0)), (1, .int x1), (2, .int x2)] 0 [] := by
  unfold Rows_write_b0 at hf
  refine gw_iload_n hC 1 d_Rows_write_0 rfl rfl ?_
  refine gw_if_lt hC 14 d_Rows_write_1 (by decide) (fun hh => ?_) (fun hh => ?_)
  · rw [if_pos hh] at hf
    refine gw_lv [0] rfl ?_
    exact Rows_write_p14 ao aa hC N j0 _ _ _ hf
  · rw [if_neg hh] at hf
    exact Rows_write_p4 ao aa hC N j0 _ _ _ _ _ hf
def Rows_write (N : Nat) (j0 : Nat) (x1 : Int32) (x2 : Int32) (σ : g_S) : Option (Int32 × g_S) := Rows_write_b0 N j0 x1 x2 σ
theorem Rows_write_m (l : Launch) (D : va_G) (cA : ClassId) (ao aa : Nat → Nat) (N : Nat) (j0 : Nat) (x1 : Int32) (x2 : Int32) (σ : g_S) (r : Int32) (σe : g_S) (hf : Rows_write N j0 x1 x2 σ = some (r, σe)) : Mt l D cA y_Rows_write c_Rows_write 3 none 0 0 [.ref (aa j0), .int x1, .int x2] (LC ao aa cA σ) none (LC ao aa cA σe) := by
  refine g_met (by decide +kernel) (by simp [lg_sl, Value.category]) (fun X e1 e2 e3 hC => ?_)
  subst e1 e2 e3
  refine gw_lv [0, 1, 2] rfl ?_
  exact Rows_write_p0 ao aa hC N j0 _ _ _ (r) _ hf
def Machine_takeText_b26 (N : Nat) (j1 : Nat) (x2 : Int32) (σ : g_S) : Option (Int32 × g_S) := some (0, (gF σ 26 x2))
theorem Machine_takeText_p26 (ao aa : Nat → Nat) {X : g_X} (hC : gC X c_Machine_takeText R_Machine 1 22 4 none) (N : Nat) (j1 : Nat) (x2 : Int32) (σ : g_S) (r : Int32) (σe : g_S) (hf : Machine_takeText_b26 N j1 x2 σ = some (r, σe)) : gw X (.inl none) (LC ao aa X.2.2.1 σe) (LC ao aa X.2.2.1 σ) [(0, .ref (ao 3)), (1, .ref (aa j1)), (2, .int x2)] 26 [] := by
  unfold Machine_takeText_b26 at hf
  refine gw_aload_n hC 0 d_Machine_takeText_26 rfl rfl ?_
  refine gw_iload_n hC 2 d_Machine_takeText_27 rfl rfl ?_
  refine Cp26 hC kf_Machine_53 d_Machine_takeText_28 ?_
  cases hf
  exact gw_vret hC d_Machine_takeText_31
def Machine_takeText_b7 (N : Nat) (j1 : Nat) (k2 : Int32 → Int32 → g_S → Option (Int32 × g_S)) (x2 : Int32) (x3 : Int32) (σ : g_S) : Option (Int32 × g_S) := (Rows_read N j1 x3 σ).bind fun q14 => (Rows_write N 17 x3 q14.1 q14.2).bind fun q17 => k2 x2 (x3 + 1) q17.2
theorem Machine_takeText_p7 (ao aa : Nat → Nat) {X : g_X} (hC : gC X c_Machine_takeText R_Machine 1 22 4 none) (N : Nat) (j1 : Nat) (k2 : Int32 → Int32 → g_S → Option (Int32 × g_S)) (hk2 : ∀ (x2 : Int32) (x3 : Int32) (σ : g_S) (r : Int32) (σe : g_S), k2 x2 x3 σ = some (r, σe) → gw X (.inl none) (LC ao aa X.2.2.1 σe) (LC ao aa X.2.2.1 σ) [(0, .ref (ao 3)), (1, .ref (aa j1)), (2, .int x2), (3, .int x3)] 2 []) (x2 : Int32) (x3 : Int32) (σ : g_S) (r : Int32) (σe : g_S) (hf : Machine_takeText_b7 N j1 k2 x2 x3 σ = some (r, σe)) : gw X (.inl none) (LC ao aa X.2.2.1 σe) (LC ao aa X.2.2.1 σ) [(0, .ref (ao 3)), (1, .ref (aa j1)), (2, .int x2), (3, .int x3)] 7 [] := by
  unfold Machine_takeText_b7 at hf
  refine gw_aload_n hC 0 d_Machine_takeText_7 rfl rfl ?_
  refine Cr_Machine_text hC kf_Machine_13 d_Machine_takeText_8 ?_
  refine gw_iload_n hC 3 d_Machine_takeText_11 rfl rfl ?_
  refine gw_aload_n hC 1 d_Machine_takeText_12 rfl rfl ?_
  refine gw_iload_n hC 3 d_Machine_takeText_13 rfl rfl ?_
  obtain ⟨q14, hq14, hf⟩ := g_bind hf
  refine gw_callS hC [.ref (aa j1), .int x3] [.int x3, .ref (aa 17)] (Rows_read_m _ _ _ ao aa N _ _ _ _ _ hq14) kc_Machine_43 ⟨by decide, by decide⟩ (Nat.le_of_ble_eq_true rfl) [.int x3, .ref (aa j1), .int x3, .ref (aa 17)] [.int q14.1, .int x3, .ref (aa 17)] rfl rfl d_Machine_takeText_14 ?_
  obtain ⟨q17, hq17, hf⟩ := g_bind hf
  refine gw_callS hC [.ref (aa 17), .int x3, .int q14.1] [] (Rows_write_m _ _ _ ao aa N _ _ _ _ _ _ hq17) kc_Machine_49 ⟨by decide, by decide⟩ (Nat.le_of_ble_eq_true rfl) [.int q14.1, .int x3, .ref (aa 17)] [] rfl rfl d_Machine_takeText_17 ?_
  refine gw_iinc hC (x3 + 1) 3 [(3, .int (x3 + 1)), (0, .ref (ao 3)), (1, .ref (aa j1)), (2, .int x2)] d_Machine_takeText_20 rfl rfl (by decide) rfl ?_
  refine gw_goto hC 2 d_Machine_takeText_23 (by decide) ?_
  refine gw_lv [1, 2, 3, 0] rfl ?_
  exact hk2 _ _ _ _ _ hf
def Machine_takeText_b2 (N : Nat) (j1 : Nat) (k2 : Int32 → Int32 → g_S → Option (Int32 × g_S)) (x2 : Int32) (x3 : Int32) (σ : g_S) : Option (Int32 × g_S) := if x2 ≤ x3 then Machine_takeText_b26 N j1 x2 σ else Machine_takeText_b7 N j1 k2 x2 x3 σ
theorem Machine_takeText_p2 (ao aa : Nat → Nat) {X : g_X} (hC : gC X c_Machine_takeText R_Machine 1 22 4 none) (N : Nat) (j1 : Nat) (k2 : Int32 → Int32 → g_S → Option (Int32 × g_S)) (hk2 : ∀ (x2 : Int32) (x3 : Int32) (σ : g_S) (r : Int32) (σe : g_S), k2 x2 x3 σ = some (r, σe) → gw X (.inl none) (LC ao aa X.2.2.1 σe) (LC ao aa X.2.2.1 σ) [(0, .ref (ao 3)), (1, .ref (aa j1)), (2, .int x2), (3, .int x3)] 2 []) (x2 : Int32) (x3 : Int32) (σ : g_S) (r : Int32) (σe : g_S) (hf : Machine_takeText_b2 N j1 k2 x2 x3 σ = some (r, σe)) : gw X (.inl none) (LC ao aa X.2.2.1 σe) (LC ao aa X.2.2.1 σ) [(0, .ref (ao 3)), (1, .ref (aa j1)), (2, .int x2), (3, .int x3)] 2 [] := by
  unfold Machine_takeText_b2 at hf
  refine gw_iload_n hC 3 d_Machine_takeText_2 rfl rfl ?_
  refine gw_iload_n hC 2 d_Machine_takeText_3 rfl rfl ?_
  refine gw_icmp_ge hC 26 d_Machine_takeText_4 (by decide) (fun hh => ?_) (fun hh => ?_)
  · rw [if_pos hh] at hf
    refine gw_lv [0, 1, 2] rfl ?_
    exact Machine_takeText_p26 ao aa hC N j1 _ _ _ _ hf
  · rw [if_neg hh] at hf
    exact Machine_takeText_p7 ao aa hC N j1 _ hk2 _ _ _ _ _ hf
def Machine_takeText_l2 (N : Nat) (j1 : Nat) : Nat → Int32 → Int32 → g_S → Option (Int32 × g_S)
  | 0 => fun _ _ _ => none
  | n + 1 => fun x2 x3 σ => Machine_takeText_b2 N j1 (Machine_takeText_l2 N j1 n) x2 x3 σ
theorem Machine_takeText_q2 (ao aa : Nat → Nat) {X : g_X} (hC : gC X c_Machine_takeText R_Machine 1 22 4 none) (N : Nat) (j1 : Nat) (n : Nat) : ∀ (x2 : Int32) (x3 : Int32) (σ : g_S) (r : Int32) (σe : g_S), Machine_takeText_l2 N j1 n x2 x3 σ = some (r, σe) → gw X (.inl none) (LC ao aa X.2.2.1 σe) (LC ao aa X.2.2.1 σ) [(0, .ref (ao 3)), (1, .ref (aa j1)), (2, .int x2), (3, .int x3)] 2 [] := by
  induction n with
  | zero => intro x2 x3 σ r σe hf; cases hf
  | succ n ih => intro x2 x3 σ r σe hf; exact Machine_takeText_p2 ao aa hC N j1 _ (fun x2 x3 σ r2 σ2 h2 => ih x2 x3 σ r2 σ2 h2) x2 x3 σ r σe hf
def Machine_takeText_b0 (N : Nat) (j1 : Nat) (x2 : Int32) (σ : g_S) : Option (Int32 × g_S) := Machine_takeText_l2 N j1 N x2 0 σ
theorem Machine_takeText_p0 (ao aa : Nat → Nat) {X : g_X} (hC : gC X c_Machine_takeText R_Machine 1 22 4 none) (N : Nat) (j1 : Nat) (x2 : Int32) (σ : g_S) (r : Int32) (σe : g_S) (hf : Machine_takeText_b0 N j1 x2 σ = some (r, σe)) : gw X (.inl none) (LC ao aa X.2.2.1 σe) (LC ao aa X.2.2.1 σ) [(0, .ref (ao 3)), (1, .ref (aa j1)), (2, .int x2)] 0 [] := by
  unfold Machine_takeText_b0 at hf
  refine gw_iconst hC 0 d_Machine_takeText_0 (by decide) ?_
  refine gw_istore_n hC [(3, .int 0), (0, .ref (ao 3)), (1, .ref (aa j1)), (2, .int x2)] d_Machine_takeText_1 rfl (by decide) rfl ?_
  refine gw_lv [1, 2, 3, 0] rfl ?_
  exact Machine_takeText_q2 ao aa hC N j1 N _ _ _ _ _ hf
def Machine_takeText (N : Nat) (j1 : Nat) (x2 : Int32) (σ : g_S) : Option (Int32 × g_S) := Machine_takeText_b0 N j1 x2 σ
theorem Machine_takeText_m (l : Launch) (D : va_G) (cA : ClassId) (ao aa : Nat → Nat) (N : Nat) (j1 : Nat) (x2 : Int32) (σ : g_S) (r : Int32) (σe : g_S) (hf : Machine_takeText N j1 x2 σ = some (r, σe)) : Mt l D cA y_Machine_takeText c_Machine_takeText 4 none 1 22 [.ref (ao 3), .ref (aa j1), .int x2] (LC ao aa cA σ) none (LC ao aa cA σe) := by
  refine g_met (by decide +kernel) (by simp [lg_sl, Value.category]) (fun X e1 e2 e3 hC => ?_)
  subst e1 e2 e3
  refine gw_lv [0, 1, 2] rfl ?_
  exact Machine_takeText_p0 ao aa hC N j1 _ _ (r) _ hf
def Desk_text_b0 (N : Nat) (σ : g_S) : Option (Int32 × g_S) := (Machine_takeText N 0 (σ.1 0) (gF (gF σ 0 0) 3 0)).bind fun q24 => some ((σ.1 0), q24.2)
theorem Desk_text_p0 (ao aa : Nat → Nat) {X : g_X} (hC : gC X c_Desk_text R_Desk 2 45 2 (some .int)) (N : Nat) (σ : g_S) (r : Int32) (σe : g_S) (hf : Desk_text_b0 N σ = some (r, σe)) : gw X (.inl (some (.int r))) (LC ao aa X.2.2.1 σe) (LC ao aa X.2.2.1 σ) [(0, .ref (ao 0))] 0 [] := by
  unfold Desk_text_b0 at hf
  refine gw_aload_n hC 0 d_Desk_text_0 rfl rfl ?_
  refine Cg0 hC kf_Desk_49 d_Desk_text_1 (σ.1 0) rfl ?_
  refine gw_istore_n hC [(1, .int (σ.1 0)), (0, .ref (ao 0))] d_Desk_text_4 rfl (by decide) rfl ?_
  refine gw_aload_n hC 1 d_Desk_text_5 rfl rfl ?_
  refine gw_iconst hC 0 d_Desk_text_6 (by decide) ?_
  refine Cp0 hC kf_Desk_49 d_Desk_text_7 ?_
  refine gw_aload_n hC 1 d_Desk_text_10 rfl rfl ?_
  refine gw_iconst hC 0 d_Desk_text_11 (by decide) ?_
  refine Cp3 hC kf_Desk_64 d_Desk_text_12 (by decide) ?_
  refine gw_aload_n hC 1 d_Desk_text_15 rfl rfl ?_
  refine Cr_Desk_machine hC kf_Desk_34 d_Desk_text_16 ?_
  refine gw_aload_n hC 1 d_Desk_text_19 rfl rfl ?_
  refine Cr_Desk_told hC kf_Desk_9 d_Desk_text_20 ?_
  refine gw_iload_n hC 0 d_Desk_text_23 rfl rfl ?_
  obtain ⟨q24, hq24, hf⟩ := g_bind hf
  refine gw_callV hC [.ref (aa 0), .int (σ.1 0)] [] (Machine_takeText_m _ _ _ ao aa N _ _ _ _ _ hq24) kc_Desk_86 3 (g_lay_obj rfl) rfl rfl ⟨by decide, by decide⟩ (Nat.le_of_ble_eq_true rfl) [.int (σ.1 0), .ref (aa 0), .ref (ao 3)] [] rfl rfl d_Desk_text_24 ?_
  refine gw_iload_n hC 0 d_Desk_text_27 rfl rfl ?_
  cases hf
  exact gw_iret hC d_Desk_text_28
def Desk_text (N : Nat) (σ : g_S) : Option (Int32 × g_S) := Desk_text_b0 N  σ
theorem Desk_text_m (l : Launch) (D : va_G) (cA : ClassId) (ao aa : Nat → Nat) (N : Nat) (σ : g_S) (r : Int32) (σe : g_S) (hf : Desk_text N σ = some (r, σe)) : Mt l D cA y_Desk_text c_Desk_text 2 (some .int) 2 45 [.ref (ao 0)] (LC ao aa cA σ) (some (.int r)) (LC ao aa cA σe) := by
  refine g_met (by decide +kernel) (by simp [lg_sl, Value.category]) (fun X e1 e2 e3 hC => ?_)
  subst e1 e2 e3
  refine gw_lv [0] rfl ?_
  exact Desk_text_p0 ao aa hC N _ (r) _ hf
def Desk_steps_b0 (N : Nat) (σ : g_S) : Option (Int32 × g_S) := some ((σ.1 27), σ)
theorem Desk_steps_p0 (ao aa : Nat → Nat) {X : g_X} (hC : gC X c_Desk_steps R_Desk 0 0 1 (some .int)) (N : Nat) (σ : g_S) (r : Int32) (σe : g_S) (hf : Desk_steps_b0 N σ = some (r, σe)) : gw X (.inl (some (.int r))) (LC ao aa X.2.2.1 σe) (LC ao aa X.2.2.1 σ) [(0, .ref (ao 0))] 0 [] := by
  unfold Desk_steps_b0 at hf
  refine gw_aload_n hC 0 d_Desk_steps_0 rfl rfl ?_
  refine Cr_Desk_machine hC kf_Desk_34 d_Desk_steps_1 ?_
  refine Cg27 hC kf_Desk_117 d_Desk_steps_4 (σ.1 27) rfl ?_
  cases hf
  exact gw_iret hC d_Desk_steps_7
def Desk_steps (N : Nat) (σ : g_S) : Option (Int32 × g_S) := Desk_steps_b0 N  σ
theorem Desk_steps_m (l : Launch) (D : va_G) (cA : ClassId) (ao aa : Nat → Nat) (N : Nat) (σ : g_S) (r : Int32) (σe : g_S) (hf : Desk_steps N σ = some (r, σe)) : Mt l D cA y_Desk_steps c_Desk_steps 1 (some .int) 0 0 [.ref (ao 0)] (LC ao aa cA σ) (some (.int r)) (LC ao aa cA σe) := by
  refine g_met (by decide +kernel) (by simp [lg_sl, Value.category]) (fun X e1 e2 e3 hC => ?_)
  subst e1 e2 e3
  refine gw_lv [0] rfl ?_
  exact Desk_steps_p0 ao aa hC N _ (r) _ hf
def Desk_settled_b11 (N : Nat) (x1 : Int32) (s1 : Int32) (σ : g_S) : Option (Int32 × g_S) := if gB s1 = true then some (x1, (gF σ 3 s1)) else none
theorem Desk_settled_p11 (ao aa : Nat → Nat) {X : g_X} (hC : gC X c_Desk_settled R_Desk 0 0 2 (some .int)) (N : Nat) (x1 : Int32) (s1 : Int32) (σ : g_S) (r : Int32) (σe : g_S) (hf : Desk_settled_b11 N x1 s1 σ = some (r, σe)) : gw X (.inl (some (.int r))) (LC ao aa X.2.2.1 σe) (LC ao aa X.2.2.1 σ) [(0, .ref (ao 0)), (1, .int x1)] 11 [.int s1, .ref (ao 0)] := by
  unfold Desk_settled_b11 at hf
  obtain ⟨hg11, hf⟩ := g_guard hf
  refine Cp3 hC kf_Desk_64 d_Desk_settled_11 hg11 ?_
  refine gw_iload_n hC 1 d_Desk_settled_14 rfl rfl ?_
  cases hf
  exact gw_iret hC d_Desk_settled_15
def Desk_settled_b10 (N : Nat) (x1 : Int32) (σ : g_S) : Option (Int32 × g_S) := Desk_settled_b11 N x1 0 σ
theorem Desk_settled_p10 (ao aa : Nat → Nat) {X : g_X} (hC : gC X c_Desk_settled R_Desk 0 0 2 (some .int)) (N : Nat) (x1 : Int32) (σ : g_S) (r : Int32) (σe : g_S) (hf : Desk_settled_b10 N x1 σ = some (r, σe)) : gw X (.inl (some (.int r))) (LC ao aa X.2.2.1 σe) (LC ao aa X.2.2.1 σ) [(0, .ref (ao 0)), (1, .int x1)] 10 [.ref (ao 0)] := by
  unfold Desk_settled_b10 at hf
  refine gw_iconst hC 0 d_Desk_settled_10 (by decide) ?_
  exact Desk_settled_p11 ao aa hC N _ _ _ _ _ hf
def Desk_settled_b6 (N : Nat) (x1 : Int32) (σ : g_S) : Option (Int32 × g_S) := Desk_settled_b11 N x1 1 σ
theorem Desk_settled_p6 (ao aa : Nat → Nat) {X : g_X} (hC : gC X c_Desk_settled R_Desk 0 0 2 (some .int)) (N : Nat) (x1 : Int32) (σ : g_S) (r : Int32) (σe : g_S) (hf : Desk_settled_b6 N x1 σ = some (r, σe)) : gw X (.inl (some (.int r))) (LC ao aa X.2.2.1 σe) (LC ao aa X.2.2.1 σ) [(0, .ref (ao 0)), (1, .int x1)] 6 [.ref (ao 0)] := by
  unfold Desk_settled_b6 at hf
  refine gw_iconst hC 1 d_Desk_settled_6 (by decide) ?_
  refine gw_goto hC 11 d_Desk_settled_7 (by decide) ?_
  exact Desk_settled_p11 ao aa hC N _ _ _ _ _ hf
def Desk_settled_b0 (N : Nat) (x1 : Int32) (σ : g_S) : Option (Int32 × g_S) := if x1 = 1 then Desk_settled_b6 N x1 σ else Desk_settled_b10 N x1 σ
theorem Desk_settled_p0 (ao aa : Nat → Nat) {X : g_X} (hC : gC X c_Desk_settled R_Desk 0 0 2 (some .int)) (N : Nat) (x1 : Int32) (σ : g_S) (r : Int32) (σe : g_S) (hf : Desk_settled_b0 N x1 σ = some (r, σe)) : gw X (.inl (some (.int r))) (LC ao aa X.2.2.1 σe) (LC ao aa X.2.2.1 σ) [(0, .ref (ao 0)), (1, .int x1)] 0 [] := by
  unfold Desk_settled_b0 at hf
  refine gw_aload_n hC 0 d_Desk_settled_0 rfl rfl ?_
  refine gw_iload_n hC 1 d_Desk_settled_1 rfl rfl ?_
  refine gw_iconst hC 1 d_Desk_settled_2 (by decide) ?_
  refine gw_icmp_ne hC 10 d_Desk_settled_3 (by decide) (fun hh => ?_) (fun hh => ?_)
  · rw [if_neg hh] at hf
    exact Desk_settled_p10 ao aa hC N _ _ _ _ hf
  · rw [if_pos hh] at hf
    exact Desk_settled_p6 ao aa hC N _ _ _ _ hf
def Desk_settled (N : Nat) (x1 : Int32) (σ : g_S) : Option (Int32 × g_S) := Desk_settled_b0 N x1 σ
theorem Desk_settled_m (l : Launch) (D : va_G) (cA : ClassId) (ao aa : Nat → Nat) (N : Nat) (x1 : Int32) (σ : g_S) (r : Int32) (σe : g_S) (hf : Desk_settled N x1 σ = some (r, σe)) : Mt l D cA y_Desk_settled c_Desk_settled 2 (some .int) 0 0 [.ref (ao 0), .int x1] (LC ao aa cA σ) (some (.int r)) (LC ao aa cA σe) := by
  refine g_met (by decide +kernel) (by simp [lg_sl, Value.category]) (fun X e1 e2 e3 hC => ?_)
  subst e1 e2 e3
  refine gw_lv [0, 1] rfl ?_
  exact Desk_settled_p0 ao aa hC N _ _ (r) _ hf
def Units_isDigit_b17 (N : Nat) (s0 : Int32) (σ : g_S) : Option (Int32 × g_S) := if gB s0 = true then some (s0, σ) else none
theorem Units_isDigit_p17 (ao aa : Nat → Nat) {X : g_X} (hC : gC X c_Units_isDigit R_Units 0 0 1 (some .boolean)) (N : Nat) (s0 : Int32) (σ : g_S) (r : Int32) (σe : g_S) (hf : Units_isDigit_b17 N s0 σ = some (r, σe)) : gw X (.inl (some (.int r))) (LC ao aa X.2.2.1 σe) (LC ao aa X.2.2.1 σ) [] 17 [.int s0] := by
  unfold Units_isDigit_b17 at hf
  obtain ⟨hg17, hf⟩ := g_guard hf
  cases hf
  exact gw_zret hC hg17 d_Units_isDigit_17
def Units_isDigit_b16 (N : Nat) (σ : g_S) : Option (Int32 × g_S) := Units_isDigit_b17 N 0 σ
theorem Units_isDigit_p16 (ao aa : Nat → Nat) {X : g_X} (hC : gC X c_Units_isDigit R_Units 0 0 1 (some .boolean)) (N : Nat) (σ : g_S) (r : Int32) (σe : g_S) (hf : Units_isDigit_b16 N σ = some (r, σe)) : gw X (.inl (some (.int r))) (LC ao aa X.2.2.1 σe) (LC ao aa X.2.2.1 σ) [] 16 [] := by
  unfold Units_isDigit_b16 at hf
  refine gw_iconst hC 0 d_Units_isDigit_16 (by decide) ?_
  exact Units_isDigit_p17 ao aa hC N _ _ _ _ hf
def Units_isDigit_b12 (N : Nat) (σ : g_S) : Option (Int32 × g_S) := Units_isDigit_b17 N 1 σ
theorem Units_isDigit_p12 (ao aa : Nat → Nat) {X : g_X} (hC : gC X c_Units_isDigit R_Units 0 0 1 (some .boolean)) (N : Nat) (σ : g_S) (r : Int32) (σe : g_S) (hf : Units_isDigit_b12 N σ = some (r, σe)) : gw X (.inl (some (.int r))) (LC ao aa X.2.2.1 σe) (LC ao aa X.2.2.1 σ) [] 12 [] := by
  unfold Units_isDigit_b12 at hf
  refine gw_iconst hC 1 d_Units_isDigit_12 (by decide) ?_
  refine gw_goto hC 17 d_Units_isDigit_13 (by decide) ?_
  exact Units_isDigit_p17 ao aa hC N _ _ _ _ hf
def Units_isDigit_b6 (N : Nat) (x0 : Int32) (σ : g_S) : Option (Int32 × g_S) := if 57 < x0 then Units_isDigit_b16 N σ else Units_isDigit_b12 N σ
theorem Units_isDigit_p6 (ao aa : Nat → Nat) {X : g_X} (hC : gC X c_Units_isDigit R_Units 0 0 1 (some .boolean)) (N : Nat) (x0 : Int32) (σ : g_S) (r : Int32) (σe : g_S) (hf : Units_isDigit_b6 N x0 σ = some (r, σe)) : gw X (.inl (some (.int r))) (LC ao aa X.2.2.1 σe) (LC ao aa X.2.2.1 σ) [(0, .int x0)] 6 [] := by
  unfold Units_isDigit_b6 at hf
  refine gw_iload_n hC 0 d_Units_isDigit_6 rfl rfl ?_
  refine gw_bipush hC 57 d_Units_isDigit_7 (by decide) ?_
  refine gw_icmp_gt hC 16 d_Units_isDigit_9 (by decide) (fun hh => ?_) (fun hh => ?_)
  · rw [if_pos hh] at hf
    refine gw_lv [] rfl ?_
    exact Units_isDigit_p16 ao aa hC N _ _ _ hf
  · rw [if_neg hh] at hf
    refine gw_lv [] rfl ?_
    exact Units_isDigit_p12 ao aa hC N _ _ _ hf
def Units_isDigit_b0 (N : Nat) (x0 : Int32) (σ : g_S) : Option (Int32 × g_S) := if x0 < 48 then Units_isDigit_b16 N σ else Units_isDigit_b6 N x0 σ
theorem Units_isDigit_p0 (ao aa : Nat → Nat) {X : g_X} (hC : gC X c_Units_isDigit R_Units 0 0 1 (some .boolean)) (N : Nat) (x0 : Int32) (σ : g_S) (r : Int32) (σe : g_S) (hf : Units_isDigit_b0 N x0 σ = some (r, σe)) : gw X (.inl (some (.int r))) (LC ao aa X.2.2.1 σe) (LC ao aa X.2.2.1 σ) [(0, .int x0)] 0 [] := by
  unfold Units_isDigit_b0 at hf
  refine gw_iload_n hC 0 d_Units_isDigit_0 rfl rfl ?_
  refine gw_bipush hC 48 d_Units_isDigit_1 (by decide) ?_
  refine gw_icmp_lt hC 16 d_Units_isDigit_3 (by decide) (fun hh => ?_) (fun hh => ?_)
  · rw [if_pos hh] at hf
    refine gw_lv [] rfl ?_
    exact Units_isDigit_p16 ao aa hC N _ _ _ hf
  · rw [if_neg hh] at hf
    exact Units_isDigit_p6 ao aa hC N _ _ _ _ hf
def Units_isDigit (N : Nat) (x0 : Int32) (σ : g_S) : Option (Int32 × g_S) := Units_isDigit_b0 N x0 σ
theorem Units_isDigit_m (l : Launch) (D : va_G) (cA : ClassId) (ao aa : Nat → Nat) (N : Nat) (x0 : Int32) (σ : g_S) (r : Int32) (σe : g_S) (hf : Units_isDigit N x0 σ = some (r, σe)) : Mt l D cA y_Units_isDigit c_Units_isDigit 1 (some .boolean) 0 0 [.int x0] (LC ao aa cA σ) (some (.int r)) (LC ao aa cA σe) := by
  refine g_met (by decide +kernel) (by simp [lg_sl, Value.category]) (fun X e1 e2 e3 hC => ?_)
  subst e1 e2 e3
  refine gw_lv [0] rfl ?_
  exact Units_isDigit_p0 ao aa hC N _ _ (r) _ hf
def Units_isLetter_b29 (N : Nat) (s0 : Int32) (σ : g_S) : Option (Int32 × g_S) := if gB s0 = true then some (s0, σ) else none
theorem Units_isLetter_p29 (ao aa : Nat → Nat) {X : g_X} (hC : gC X c_Units_isLetter R_Units 0 0 1 (some .boolean)) (N : Nat) (s0 : Int32) (σ : g_S) (r : Int32) (σe : g_S) (hf : Units_isLetter_b29 N s0 σ = some (r, σe)) : gw X (.inl (some (.int r))) (LC ao aa X.2.2.1 σe) (LC ao aa X.2.2.1 σ) [] 29 [.int s0] := by
  unfold Units_isLetter_b29 at hf
  obtain ⟨hg29, hf⟩ := g_guard hf
  cases hf
  exact gw_zret hC hg29 d_Units_isLetter_29
def Units_isLetter_b28 (N : Nat) (σ : g_S) : Option (Int32 × g_S) := Units_isLetter_b29 N 0 σ
theorem Units_isLetter_p28 (ao aa : Nat → Nat) {X : g_X} (hC : gC X c_Units_isLetter R_Units 0 0 1 (some .boolean)) (N : Nat) (σ : g_S) (r : Int32) (σe : g_S) (hf : Units_isLetter_b28 N σ = some (r, σe)) : gw X (.inl (some (.int r))) (LC ao aa X.2.2.1 σe) (LC ao aa X.2.2.1 σ) [] 28 [] := by
  unfold Units_isLetter_b28 at hf
  refine gw_iconst hC 0 d_Units_isLetter_28 (by decide) ?_
  exact Units_isLetter_p29 ao aa hC N _ _ _ _ hf
def Units_isLetter_b24 (N : Nat) (σ : g_S) : Option (Int32 × g_S) := Units_isLetter_b29 N 1 σ
theorem Units_isLetter_p24 (ao aa : Nat → Nat) {X : g_X} (hC : gC X c_Units_isLetter R_Units 0 0 1 (some .boolean)) (N : Nat) (σ : g_S) (r : Int32) (σe : g_S) (hf : Units_isLetter_b24 N σ = some (r, σe)) : gw X (.inl (some (.int r))) (LC ao aa X.2.2.1 σe) (LC ao aa X.2.2.1 σ) [] 24 [] := by
  unfold Units_isLetter_b24 at hf
  refine gw_iconst hC 1 d_Units_isLetter_24 (by decide) ?_
  refine gw_goto hC 29 d_Units_isLetter_25 (by decide) ?_
  exact Units_isLetter_p29 ao aa hC N _ _ _ _ hf
def Units_isLetter_b18 (N : Nat) (x0 : Int32) (σ : g_S) : Option (Int32 × g_S) := if 122 < x0 then Units_isLetter_b28 N σ else Units_isLetter_b24 N σ
theorem Units_isLetter_p18 (ao aa : Nat → Nat) {X : g_X} (hC : gC X c_Units_isLetter R_Units 0 0 1 (some .boolean)) (N : Nat) (x0 : Int32) (σ : g_S) (r : Int32) (σe : g_S) (hf : Units_isLetter_b18 N x0 σ = some (r, σe)) : gw X (.inl (some (.int r))) (LC ao aa X.2.2.1 σe) (LC ao aa X.2.2.1 σ) [(0, .int x0)] 18 [] := by
  unfold Units_isLetter_b18 at hf
  refine gw_iload_n hC 0 d_Units_isLetter_18 rfl rfl ?_
  refine gw_bipush hC 122 d_Units_isLetter_19 (by decide) ?_
  refine gw_icmp_gt hC 28 d_Units_isLetter_21 (by decide) (fun hh => ?_) (fun hh => ?_)
  · rw [if_pos hh] at hf
    refine gw_lv [] rfl ?_
    exact Units_isLetter_p28 ao aa hC N _ _ _ hf
  · rw [if_neg hh] at hf
    refine gw_lv [] rfl ?_
    exact Units_isLetter_p24 ao aa hC N _ _ _ hf
def Units_isLetter_b12 (N : Nat) (x0 : Int32) (σ : g_S) : Option (Int32 × g_S) := if x0 < 97 then Units_isLetter_b28 N σ else Units_isLetter_b18 N x0 σ
theorem Units_isLetter_p12 (ao aa : Nat → Nat) {X : g_X} (hC : gC X c_Units_isLetter R_Units 0 0 1 (some .boolean)) (N : Nat) (x0 : Int32) (σ : g_S) (r : Int32) (σe : g_S) (hf : Units_isLetter_b12 N x0 σ = some (r, σe)) : gw X (.inl (some (.int r))) (LC ao aa X.2.2.1 σe) (LC ao aa X.2.2.1 σ) [(0, .int x0)] 12 [] := by
  unfold Units_isLetter_b12 at hf
  refine gw_iload_n hC 0 d_Units_isLetter_12 rfl rfl ?_
  refine gw_bipush hC 97 d_Units_isLetter_13 (by decide) ?_
  refine gw_icmp_lt hC 28 d_Units_isLetter_15 (by decide) (fun hh => ?_) (fun hh => ?_)
  · rw [if_pos hh] at hf
    refine gw_lv [] rfl ?_
    exact Units_isLetter_p28 ao aa hC N _ _ _ hf
  · rw [if_neg hh] at hf
    exact Units_isLetter_p18 ao aa hC N _ _ _ _ hf
def Units_isLetter_b6 (N : Nat) (x0 : Int32) (σ : g_S) : Option (Int32 × g_S) := if x0 ≤ 90 then Units_isLetter_b24 N σ else Units_isLetter_b12 N x0 σ
theorem Units_isLetter_p6 (ao aa : Nat → Nat) {X : g_X} (hC : gC X c_Units_isLetter R_Units 0 0 1 (some .boolean)) (N : Nat) (x0 : Int32) (σ : g_S) (r : Int32) (σe : g_S) (hf : Units_isLetter_b6 N x0 σ = some (r, σe)) : gw X (.inl (some (.int r))) (LC ao aa X.2.2.1 σe) (LC ao aa X.2.2.1 σ) [(0, .int x0)] 6 [] := by
  unfold Units_isLetter_b6 at hf
  refine gw_iload_n hC 0 d_Units_isLetter_6 rfl rfl ?_
  refine gw_bipush hC 90 d_Units_isLetter_7 (by decide) ?_
  refine gw_icmp_le hC 24 d_Units_isLetter_9 (by decide) (fun hh => ?_) (fun hh => ?_)
  · rw [if_pos hh] at hf
    refine gw_lv [] rfl ?_
    exact Units_isLetter_p24 ao aa hC N _ _ _ hf
  · rw [if_neg hh] at hf
    exact Units_isLetter_p12 ao aa hC N _ _ _ _ hf
def Units_isLetter_b0 (N : Nat) (x0 : Int32) (σ : g_S) : Option (Int32 × g_S) := if x0 < 65 then Units_isLetter_b12 N x0 σ else Units_isLetter_b6 N x0 σ
theorem Units_isLetter_p0 (ao aa : Nat → Nat) {X : g_X} (hC : gC X c_Units_isLetter R_Units 0 0 1 (some .boolean)) (N : Nat) (x0 : Int32) (σ : g_S) (r : Int32) (σe : g_S) (hf : Units_isLetter_b0 N x0 σ = some (r, σe)) : gw X (.inl (some (.int r))) (LC ao aa X.2.2.1 σe) (LC ao aa X.2.2.1 σ) [(0, .int x0)] 0 [] := by
  unfold Units_isLetter_b0 at hf
  refine gw_iload_n hC 0 d_Units_isLetter_0 rfl rfl ?_
  refine gw_bipush hC 65 d_Units_isLetter_1 (by decide) ?_
  refine gw_icmp_lt hC 12 d_Units_isLetter_3 (by decide) (fun hh => ?_) (fun hh => ?_)
  · rw [if_pos hh] at hf
    exact Units_isLetter_p12 ao aa hC N _ _ _ _ hf
  · rw [if_neg hh] at hf
    exact Units_isLetter_p6 ao aa hC N _ _ _ _ hf
def Units_isLetter (N : Nat) (x0 : Int32) (σ : g_S) : Option (Int32 × g_S) := Units_isLetter_b0 N x0 σ
theorem Units_isLetter_m (l : Launch) (D : va_G) (cA : ClassId) (ao aa : Nat → Nat) (N : Nat) (x0 : Int32) (σ : g_S) (r : Int32) (σe : g_S) (hf : Units_isLetter N x0 σ = some (r, σe)) : Mt l D cA y_Units_isLetter c_Units_isLetter 1 (some .boolean) 0 0 [.int x0] (LC ao aa cA σ) (some (.int r)) (LC ao aa cA σe) := by
  refine g_met (by decide +kernel) (by simp [lg_sl, Value.category]) (fun X e1 e2 e3 hC => ?_)
  subst e1 e2 e3
  refine gw_lv [0] rfl ?_
  exact Units_isLetter_p0 ao aa hC N _ _ (r) _ hf
def Units_isWord_b25 (N : Nat) (s0 : Int32) (σ : g_S) : Option (Int32 × g_S) := if gB s0 = true then some (s0, σ) else none
theorem Units_isWord_p25 (ao aa : Nat → Nat) {X : g_X} (hC : gC X c_Units_isWord R_Units 1 20 1 (some .boolean)) (N : Nat) (s0 : Int32) (σ : g_S) (r : Int32) (σe : g_S) (hf : Units_isWord_b25 N s0 σ = some (r, σe)) : gw X (.inl (some (.int r))) (LC ao aa X.2.2.1 σe) (LC ao aa X.2.2.1 σ) [] 25 [.int s0] := by
  unfold Units_isWord_b25 at hf
  obtain ⟨hg25, hf⟩ := g_guard hf
  cases hf
  exact gw_zret hC hg25 d_Units_isWord_25
def Units_isWord_b20 (N : Nat) (σ : g_S) : Option (Int32 × g_S) := Units_isWord_b25 N 1 σ
theorem Units_isWord_p20 (ao aa : Nat → Nat) {X : g_X} (hC : gC X c_Units_isWord R_Units 1 20 1 (some .boolean)) (N : Nat) (σ : g_S) (r : Int32) (σe : g_S) (hf : Units_isWord_b20 N σ = some (r, σe)) : gw X (.inl (some (.int r))) (LC ao aa X.2.2.1 σe) (LC ao aa X.2.2.1 σ) [] 20 [] := by
  unfold Units_isWord_b20 at hf
  refine gw_iconst hC 1 d_Units_isWord_20 (by decide) ?_
  refine gw_goto hC 25 d_Units_isWord_21 (by decide) ?_
  exact Units_isWord_p25 ao aa hC N _ _ _ _ hf
def Units_isWord_b24 (N : Nat) (σ : g_S) : Option (Int32 × g_S) := Units_isWord_b25 N 0 σ
theorem Units_isWord_p24 (ao aa : Nat → Nat) {X : g_X} (hC : gC X c_Units_isWord R_Units 1 20 1 (some .boolean)) (N : Nat) (σ : g_S) (r : Int32) (σe : g_S) (hf : Units_isWord_b24 N σ = some (r, σe)) : gw X (.inl (some (.int r))) (LC ao aa X.2.2.1 σe) (LC ao aa X.2.2.1 σ) [] 24 [] := by
  unfold Units_isWord_b24 at hf
  refine gw_iconst hC 0 d_Units_isWord_24 (by decide) ?_
  exact Units_isWord_p25 ao aa hC N _ _ _ _ hf
def Units_isWord_b14 (N : Nat) (x0 : Int32) (σ : g_S) : Option (Int32 × g_S) := if x0 = 95 then Units_isWord_b20 N σ else Units_isWord_b24 N σ
theorem Units_isWord_p14 (ao aa : Nat → Nat) {X : g_X} (hC : gC X c_Units_isWord R_Units 1 20 1 (some .boolean)) (N : Nat) (x0 : Int32) (σ : g_S) (r : Int32) (σe : g_S) (hf : Units_isWord_b14 N x0 σ = some (r, σe)) : gw X (.inl (some (.int r))) (LC ao aa X.2.2.1 σe) (LC ao aa X.2.2.1 σ) [(0, .int x0)] 14 [] := by
  unfold Units_isWord_b14 at hf
  refine gw_iload_n hC 0 d_Units_isWord_14 rfl rfl ?_
  refine gw_bipush hC 95 d_Units_isWord_15 (by decide) ?_
  refine gw_icmp_ne hC 24 d_Units_isWord_17 (by decide) (fun hh => ?_) (fun hh => ?_)
  · rw [if_neg hh] at hf
    refine gw_lv [] rfl ?_
    exact Units_isWord_p24 ao aa hC N _ _ _ hf
  · rw [if_pos hh] at hf
    refine gw_lv [] rfl ?_
    exact Units_isWord_p20 ao aa hC N _ _ _ hf
def Units_isWord_b7 (N : Nat) (x0 : Int32) (σ : g_S) : Option (Int32 × g_S) := (Units_isDigit N x0 σ).bind fun q8 => if q8.1 = 0 then Units_isWord_b14 N x0 q8.2 else Units_isWord_b20 N q8.2
theorem Units_isWord_p7 (ao aa : Nat → Nat) {X : g_X} (hC : gC X c_Units_isWord R_Units 1 20 1 (some .boolean)) (N : Nat) (x0 : Int32) (σ : g_S) (r : Int32) (σe : g_S) (hf : Units_isWord_b7 N x0 σ = some (r, σe)) : gw X (.inl (some (.int r))) (LC ao aa X.2.2.1 σe) (LC ao aa X.2.2.1 σ) [(0, .int x0)] 7 [] := by
  unfold Units_isWord_b7 at hf
  refine gw_iload_n hC 0 d_Units_isWord_7 rfl rfl ?_
  obtain ⟨q8, hq8, hf⟩ := g_bind hf
  refine gw_callS hC [.int x0] [] (Units_isDigit_m _ _ _ ao aa N _ _ _ _ hq8) kc_Units_13 ⟨by decide, by decide⟩ (Nat.le_of_ble_eq_true rfl) [.int x0] [.int q8.1] rfl rfl d_Units_isWord_8 ?_
  refine gw_if_ne hC 20 d_Units_isWord_11 (by decide) (fun hh => ?_) (fun hh => ?_)
  · rw [if_neg hh] at hf
    refine gw_lv [] rfl ?_
    exact Units_isWord_p20 ao aa hC N _ _ _ hf
  · rw [if_pos hh] at hf
    exact Units_isWord_p14 ao aa hC N _ _ _ _ hf
def Units_isWord_b0 (N : Nat) (x0 : Int32) (σ : g_S) : Option (Int32 × g_S) := (Units_isLetter N x0 σ).bind fun q1 => if q1.1 = 0 then Units_isWord_b7 N x0 q1.2 else Units_isWord_b20 N q1.2
theorem Units_isWord_p0 (ao aa : Nat → Nat) {X : g_X} (hC : gC X c_Units_isWord R_Units 1 20 1 (some .boolean)) (N : Nat) (x0 : Int32) (σ : g_S) (r : Int32) (σe : g_S) (hf : Units_isWord_b0 N x0 σ = some (r, σe)) : gw X (.inl (some (.int r))) (LC ao aa X.2.2.1 σe) (LC ao aa X.2.2.1 σ) [(0, .int x0)] 0 [] := by
  unfold Units_isWord_b0 at hf
  refine gw_iload_n hC 0 d_Units_isWord_0 rfl rfl ?_
  obtain ⟨q1, hq1, hf⟩ := g_bind hf
  refine gw_callS hC [.int x0] [] (Units_isLetter_m _ _ _ ao aa N _ _ _ _ hq1) kc_Units_7 ⟨by decide, by decide⟩ (Nat.le_of_ble_eq_true rfl) [.int x0] [.int q1.1] rfl rfl d_Units_isWord_1 ?_
  refine gw_if_ne hC 20 d_Units_isWord_4 (by decide) (fun hh => ?_) (fun hh => ?_)
  · rw [if_neg hh] at hf
    refine gw_lv [] rfl ?_
    exact Units_isWord_p20 ao aa hC N _ _ _ hf
  · rw [if_pos hh] at hf
    exact Units_isWord_p7 ao aa hC N _ _ _ _ hf
def Units_isWord (N : Nat) (x0 : Int32) (σ : g_S) : Option (Int32 × g_S) := Units_isWord_b0 N x0 σ
theorem Units_isWord_m (l : Launch) (D : va_G) (cA : ClassId) (ao aa : Nat → Nat) (N : Nat) (x0 : Int32) (σ : g_S) (r : Int32) (σe : g_S) (hf : Units_isWord N x0 σ = some (r, σe)) : Mt l D cA y_Units_isWord c_Units_isWord 1 (some .boolean) 1 20 [.int x0] (LC ao aa cA σ) (some (.int r)) (LC ao aa cA σe) := by
  refine g_met (by decide +kernel) (by simp [lg_sl, Value.category]) (fun X e1 e2 e3 hC => ?_)
  subst e1 e2 e3
  refine gw_lv [0] rfl ?_
  exact Units_isWord_p0 ao aa hC N _ _ (r) _ hf
def Units_isLineEnd_b31 (N : Nat) (s0 : Int32) (σ : g_S) : Option (Int32 × g_S) := if gB s0 = true then some (s0, σ) else none
theorem Units_isLineEnd_p31 (ao aa : Nat → Nat) {X : g_X} (hC : gC X c_Units_isLineEnd R_Units 0 0 1 (some .boolean)) (N : Nat) (s0 : Int32) (σ : g_S) (r : Int32) (σe : g_S) (hf : Units_isLineEnd_b31 N s0 σ = some (r, σe)) : gw X (.inl (some (.int r))) (LC ao aa X.2.2.1 σe) (LC ao aa X.2.2.1 σ) [] 31 [.int s0] := by
  unfold Units_isLineEnd_b31 at hf
  obtain ⟨hg31, hf⟩ := g_guard hf
  cases hf
  exact gw_zret hC hg31 d_Units_isLineEnd_31
def Units_isLineEnd_b26 (N : Nat) (σ : g_S) : Option (Int32 × g_S) := Units_isLineEnd_b31 N 1 σ
theorem Units_isLineEnd_p26 (ao aa : Nat → Nat) {X : g_X} (hC : gC X c_Units_isLineEnd R_Units 0 0 1 (some .boolean)) (N : Nat) (σ : g_S) (r : Int32) (σe : g_S) (hf : Units_isLineEnd_b26 N σ = some (r, σe)) : gw X (.inl (some (.int r))) (LC ao aa X.2.2.1 σe) (LC ao aa X.2.2.1 σ) [] 26 [] := by
  unfold Units_isLineEnd_b26 at hf
  refine gw_iconst hC 1 d_Units_isLineEnd_26 (by decide) ?_
  refine gw_goto hC 31 d_Units_isLineEnd_27 (by decide) ?_
  exact Units_isLineEnd_p31 ao aa hC N _ _ _ _ hf
def Units_isLineEnd_b30 (N : Nat) (σ : g_S) : Option (Int32 × g_S) := Units_isLineEnd_b31 N 0 σ
theorem Units_isLineEnd_p30 (ao aa : Nat → Nat) {X : g_X} (hC : gC X c_Units_isLineEnd R_Units 0 0 1 (some .boolean)) (N : Nat) (σ : g_S) (r : Int32) (σe : g_S) (hf : Units_isLineEnd_b30 N σ = some (r, σe)) : gw X (.inl (some (.int r))) (LC ao aa X.2.2.1 σe) (LC ao aa X.2.2.1 σ) [] 30 [] := by
  unfold Units_isLineEnd_b30 at hf
  refine gw_iconst hC 0 d_Units_isLineEnd_30 (by decide) ?_
  exact Units_isLineEnd_p31 ao aa hC N _ _ _ _ hf
def Units_isLineEnd_b19 (N : Nat) (x0 : Int32) (σ : g_S) : Option (Int32 × g_S) := if x0 = 8233 then Units_isLineEnd_b26 N σ else Units_isLineEnd_b30 N σ
theorem Units_isLineEnd_p19 (ao aa : Nat → Nat) {X : g_X} (hC : gC X c_Units_isLineEnd R_Units 0 0 1 (some .boolean)) (N : Nat) (x0 : Int32) (σ : g_S) (r : Int32) (σe : g_S) (hf : Units_isLineEnd_b19 N x0 σ = some (r, σe)) : gw X (.inl (some (.int r))) (LC ao aa X.2.2.1 σe) (LC ao aa X.2.2.1 σ) [(0, .int x0)] 19 [] := by
  unfold Units_isLineEnd_b19 at hf
  refine gw_iload_n hC 0 d_Units_isLineEnd_19 rfl rfl ?_
  refine gw_sipush hC 8233 d_Units_isLineEnd_20 (by decide) ?_
  refine gw_icmp_ne hC 30 d_Units_isLineEnd_23 (by decide) (fun hh => ?_) (fun hh => ?_)
  · rw [if_neg hh] at hf
    refine gw_lv [] rfl ?_
    exact Units_isLineEnd_p30 ao aa hC N _ _ _ hf
  · rw [if_pos hh] at hf
    refine gw_lv [] rfl ?_
    exact Units_isLineEnd_p26 ao aa hC N _ _ _ hf
def Units_isLineEnd_b12 (N : Nat) (x0 : Int32) (σ : g_S) : Option (Int32 × g_S) := if x0 = 8232 then Units_isLineEnd_b26 N σ else Units_isLineEnd_b19 N x0 σ
theorem Units_isLineEnd_p12 (ao aa : Nat → Nat) {X : g_X} (hC : gC X c_Units_isLineEnd R_Units 0 0 1 (some .boolean)) (N : Nat) (x0 : Int32) (σ : g_S) (r : Int32) (σe : g_S) (hf : Units_isLineEnd_b12 N x0 σ = some (r, σe)) : gw X (.inl (some (.int r))) (LC ao aa X.2.2.1 σe) (LC ao aa X.2.2.1 σ) [(0, .int x0)] 12 [] := by
  unfold Units_isLineEnd_b12 at hf
  refine gw_iload_n hC 0 d_Units_isLineEnd_12 rfl rfl ?_
  refine gw_sipush hC 8232 d_Units_isLineEnd_13 (by decide) ?_
  refine gw_icmp_eq hC 26 d_Units_isLineEnd_16 (by decide) (fun hh => ?_) (fun hh => ?_)
  · rw [if_pos hh] at hf
    refine gw_lv [] rfl ?_
    exact Units_isLineEnd_p26 ao aa hC N _ _ _ hf
  · rw [if_neg hh] at hf
    exact Units_isLineEnd_p19 ao aa hC N _ _ _ _ hf
def Units_isLineEnd_b6 (N : Nat) (x0 : Int32) (σ : g_S) : Option (Int32 × g_S) := if x0 = 13 then Units_isLineEnd_b26 N σ else Units_isLineEnd_b12 N x0 σ
theorem Units_isLineEnd_p6 (ao aa : Nat → Nat) {X : g_X} (hC : gC X c_Units_isLineEnd R_Units 0 0 1 (some .boolean)) (N : Nat) (x0 : Int32) (σ : g_S) (r : Int32) (σe : g_S) (hf : Units_isLineEnd_b6 N x0 σ = some (r, σe)) : gw X (.inl (some (.int r))) (LC ao aa X.2.2.1 σe) (LC ao aa X.2.2.1 σ) [(0, .int x0)] 6 [] := by
  unfold Units_isLineEnd_b6 at hf
  refine gw_iload_n hC 0 d_Units_isLineEnd_6 rfl rfl ?_
  refine gw_bipush hC 13 d_Units_isLineEnd_7 (by decide) ?_
  refine gw_icmp_eq hC 26 d_Units_isLineEnd_9 (by decide) (fun hh => ?_) (fun hh => ?_)
  · rw [if_pos hh] at hf
    refine gw_lv [] rfl ?_
    exact Units_isLineEnd_p26 ao aa hC N _ _ _ hf
  · rw [if_neg hh] at hf
    exact Units_isLineEnd_p12 ao aa hC N _ _ _ _ hf
def Units_isLineEnd_b0 (N : Nat) (x0 : Int32) (σ : g_S) : Option (Int32 × g_S) := if x0 = 10 then Units_isLineEnd_b26 N σ else Units_isLineEnd_b6 N x0 σ
theorem Units_isLineEnd_p0 (ao aa : Nat → Nat) {X : g_X} (hC : gC X c_Units_isLineEnd R_Units 0 0 1 (some .boolean)) (N : Nat) (x0 : Int32) (σ : g_S) (r : Int32) (σe : g_S) (hf : Units_isLineEnd_b0 N x0 σ = some (r, σe)) : gw X (.inl (some (.int r))) (LC ao aa X.2.2.1 σe) (LC ao aa X.2.2.1 σ) [(0, .int x0)] 0 [] := by
  unfold Units_isLineEnd_b0 at hf
  refine gw_iload_n hC 0 d_Units_isLineEnd_0 rfl rfl ?_
  refine gw_bipush hC 10 d_Units_isLineEnd_1 (by decide) ?_
  refine gw_icmp_eq hC 26 d_Units_isLineEnd_3 (by decide) (fun hh => ?_) (fun hh => ?_)
  · rw [if_pos hh] at hf
    refine gw_lv [] rfl ?_
    exact Units_isLineEnd_p26 ao aa hC N _ _ _ hf
  · rw [if_neg hh] at hf
    exact Units_isLineEnd_p6 ao aa hC N _ _ _ _ hf
def Units_isLineEnd (N : Nat) (x0 : Int32) (σ : g_S) : Option (Int32 × g_S) := Units_isLineEnd_b0 N x0 σ
theorem Units_isLineEnd_m (l : Launch) (D : va_G) (cA : ClassId) (ao aa : Nat → Nat) (N : Nat) (x0 : Int32) (σ : g_S) (r : Int32) (σe : g_S) (hf : Units_isLineEnd N x0 σ = some (r, σe)) : Mt l D cA y_Units_isLineEnd c_Units_isLineEnd 1 (some .boolean) 0 0 [.int x0] (LC ao aa cA σ) (some (.int r)) (LC ao aa cA σe) := by
  refine g_met (by decide +kernel) (by simp [lg_sl, Value.category]) (fun X e1 e2 e3 hC => ?_)
  subst e1 e2 e3
  refine gw_lv [0] rfl ?_
  exact Units_isLineEnd_p0 ao aa hC N _ _ (r) _ hf
def Units_isBlank_b100 (N : Nat) (σ : g_S) : Option (Int32 × g_S) := some (1, σ)
theorem Units_isBlank_p100 (ao aa : Nat → Nat) {X : g_X} (hC : gC X c_Units_isBlank R_Units 0 0 1 (some .boolean)) (N : Nat) (σ : g_S) (r : Int32) (σe : g_S) (hf : Units_isBlank_b100 N σ = some (r, σe)) : gw X (.inl (some (.int r))) (LC ao aa X.2.2.1 σe) (LC ao aa X.2.2.1 σ) [] 100 [] := by
  unfold Units_isBlank_b100 at hf
  refine gw_iconst hC 1 d_Units_isBlank_100 (by decide) ?_
  cases hf
  exact gw_zret hC (by decide) d_Units_isBlank_101
def Units_isBlank_b121 (N : Nat) (s0 : Int32) (σ : g_S) : Option (Int32 × g_S) := if gB s0 = true then some (s0, σ) else none
theorem Units_isBlank_p121 (ao aa : Nat → Nat) {X : g_X} (hC : gC X c_Units_isBlank R_Units 0 0 1 (some .boolean)) (N : Nat) (s0 : Int32) (σ : g_S) (r : Int32) (σe : g_S) (hf : Units_isBlank_b121 N s0 σ = some (r, σe)) : gw X (.inl (some (.int r))) (LC ao aa X.2.2.1 σe) (LC ao aa X.2.2.1 σ) [] 121 [.int s0] := by
  unfold Units_isBlank_b121 at hf
  obtain ⟨hg121, hf⟩ := g_guard hf
  cases hf
  exact gw_zret hC hg121 d_Units_isBlank_121
def Units_isBlank_b120 (N : Nat) (σ : g_S) : Option (Int32 × g_S) := Units_isBlank_b121 N 0 σ
theorem Units_isBlank_p120 (ao aa : Nat → Nat) {X : g_X} (hC : gC X c_Units_isBlank R_Units 0 0 1 (some .boolean)) (N : Nat) (σ : g_S) (r : Int32) (σe : g_S) (hf : Units_isBlank_b120 N σ = some (r, σe)) : gw X (.inl (some (.int r))) (LC ao aa X.2.2.1 σe) (LC ao aa X.2.2.1 σ) [] 120 [] := by
  unfold Units_isBlank_b120 at hf
  refine gw_iconst hC 0 d_Units_isBlank_120 (by decide) ?_
  exact Units_isBlank_p121 ao aa hC N _ _ _ _ hf
def Units_isBlank_b116 (N : Nat) (σ : g_S) : Option (Int32 × g_S) := Units_isBlank_b121 N 1 σ
theorem Units_isBlank_p116 (ao aa : Nat → Nat) {X : g_X} (hC : gC X c_Units_isBlank R_Units 0 0 1 (some .boolean)) (N : Nat) (σ : g_S) (r : Int32) (σe : g_S) (hf : Units_isBlank_b116 N σ = some (r, σe)) : gw X (.inl (some (.int r))) (LC ao aa X.2.2.1 σe) (LC ao aa X.2.2.1 σ) [] 116 [] := by
  unfold Units_isBlank_b116 at hf
  refine gw_iconst hC 1 d_Units_isBlank_116 (by decide) ?_
  refine gw_goto hC 121 d_Units_isBlank_117 (by decide) ?_
  exact Units_isBlank_p121 ao aa hC N _ _ _ _ hf
def Units_isBlank_b109 (N : Nat) (x0 : Int32) (σ : g_S) : Option (Int32 × g_S) := if 8202 < x0 then Units_isBlank_b120 N σ else Units_isBlank_b116 N σ
theorem Units_isBlank_p109 (ao aa : Nat → Nat) {X : g_X} (hC : gC X c_Units_isBlank R_Units 0 0 1 (some .boolean)) (N : Nat) (x0 : Int32) (σ : g_S) (r : Int32) (σe : g_S) (hf : Units_isBlank_b109 N x0 σ = some (r, σe)) : gw X (.inl (some (.int r))) (LC ao aa X.2.2.1 σe) (LC ao aa X.2.2.1 σ) [(0, .int x0)] 109 [] := by
  unfold Units_isBlank_b109 at hf
  refine gw_iload_n hC 0 d_Units_isBlank_109 rfl rfl ?_
  refine gw_sipush hC 8202 d_Units_isBlank_110 (by decide) ?_
  refine gw_icmp_gt hC 120 d_Units_isBlank_113 (by decide) (fun hh => ?_) (fun hh => ?_)
  · rw [if_pos hh] at hf
    refine gw_lv [] rfl ?_
    exact Units_isBlank_p120 ao aa hC N _ _ _ hf
  · rw [if_neg hh] at hf
    refine gw_lv [] rfl ?_
    exact Units_isBlank_p116 ao aa hC N _ _ _ hf
def Units_isBlank_b102 (N : Nat) (x0 : Int32) (σ : g_S) : Option (Int32 × g_S) := if x0 < 8192 then Units_isBlank_b120 N σ else Units_isBlank_b109 N x0 σ
theorem Units_isBlank_p102 (ao aa : Nat → Nat) {X : g_X} (hC : gC X c_Units_isBlank R_Units 0 0 1 (some .boolean)) (N : Nat) (x0 : Int32) (σ : g_S) (r : Int32) (σe : g_S) (hf : Units_isBlank_b102 N x0 σ = some (r, σe)) : gw X (.inl (some (.int r))) (LC ao aa X.2.2.1 σe) (LC ao aa X.2.2.1 σ) [(0, .int x0)] 102 [] := by
  unfold Units_isBlank_b102 at hf
  refine gw_iload_n hC 0 d_Units_isBlank_102 rfl rfl ?_
  refine gw_sipush hC 8192 d_Units_isBlank_103 (by decide) ?_
  refine gw_icmp_lt hC 120 d_Units_isBlank_106 (by decide) (fun hh => ?_) (fun hh => ?_)
  · rw [if_pos hh] at hf
    refine gw_lv [] rfl ?_
    exact Units_isBlank_p120 ao aa hC N _ _ _ hf
  · rw [if_neg hh] at hf
    exact Units_isBlank_p109 ao aa hC N _ _ _ _ hf
def Units_isBlank_b0 (N : Nat) (x0 : Int32) (σ : g_S) : Option (Int32 × g_S) := if x0 = 9 then Units_isBlank_b100 N σ else if x0 = 11 then Units_isBlank_b100 N σ else if x0 = 12 then Units_isBlank_b100 N σ else if x0 = 32 then Units_isBlank_b100 N σ else if x0 = 160 then Units_isBlank_b100 N σ else if x0 = 5760 then Units_isBlank_b100 N σ else if x0 = 6158 then Units_isBlank_b100 N σ else if x0 = 8239 then Units_isBlank_b100 N σ else if x0 = 8287 then Units_isBlank_b100 N σ else if x0 = 12288 then Units_isBlank_b100 N σ else if x0 = 65279 then Units_isBlank_b100 N σ else Units_isBlank_b102 N x0 σ
theorem Units_isBlank_p0 (ao aa : Nat → Nat) {X : g_X} (hC : gC X c_Units_isBlank R_Units 0 0 1 (some .boolean)) (N : Nat) (x0 : Int32) (σ : g_S) (r : Int32) (σe : g_S) (hf : Units_isBlank_b0 N x0 σ = some (r, σe)) : gw X (.inl (some (.int r))) (LC ao aa X.2.2.1 σe) (LC ao aa X.2.2.1 σ) [(0, .int x0)] 0 [] := by
  unfold Units_isBlank_b0 at hf
  refine gw_iload_n hC 0 d_Units_isBlank_0 rfl rfl ?_
  by_cases hh0 : x0 = 9
  · rw [if_pos hh0] at hf
    refine gw_lookup hC 99 100 d_Units_isBlank_1 (by decide) (by rw [hh0]; decide +kernel) (by decide) ?_
    refine gw_lv [] rfl ?_
    exact Units_isBlank_p100 ao aa hC N _ _ _ hf
  · rw [if_neg hh0] at hf
    by_cases hh1 : x0 = 11
    · rw [if_pos hh1] at hf
      refine gw_lookup hC 99 100 d_Units_isBlank_1 (by decide) (by rw [hh1]; decide +kernel) (by decide) ?_
      refine gw_lv [] rfl ?_
      exact Units_isBlank_p100 ao aa hC N _ _ _ hf
    · rw [if_neg hh1] at hf
      by_cases hh2 : x0 = 12
      · rw [if_pos hh2] at hf
        refine gw_lookup hC 99 100 d_Units_isBlank_1 (by decide) (by rw [hh2]; decide +kernel) (by decide) ?_
        refine gw_lv [] rfl ?_
        exact Units_isBlank_p100 ao aa hC N _ _ _ hf
      · rw [if_neg hh2] at hf
        by_cases hh3 : x0 = 32
        · rw [if_pos hh3] at hf
          refine gw_lookup hC 99 100 d_Units_isBlank_1 (by decide) (by rw [hh3]; decide +kernel) (by decide) ?_
          refine gw_lv [] rfl ?_
          exact Units_isBlank_p100 ao aa hC N _ _ _ hf
        · rw [if_neg hh3] at hf
          by_cases hh4 : x0 = 160
          · rw [if_pos hh4] at hf
            refine gw_lookup hC 99 100 d_Units_isBlank_1 (by decide) (by rw [hh4]; decide +kernel) (by decide) ?_
            refine gw_lv [] rfl ?_
            exact Units_isBlank_p100 ao aa hC N _ _ _ hf
          · rw [if_neg hh4] at hf
            by_cases hh5 : x0 = 5760
            · rw [if_pos hh5] at hf
              refine gw_lookup hC 99 100 d_Units_isBlank_1 (by decide) (by rw [hh5]; decide +kernel) (by decide) ?_
              refine gw_lv [] rfl ?_
              exact Units_isBlank_p100 ao aa hC N _ _ _ hf
            · rw [if_neg hh5] at hf
              by_cases hh6 : x0 = 6158
              · rw [if_pos hh6] at hf
                refine gw_lookup hC 99 100 d_Units_isBlank_1 (by decide) (by rw [hh6]; decide +kernel) (by decide) ?_
                refine gw_lv [] rfl ?_
                exact Units_isBlank_p100 ao aa hC N _ _ _ hf
              · rw [if_neg hh6] at hf
                by_cases hh7 : x0 = 8239
                · rw [if_pos hh7] at hf
                  refine gw_lookup hC 99 100 d_Units_isBlank_1 (by decide) (by rw [hh7]; decide +kernel) (by decide) ?_
                  refine gw_lv [] rfl ?_
                  exact Units_isBlank_p100 ao aa hC N _ _ _ hf
                · rw [if_neg hh7] at hf
                  by_cases hh8 : x0 = 8287
                  · rw [if_pos hh8] at hf
                    refine gw_lookup hC 99 100 d_Units_isBlank_1 (by decide) (by rw [hh8]; decide +kernel) (by decide) ?_
                    refine gw_lv [] rfl ?_
                    exact Units_isBlank_p100 ao aa hC N _ _ _ hf
                  · rw [if_neg hh8] at hf
                    by_cases hh9 : x0 = 12288
                    · rw [if_pos hh9] at hf
                      refine gw_lookup hC 99 100 d_Units_isBlank_1 (by decide) (by rw [hh9]; decide +kernel) (by decide) ?_
                      refine gw_lv [] rfl ?_
                      exact Units_isBlank_p100 ao aa hC N _ _ _ hf
                    · rw [if_neg hh9] at hf
                      by_cases hh10 : x0 = 65279
                      · rw [if_pos hh10] at hf
                        refine gw_lookup hC 99 100 d_Units_isBlank_1 (by decide) (by rw [hh10]; decide +kernel) (by decide) ?_
                        refine gw_lv [] rfl ?_
                        exact Units_isBlank_p100 ao aa hC N _ _ _ hf
                      · rw [if_neg hh10] at hf
                        refine gw_lookup hC 101 102 d_Units_isBlank_1 (by decide) (g_lk hh0 (by decide) (g_lk hh1 (by decide) (g_lk hh2 (by decide) (g_lk hh3 (by decide) (g_lk hh4 (by decide) (g_lk hh5 (by decide) (g_lk hh6 (by decide) (g_lk hh7 (by decide) (g_lk hh8 (by decide) (g_lk hh9 (by decide) (g_lk hh10 (by decide) rfl))))))))))) (by decide) ?_
                        exact Units_isBlank_p102 ao aa hC N _ _ _ _ hf
def Units_isBlank (N : Nat) (x0 : Int32) (σ : g_S) : Option (Int32 × g_S) := Units_isBlank_b0 N x0 σ
theorem Units_isBlank_m (l : Launch) (D : va_G) (cA : ClassId) (ao aa : Nat → Nat) (N : Nat) (x0 : Int32) (σ : g_S) (r : Int32) (σe : g_S) (hf : Units_isBlank N x0 σ = some (r, σe)) : Mt l D cA y_Units_isBlank c_Units_isBlank 1 (some .boolean) 0 0 [.int x0] (LC ao aa cA σ) (some (.int r)) (LC ao aa cA σe) := by
  refine g_met (by decide +kernel) (by simp [lg_sl, Value.category]) (fun X e1 e2 e3 hC => ?_)
  subst e1 e2 e3
  refine gw_lv [0] rfl ?_
  exact Units_isBlank_p0 ao aa hC N _ _ (r) _ hf
def Units_isNamePart_b52 (N : Nat) (σ : g_S) : Option (Int32 × g_S) := some (1, σ)
theorem Units_isNamePart_p52 (ao aa : Nat → Nat) {X : g_X} (hC : gC X c_Units_isNamePart R_Units 1 20 1 (some .boolean)) (N : Nat) (σ : g_S) (r : Int32) (σe : g_S) (hf : Units_isNamePart_b52 N σ = some (r, σe)) : gw X (.inl (some (.int r))) (LC ao aa X.2.2.1 σe) (LC ao aa X.2.2.1 σ) [] 52 [] := by
  unfold Units_isNamePart_b52 at hf
  refine gw_iconst hC 1 d_Units_isNamePart_52 (by decide) ?_
  cases hf
  exact gw_zret hC (by decide) d_Units_isNamePart_53
def Units_isNamePart_b101 (N : Nat) (s0 : Int32) (σ : g_S) : Option (Int32 × g_S) := if gB s0 = true then some (s0, σ) else none
theorem Units_isNamePart_p101 (ao aa : Nat → Nat) {X : g_X} (hC : gC X c_Units_isNamePart R_Units 1 20 1 (some .boolean)) (N : Nat) (s0 : Int32) (σ : g_S) (r : Int32) (σe : g_S) (hf : Units_isNamePart_b101 N s0 σ = some (r, σe)) : gw X (.inl (some (.int r))) (LC ao aa X.2.2.1 σe) (LC ao aa X.2.2.1 σ) [] 101 [.int s0] := by
  unfold Units_isNamePart_b101 at hf
  obtain ⟨hg101, hf⟩ := g_guard hf
  cases hf
  exact gw_zret hC hg101 d_Units_isNamePart_101
def Units_isNamePart_b96 (N : Nat) (σ : g_S) : Option (Int32 × g_S) := Units_isNamePart_b101 N 1 σ
theorem Units_isNamePart_p96 (ao aa : Nat → Nat) {X : g_X} (hC : gC X c_Units_isNamePart R_Units 1 20 1 (some .boolean)) (N : Nat) (σ : g_S) (r : Int32) (σe : g_S) (hf : Units_isNamePart_b96 N σ = some (r, σe)) : gw X (.inl (some (.int r))) (LC ao aa X.2.2.1 σe) (LC ao aa X.2.2.1 σ) [] 96 [] := by
  unfold Units_isNamePart_b96 at hf
  refine gw_iconst hC 1 d_Units_isNamePart_96 (by decide) ?_
  refine gw_goto hC 101 d_Units_isNamePart_97 (by decide) ?_
  exact Units_isNamePart_p101 ao aa hC N _ _ _ _ hf
def Units_isNamePart_b100 (N : Nat) (σ : g_S) : Option (Int32 × g_S) := Units_isNamePart_b101 N 0 σ
theorem Units_isNamePart_p100 (ao aa : Nat → Nat) {X : g_X} (hC : gC X c_Units_isNamePart R_Units 1 20 1 (some .boolean)) (N : Nat) (σ : g_S) (r : Int32) (σe : g_S) (hf : Units_isNamePart_b100 N σ = some (r, σe)) : gw X (.inl (some (.int r))) (LC ao aa X.2.2.1 σe) (LC ao aa X.2.2.1 σ) [] 100 [] := by
  unfold Units_isNamePart_b100 at hf
  refine gw_iconst hC 0 d_Units_isNamePart_100 (by decide) ?_
  exact Units_isNamePart_p101 ao aa hC N _ _ _ _ hf
def Units_isNamePart_b89 (N : Nat) (x0 : Int32) (σ : g_S) : Option (Int32 × g_S) := if x0 = 247 then Units_isNamePart_b100 N σ else Units_isNamePart_b96 N σ
theorem Units_isNamePart_p89 (ao aa : Nat → Nat) {X : g_X} (hC : gC X c_Units_isNamePart R_Units 1 20 1 (some .boolean)) (N : Nat) (x0 : Int32) (σ : g_S) (r : Int32) (σe : g_S) (hf : Units_isNamePart_b89 N x0 σ = some (r, σe)) : gw X (.inl (some (.int r))) (LC ao aa X.2.2.1 σe) (LC ao aa X.2.2.1 σ) [(0, .int x0)] 89 [] := by
  unfold Units_isNamePart_b89 at hf
  refine gw_iload_n hC 0 d_Units_isNamePart_89 rfl rfl ?_
  refine gw_sipush hC 247 d_Units_isNamePart_90 (by decide) ?_
  refine gw_icmp_eq hC 100 d_Units_isNamePart_93 (by decide) (fun hh => ?_) (fun hh => ?_)
  · rw [if_pos hh] at hf
    refine gw_lv [] rfl ?_
    exact Units_isNamePart_p100 ao aa hC N _ _ _ hf
  · rw [if_neg hh] at hf
    refine gw_lv [] rfl ?_
    exact Units_isNamePart_p96 ao aa hC N _ _ _ hf
def Units_isNamePart_b82 (N : Nat) (x0 : Int32) (σ : g_S) : Option (Int32 × g_S) := if x0 = 215 then Units_isNamePart_b100 N σ else Units_isNamePart_b89 N x0 σ
theorem Units_isNamePart_p82 (ao aa : Nat → Nat) {X : g_X} (hC : gC X c_Units_isNamePart R_Units 1 20 1 (some .boolean)) (N : Nat) (x0 : Int32) (σ : g_S) (r : Int32) (σe : g_S) (hf : Units_isNamePart_b82 N x0 σ = some (r, σe)) : gw X (.inl (some (.int r))) (LC ao aa X.2.2.1 σe) (LC ao aa X.2.2.1 σ) [(0, .int x0)] 82 [] := by
  unfold Units_isNamePart_b82 at hf
  refine gw_iload_n hC 0 d_Units_isNamePart_82 rfl rfl ?_
  refine gw_sipush hC 215 d_Units_isNamePart_83 (by decide) ?_
  refine gw_icmp_eq hC 100 d_Units_isNamePart_86 (by decide) (fun hh => ?_) (fun hh => ?_)
  · rw [if_pos hh] at hf
    refine gw_lv [] rfl ?_
    exact Units_isNamePart_p100 ao aa hC N _ _ _ hf
  · rw [if_neg hh] at hf
    exact Units_isNamePart_p89 ao aa hC N _ _ _ _ hf
def Units_isNamePart_b75 (N : Nat) (x0 : Int32) (σ : g_S) : Option (Int32 × g_S) := if 255 < x0 then Units_isNamePart_b100 N σ else Units_isNamePart_b82 N x0 σ
theorem Units_isNamePart_p75 (ao aa : Nat → Nat) {X : g_X} (hC : gC X c_Units_isNamePart R_Units 1 20 1 (some .boolean)) (N : Nat) (x0 : Int32) (σ : g_S) (r : Int32) (σe : g_S) (hf : Units_isNamePart_b75 N x0 σ = some (r, σe)) : gw X (.inl (some (.int r))) (LC ao aa X.2.2.1 σe) (LC ao aa X.2.2.1 σ) [(0, .int x0)] 75 [] := by
  unfold Units_isNamePart_b75 at hf
  refine gw_iload_n hC 0 d_Units_isNamePart_75 rfl rfl ?_
  refine gw_sipush hC 255 d_Units_isNamePart_76 (by decide) ?_
  refine gw_icmp_gt hC 100 d_Units_isNamePart_79 (by decide) (fun hh => ?_) (fun hh => ?_)
  · rw [if_pos hh] at hf
    refine gw_lv [] rfl ?_
    exact Units_isNamePart_p100 ao aa hC N _ _ _ hf
  · rw [if_neg hh] at hf
    exact Units_isNamePart_p82 ao aa hC N _ _ _ _ hf
def Units_isNamePart_b68 (N : Nat) (x0 : Int32) (σ : g_S) : Option (Int32 × g_S) := if x0 < 192 then Units_isNamePart_b100 N σ else Units_isNamePart_b75 N x0 σ
theorem Units_isNamePart_p68 (ao aa : Nat → Nat) {X : g_X} (hC : gC X c_Units_isNamePart R_Units 1 20 1 (some .boolean)) (N : Nat) (x0 : Int32) (σ : g_S) (r : Int32) (σe : g_S) (hf : Units_isNamePart_b68 N x0 σ = some (r, σe)) : gw X (.inl (some (.int r))) (LC ao aa X.2.2.1 σe) (LC ao aa X.2.2.1 σ) [(0, .int x0)] 68 [] := by
  unfold Units_isNamePart_b68 at hf
  refine gw_iload_n hC 0 d_Units_isNamePart_68 rfl rfl ?_
  refine gw_sipush hC 192 d_Units_isNamePart_69 (by decide) ?_
  refine gw_icmp_lt hC 100 d_Units_isNamePart_72 (by decide) (fun hh => ?_) (fun hh => ?_)
  · rw [if_pos hh] at hf
    refine gw_lv [] rfl ?_
    exact Units_isNamePart_p100 ao aa hC N _ _ _ hf
  · rw [if_neg hh] at hf
    exact Units_isNamePart_p75 ao aa hC N _ _ _ _ hf
def Units_isNamePart_b61 (N : Nat) (x0 : Int32) (σ : g_S) : Option (Int32 × g_S) := (Units_isDigit N x0 σ).bind fun q62 => if q62.1 = 0 then Units_isNamePart_b68 N x0 q62.2 else Units_isNamePart_b96 N q62.2
theorem Units_isNamePart_p61 (ao aa : Nat → Nat) {X : g_X} (hC : gC X c_Units_isNamePart R_Units 1 20 1 (some .boolean)) (N : Nat) (x0 : Int32) (σ : g_S) (r : Int32) (σe : g_S) (hf : Units_isNamePart_b61 N x0 σ = some (r, σe)) : gw X (.inl (some (.int r))) (LC ao aa X.2.2.1 σe) (LC ao aa X.2.2.1 σ) [(0, .int x0)] 61 [] := by
  unfold Units_isNamePart_b61 at hf
  refine gw_iload_n hC 0 d_Units_isNamePart_61 rfl rfl ?_
  obtain ⟨q62, hq62, hf⟩ := g_bind hf
  refine gw_callS hC [.int x0] [] (Units_isDigit_m _ _ _ ao aa N _ _ _ _ hq62) kc_Units_13 ⟨by decide, by decide⟩ (Nat.le_of_ble_eq_true rfl) [.int x0] [.int q62.1] rfl rfl d_Units_isNamePart_62 ?_
  refine gw_if_ne hC 96 d_Units_isNamePart_65 (by decide) (fun hh => ?_) (fun hh => ?_)
  · rw [if_neg hh] at hf
    refine gw_lv [] rfl ?_
    exact Units_isNamePart_p96 ao aa hC N _ _ _ hf
  · rw [if_pos hh] at hf
    exact Units_isNamePart_p68 ao aa hC N _ _ _ _ hf
def Units_isNamePart_b54 (N : Nat) (x0 : Int32) (σ : g_S) : Option (Int32 × g_S) := (Units_isLetter N x0 σ).bind fun q55 => if q55.1 = 0 then Units_isNamePart_b61 N x0 q55.2 else Units_isNamePart_b96 N q55.2
theorem Units_isNamePart_p54 (ao aa : Nat → Nat) {X : g_X} (hC : gC X c_Units_isNamePart R_Units 1 20 1 (some .boolean)) (N : Nat) (x0 : Int32) (σ : g_S) (r : Int32) (σe : g_S) (hf : Units_isNamePart_b54 N x0 σ = some (r, σe)) : gw X (.inl (some (.int r))) (LC ao aa X.2.2.1 σe) (LC ao aa X.2.2.1 σ) [(0, .int x0)] 54 [] := by
  unfold Units_isNamePart_b54 at hf
  refine gw_iload_n hC 0 d_Units_isNamePart_54 rfl rfl ?_
  obtain ⟨q55, hq55, hf⟩ := g_bind hf
  refine gw_callS hC [.int x0] [] (Units_isLetter_m _ _ _ ao aa N _ _ _ _ hq55) kc_Units_7 ⟨by decide, by decide⟩ (Nat.le_of_ble_eq_true rfl) [.int x0] [.int q55.1] rfl rfl d_Units_isNamePart_55 ?_
  refine gw_if_ne hC 96 d_Units_isNamePart_58 (by decide) (fun hh => ?_) (fun hh => ?_)
  · rw [if_neg hh] at hf
    refine gw_lv [] rfl ?_
    exact Units_isNamePart_p96 ao aa hC N _ _ _ hf
  · rw [if_pos hh] at hf
    exact Units_isNamePart_p61 ao aa hC N _ _ _ _ hf
def Units_isNamePart_b0 (N : Nat) (x0 : Int32) (σ : g_S) : Option (Int32 × g_S) := if x0 = 36 then Units_isNamePart_b52 N σ else if x0 = 95 then Units_isNamePart_b52 N σ else if x0 = 170 then Units_isNamePart_b52 N σ else if x0 = 181 then Units_isNamePart_b52 N σ else if x0 = 186 then Units_isNamePart_b52 N σ else Units_isNamePart_b54 N x0 σ
theorem Units_isNamePart_p0 (ao aa : Nat → Nat) {X : g_X} (hC : gC X c_Units_isNamePart R_Units 1 20 1 (some .boolean)) (N : Nat) (x0 : Int32) (σ : g_S) (r : Int32) (σe : g_S) (hf : Units_isNamePart_b0 N x0 σ = some (r, σe)) : gw X (.inl (some (.int r))) (LC ao aa X.2.2.1 σe) (LC ao aa X.2.2.1 σ) [(0, .int x0)] 0 [] := by
  unfold Units_isNamePart_b0 at hf
  refine gw_iload_n hC 0 d_Units_isNamePart_0 rfl rfl ?_
  by_cases hh0 : x0 = 36
  · rw [if_pos hh0] at hf
    refine gw_lookup hC 51 52 d_Units_isNamePart_1 (by decide) (by rw [hh0]; decide +kernel) (by decide) ?_
    refine gw_lv [] rfl ?_
    exact Units_isNamePart_p52 ao aa hC N _ _ _ hf
  · rw [if_neg hh0] at hf
    by_cases hh1 : x0 = 95
    · rw [if_pos hh1] at hf
      refine gw_lookup hC 51 52 d_Units_isNamePart_1 (by decide) (by rw [hh1]; decide +kernel) (by decide) ?_
      refine gw_lv [] rfl ?_
      exact Units_isNamePart_p52 ao aa hC N _ _ _ hf
    · rw [if_neg hh1] at hf
      by_cases hh2 : x0 = 170
      · rw [if_pos hh2] at hf
        refine gw_lookup hC 51 52 d_Units_isNamePart_1 (by decide) (by rw [hh2]; decide +kernel) (by decide) ?_
        refine gw_lv [] rfl ?_
        exact Units_isNamePart_p52 ao aa hC N _ _ _ hf
      · rw [if_neg hh2] at hf
        by_cases hh3 : x0 = 181
        · rw [if_pos hh3] at hf
          refine gw_lookup hC 51 52 d_Units_isNamePart_1 (by decide) (by rw [hh3]; decide +kernel) (by decide) ?_
          refine gw_lv [] rfl ?_
          exact Units_isNamePart_p52 ao aa hC N _ _ _ hf
        · rw [if_neg hh3] at hf
          by_cases hh4 : x0 = 186
          · rw [if_pos hh4] at hf
            refine gw_lookup hC 51 52 d_Units_isNamePart_1 (by decide) (by rw [hh4]; decide +kernel) (by decide) ?_
            refine gw_lv [] rfl ?_
            exact Units_isNamePart_p52 ao aa hC N _ _ _ hf
          · rw [if_neg hh4] at hf
            refine gw_lookup hC 53 54 d_Units_isNamePart_1 (by decide) (g_lk hh0 (by decide) (g_lk hh1 (by decide) (g_lk hh2 (by decide) (g_lk hh3 (by decide) (g_lk hh4 (by decide) rfl))))) (by decide) ?_
            exact Units_isNamePart_p54 ao aa hC N _ _ _ _ hf
def Units_isNamePart (N : Nat) (x0 : Int32) (σ : g_S) : Option (Int32 × g_S) := Units_isNamePart_b0 N x0 σ
theorem Units_isNamePart_m (l : Launch) (D : va_G) (cA : ClassId) (ao aa : Nat → Nat) (N : Nat) (x0 : Int32) (σ : g_S) (r : Int32) (σe : g_S) (hf : Units_isNamePart N x0 σ = some (r, σe)) : Mt l D cA y_Units_isNamePart c_Units_isNamePart 1 (some .boolean) 1 20 [.int x0] (LC ao aa cA σ) (some (.int r)) (LC ao aa cA σe) := by
  refine g_met (by decide +kernel) (by simp [lg_sl, Value.category]) (fun X e1 e2 e3 hC => ?_)
  subst e1 e2 e3
  refine gw_lv [0] rfl ?_
  exact Units_isNamePart_p0 ao aa hC N _ _ (r) _ hf
def Units_inSet_b73 (N : Nat) (s0 : Int32) (σ : g_S) : Option (Int32 × g_S) := if gB s0 = true then some (s0, σ) else none
theorem Units_inSet_p73 (ao aa : Nat → Nat) {X : g_X} (hC : gC X c_Units_inSet R_Units 2 40 2 (some .boolean)) (N : Nat) (s0 : Int32) (σ : g_S) (r : Int32) (σe : g_S) (hf : Units_inSet_b73 N s0 σ = some (r, σe)) : gw X (.inl (some (.int r))) (LC ao aa X.2.2.1 σe) (LC ao aa X.2.2.1 σ) [] 73 [.int s0] := by
  unfold Units_inSet_b73 at hf
  obtain ⟨hg73, hf⟩ := g_guard hf
  cases hf
  exact gw_zret hC hg73 d_Units_inSet_73
def Units_inSet_b72 (N : Nat) (σ : g_S) : Option (Int32 × g_S) := Units_inSet_b73 N 0 σ
theorem Units_inSet_p72 (ao aa : Nat → Nat) {X : g_X} (hC : gC X c_Units_inSet R_Units 2 40 2 (some .boolean)) (N : Nat) (σ : g_S) (r : Int32) (σe : g_S) (hf : Units_inSet_b72 N σ = some (r, σe)) : gw X (.inl (some (.int r))) (LC ao aa X.2.2.1 σe) (LC ao aa X.2.2.1 σ) [] 72 [] := by
  unfold Units_inSet_b72 at hf
  refine gw_iconst hC 0 d_Units_inSet_72 (by decide) ?_
  exact Units_inSet_p73 ao aa hC N _ _ _ _ hf
def Units_inSet_b68 (N : Nat) (σ : g_S) : Option (Int32 × g_S) := Units_inSet_b73 N 1 σ
theorem Units_inSet_p68 (ao aa : Nat → Nat) {X : g_X} (hC : gC X c_Units_inSet R_Units 2 40 2 (some .boolean)) (N : Nat) (σ : g_S) (r : Int32) (σe : g_S) (hf : Units_inSet_b68 N σ = some (r, σe)) : gw X (.inl (some (.int r))) (LC ao aa X.2.2.1 σe) (LC ao aa X.2.2.1 σ) [] 68 [] := by
  unfold Units_inSet_b68 at hf
  refine gw_iconst hC 1 d_Units_inSet_68 (by decide) ?_
  refine gw_goto hC 73 d_Units_inSet_69 (by decide) ?_
  exact Units_inSet_p73 ao aa hC N _ _ _ _ hf
def Units_inSet_b61 (N : Nat) (x1 : Int32) (σ : g_S) : Option (Int32 × g_S) := (Units_isDigit N x1 σ).bind fun q62 => if q62.1 = 0 then Units_inSet_b68 N q62.2 else Units_inSet_b72 N q62.2
theorem Units_inSet_p61 (ao aa : Nat → Nat) {X : g_X} (hC : gC X c_Units_inSet R_Units 2 40 2 (some .boolean)) (N : Nat) (x1 : Int32) (σ : g_S) (r : Int32) (σe : g_S) (hf : Units_inSet_b61 N x1 σ = some (r, σe)) : gw X (.inl (some (.int r))) (LC ao aa X.2.2.1 σe) (LC ao aa X.2.2.1 σ) [(1, .int x1)] 61 [] := by
  unfold Units_inSet_b61 at hf
  refine gw_iload_n hC 0 d_Units_inSet_61 rfl rfl ?_
  obtain ⟨q62, hq62, hf⟩ := g_bind hf
  refine gw_callS hC [.int x1] [] (Units_isDigit_m _ _ _ ao aa N _ _ _ _ hq62) kc_Units_13 ⟨by decide, by decide⟩ (Nat.le_of_ble_eq_true rfl) [.int x1] [.int q62.1] rfl rfl d_Units_inSet_62 ?_
  refine gw_if_ne hC 72 d_Units_inSet_65 (by decide) (fun hh => ?_) (fun hh => ?_)
  · rw [if_neg hh] at hf
    refine gw_lv [] rfl ?_
    exact Units_inSet_p72 ao aa hC N _ _ _ hf
  · rw [if_pos hh] at hf
    refine gw_lv [] rfl ?_
    exact Units_inSet_p68 ao aa hC N _ _ _ hf
def Units_inSet_b113 (N : Nat) (s0 : Int32) (σ : g_S) : Option (Int32 × g_S) := if gB s0 = true then some (s0, σ) else none
theorem Units_inSet_p113 (ao aa : Nat → Nat) {X : g_X} (hC : gC X c_Units_inSet R_Units 2 40 2 (some .boolean)) (N : Nat) (s0 : Int32) (σ : g_S) (r : Int32) (σe : g_S) (hf : Units_inSet_b113 N s0 σ = some (r, σe)) : gw X (.inl (some (.int r))) (LC ao aa X.2.2.1 σe) (LC ao aa X.2.2.1 σ) [] 113 [.int s0] := by
  unfold Units_inSet_b113 at hf
  obtain ⟨hg113, hf⟩ := g_guard hf
  cases hf
  exact gw_zret hC hg113 d_Units_inSet_113
def Units_inSet_b112 (N : Nat) (σ : g_S) : Option (Int32 × g_S) := Units_inSet_b113 N 0 σ
theorem Units_inSet_p112 (ao aa : Nat → Nat) {X : g_X} (hC : gC X c_Units_inSet R_Units 2 40 2 (some .boolean)) (N : Nat) (σ : g_S) (r : Int32) (σe : g_S) (hf : Units_inSet_b112 N σ = some (r, σe)) : gw X (.inl (some (.int r))) (LC ao aa X.2.2.1 σe) (LC ao aa X.2.2.1 σ) [] 112 [] := by
  unfold Units_inSet_b112 at hf
  refine gw_iconst hC 0 d_Units_inSet_112 (by decide) ?_
  exact Units_inSet_p113 ao aa hC N _ _ _ _ hf
def Units_inSet_b108 (N : Nat) (σ : g_S) : Option (Int32 × g_S) := Units_inSet_b113 N 1 σ
theorem Units_inSet_p108 (ao aa : Nat → Nat) {X : g_X} (hC : gC X c_Units_inSet R_Units 2 40 2 (some .boolean)) (N : Nat) (σ : g_S) (r : Int32) (σe : g_S) (hf : Units_inSet_b108 N σ = some (r, σe)) : gw X (.inl (some (.int r))) (LC ao aa X.2.2.1 σe) (LC ao aa X.2.2.1 σ) [] 108 [] := by
  unfold Units_inSet_b108 at hf
  refine gw_iconst hC 1 d_Units_inSet_108 (by decide) ?_
  refine gw_goto hC 113 d_Units_inSet_109 (by decide) ?_
  exact Units_inSet_p113 ao aa hC N _ _ _ _ hf
def Units_inSet_b101 (N : Nat) (x1 : Int32) (σ : g_S) : Option (Int32 × g_S) := (Units_isLineEnd N x1 σ).bind fun q102 => if q102.1 = 0 then Units_inSet_b108 N q102.2 else Units_inSet_b112 N q102.2
theorem Units_inSet_p101 (ao aa : Nat → Nat) {X : g_X} (hC : gC X c_Units_inSet R_Units 2 40 2 (some .boolean)) (N : Nat) (x1 : Int32) (σ : g_S) (r : Int32) (σe : g_S) (hf : Units_inSet_b101 N x1 σ = some (r, σe)) : gw X (.inl (some (.int r))) (LC ao aa X.2.2.1 σe) (LC ao aa X.2.2.1 σ) [(1, .int x1)] 101 [] := by
  unfold Units_inSet_b101 at hf
  refine gw_iload_n hC 0 d_Units_inSet_101 rfl rfl ?_
  obtain ⟨q102, hq102, hf⟩ := g_bind hf
  refine gw_callS hC [.int x1] [] (Units_isLineEnd_m _ _ _ ao aa N _ _ _ _ hq102) kc_Units_20 ⟨by decide, by decide⟩ (Nat.le_of_ble_eq_true rfl) [.int x1] [.int q102.1] rfl rfl d_Units_inSet_102 ?_
  refine gw_if_ne hC 112 d_Units_inSet_105 (by decide) (fun hh => ?_) (fun hh => ?_)
  · rw [if_neg hh] at hf
    refine gw_lv [] rfl ?_
    exact Units_inSet_p112 ao aa hC N _ _ _ hf
  · rw [if_pos hh] at hf
    refine gw_lv [] rfl ?_
    exact Units_inSet_p108 ao aa hC N _ _ _ hf
def Units_inSet_b94 (N : Nat) (x1 : Int32) (σ : g_S) : Option (Int32 × g_S) := (Units_isBlank N x1 σ).bind fun q95 => if q95.1 = 0 then Units_inSet_b101 N x1 q95.2 else Units_inSet_b112 N q95.2
theorem Units_inSet_p94 (ao aa : Nat → Nat) {X : g_X} (hC : gC X c_Units_inSet R_Units 2 40 2 (some .boolean)) (N : Nat) (x1 : Int32) (σ : g_S) (r : Int32) (σe : g_S) (hf : Units_inSet_b94 N x1 σ = some (r, σe)) : gw X (.inl (some (.int r))) (LC ao aa X.2.2.1 σe) (LC ao aa X.2.2.1 σ) [(1, .int x1)] 94 [] := by
  unfold Units_inSet_b94 at hf
  refine gw_iload_n hC 0 d_Units_inSet_94 rfl rfl ?_
  obtain ⟨q95, hq95, hf⟩ := g_bind hf
  refine gw_callS hC [.int x1] [] (Units_isBlank_m _ _ _ ao aa N _ _ _ _ hq95) kc_Units_17 ⟨by decide, by decide⟩ (Nat.le_of_ble_eq_true rfl) [.int x1] [.int q95.1] rfl rfl d_Units_inSet_95 ?_
  refine gw_if_ne hC 112 d_Units_inSet_98 (by decide) (fun hh => ?_) (fun hh => ?_)
  · rw [if_neg hh] at hf
    refine gw_lv [] rfl ?_
    exact Units_inSet_p112 ao aa hC N _ _ _ hf
  · rw [if_pos hh] at hf
    exact Units_inSet_p101 ao aa hC N _ _ _ _ hf
def Units_inSet_b56 (N : Nat) (x1 : Int32) (σ : g_S) : Option (Int32 × g_S) := (Units_isDigit N x1 σ).bind fun q57 => if gB q57.1 = true then some (q57.1, q57.2) else none
theorem Units_inSet_p56 (ao aa : Nat → Nat) {X : g_X} (hC : gC X c_Units_inSet R_Units 2 40 2 (some .boolean)) (N : Nat) (x1 : Int32) (σ : g_S) (r : Int32) (σe : g_S) (hf : Units_inSet_b56 N x1 σ = some (r, σe)) : gw X (.inl (some (.int r))) (LC ao aa X.2.2.1 σe) (LC ao aa X.2.2.1 σ) [(1, .int x1)] 56 [] := by
  unfold Units_inSet_b56 at hf
  refine gw_iload_n hC 0 d_Units_inSet_56 rfl rfl ?_
  obtain ⟨q57, hq57, hf⟩ := g_bind hf
  refine gw_callS hC [.int x1] [] (Units_isDigit_m _ _ _ ao aa N _ _ _ _ hq57) kc_Units_13 ⟨by decide, by decide⟩ (Nat.le_of_ble_eq_true rfl) [.int x1] [.int q57.1] rfl rfl d_Units_inSet_57 ?_
  obtain ⟨hg60, hf⟩ := g_guard hf
  cases hf
  exact gw_zret hC hg60 d_Units_inSet_60
def Units_inSet_b93 (N : Nat) (s0 : Int32) (σ : g_S) : Option (Int32 × g_S) := if gB s0 = true then some (s0, σ) else none
theorem Units_inSet_p93 (ao aa : Nat → Nat) {X : g_X} (hC : gC X c_Units_inSet R_Units 2 40 2 (some .boolean)) (N : Nat) (s0 : Int32) (σ : g_S) (r : Int32) (σe : g_S) (hf : Units_inSet_b93 N s0 σ = some (r, σe)) : gw X (.inl (some (.int r))) (LC ao aa X.2.2.1 σe) (LC ao aa X.2.2.1 σ) [] 93 [.int s0] := by
  unfold Units_inSet_b93 at hf
  obtain ⟨hg93, hf⟩ := g_guard hf
  cases hf
  exact gw_zret hC hg93 d_Units_inSet_93
def Units_inSet_b88 (N : Nat) (σ : g_S) : Option (Int32 × g_S) := Units_inSet_b93 N 1 σ
theorem Units_inSet_p88 (ao aa : Nat → Nat) {X : g_X} (hC : gC X c_Units_inSet R_Units 2 40 2 (some .boolean)) (N : Nat) (σ : g_S) (r : Int32) (σe : g_S) (hf : Units_inSet_b88 N σ = some (r, σe)) : gw X (.inl (some (.int r))) (LC ao aa X.2.2.1 σe) (LC ao aa X.2.2.1 σ) [] 88 [] := by
  unfold Units_inSet_b88 at hf
  refine gw_iconst hC 1 d_Units_inSet_88 (by decide) ?_
  refine gw_goto hC 93 d_Units_inSet_89 (by decide) ?_
  exact Units_inSet_p93 ao aa hC N _ _ _ _ hf
def Units_inSet_b92 (N : Nat) (σ : g_S) : Option (Int32 × g_S) := Units_inSet_b93 N 0 σ
theorem Units_inSet_p92 (ao aa : Nat → Nat) {X : g_X} (hC : gC X c_Units_inSet R_Units 2 40 2 (some .boolean)) (N : Nat) (σ : g_S) (r : Int32) (σe : g_S) (hf : Units_inSet_b92 N σ = some (r, σe)) : gw X (.inl (some (.int r))) (LC ao aa X.2.2.1 σe) (LC ao aa X.2.2.1 σ) [] 92 [] := by
  unfold Units_inSet_b92 at hf
  refine gw_iconst hC 0 d_Units_inSet_92 (by decide) ?_
  exact Units_inSet_p93 ao aa hC N _ _ _ _ hf
def Units_inSet_b81 (N : Nat) (x1 : Int32) (σ : g_S) : Option (Int32 × g_S) := (Units_isLineEnd N x1 σ).bind fun q82 => if q82.1 = 0 then Units_inSet_b92 N q82.2 else Units_inSet_b88 N q82.2
theorem Units_inSet_p81 (ao aa : Nat → Nat) {X : g_X} (hC : gC X c_Units_inSet R_Units 2 40 2 (some .boolean)) (N : Nat) (x1 : Int32) (σ : g_S) (r : Int32) (σe : g_S) (hf : Units_inSet_b81 N x1 σ = some (r, σe)) : gw X (.inl (some (.int r))) (LC ao aa X.2.2.1 σe) (LC ao aa X.2.2.1 σ) [(1, .int x1)] 81 [] := by
  unfold Units_inSet_b81 at hf
  refine gw_iload_n hC 0 d_Units_inSet_81 rfl rfl ?_
  obtain ⟨q82, hq82, hf⟩ := g_bind hf
  refine gw_callS hC [.int x1] [] (Units_isLineEnd_m _ _ _ ao aa N _ _ _ _ hq82) kc_Units_20 ⟨by decide, by decide⟩ (Nat.le_of_ble_eq_true rfl) [.int x1] [.int q82.1] rfl rfl d_Units_inSet_82 ?_
  refine gw_if_eq hC 92 d_Units_inSet_85 (by decide) (fun hh => ?_) (fun hh => ?_)
  · rw [if_pos hh] at hf
    refine gw_lv [] rfl ?_
    exact Units_inSet_p92 ao aa hC N _ _ _ hf
  · rw [if_neg hh] at hf
    refine gw_lv [] rfl ?_
    exact Units_inSet_p88 ao aa hC N _ _ _ hf
def Units_inSet_b74 (N : Nat) (x1 : Int32) (σ : g_S) : Option (Int32 × g_S) := (Units_isBlank N x1 σ).bind fun q75 => if q75.1 = 0 then Units_inSet_b81 N x1 q75.2 else Units_inSet_b88 N q75.2
theorem Units_inSet_p74 (ao aa : Nat → Nat) {X : g_X} (hC : gC X c_Units_inSet R_Units 2 40 2 (some .boolean)) (N : Nat) (x1 : Int32) (σ : g_S) (r : Int32) (σe : g_S) (hf : Units_inSet_b74 N x1 σ = some (r, σe)) : gw X (.inl (some (.int r))) (LC ao aa X.2.2.1 σe) (LC ao aa X.2.2.1 σ) [(1, .int x1)] 74 [] := by
  unfold Units_inSet_b74 at hf
  refine gw_iload_n hC 0 d_Units_inSet_74 rfl rfl ?_
  obtain ⟨q75, hq75, hf⟩ := g_bind hf
  refine gw_callS hC [.int x1] [] (Units_isBlank_m _ _ _ ao aa N _ _ _ _ hq75) kc_Units_17 ⟨by decide, by decide⟩ (Nat.le_of_ble_eq_true rfl) [.int x1] [.int q75.1] rfl rfl d_Units_inSet_75 ?_
  refine gw_if_ne hC 88 d_Units_inSet_78 (by decide) (fun hh => ?_) (fun hh => ?_)
  · rw [if_neg hh] at hf
    refine gw_lv [] rfl ?_
    exact Units_inSet_p88 ao aa hC N _ _ _ hf
  · rw [if_pos hh] at hf
    exact Units_inSet_p81 ao aa hC N _ _ _ _ hf
def Units_inSet_b114 (N : Nat) (x1 : Int32) (σ : g_S) : Option (Int32 × g_S) := (Units_isWord N x1 σ).bind fun q115 => if gB q115.1 = true then some (q115.1, q115.2) else none
theorem Units_inSet_p114 (ao aa : Nat → Nat) {X : g_X} (hC : gC X c_Units_inSet R_Units 2 40 2 (some .boolean)) (N : Nat) (x1 : Int32) (σ : g_S) (r : Int32) (σe : g_S) (hf : Units_inSet_b114 N x1 σ = some (r, σe)) : gw X (.inl (some (.int r))) (LC ao aa X.2.2.1 σe) (LC ao aa X.2.2.1 σ) [(1, .int x1)] 114 [] := by
  unfold Units_inSet_b114 at hf
  refine gw_iload_n hC 0 d_Units_inSet_114 rfl rfl ?_
  obtain ⟨q115, hq115, hf⟩ := g_bind hf
  refine gw_callS hC [.int x1] [] (Units_isWord_m _ _ _ ao aa N _ _ _ _ hq115) kc_Units_23 ⟨by decide, by decide⟩ (Nat.le_of_ble_eq_true rfl) [.int x1] [.int q115.1] rfl rfl d_Units_inSet_115 ?_
  obtain ⟨hg118, hf⟩ := g_guard hf
  cases hf
  exact gw_zret hC hg118 d_Units_inSet_118
def Units_inSet_b131 (N : Nat) (s0 : Int32) (σ : g_S) : Option (Int32 × g_S) := if gB s0 = true then some (s0, σ) else none
theorem Units_inSet_p131 (ao aa : Nat → Nat) {X : g_X} (hC : gC X c_Units_inSet R_Units 2 40 2 (some .boolean)) (N : Nat) (s0 : Int32) (σ : g_S) (r : Int32) (σe : g_S) (hf : Units_inSet_b131 N s0 σ = some (r, σe)) : gw X (.inl (some (.int r))) (LC ao aa X.2.2.1 σe) (LC ao aa X.2.2.1 σ) [] 131 [.int s0] := by
  unfold Units_inSet_b131 at hf
  obtain ⟨hg131, hf⟩ := g_guard hf
  cases hf
  exact gw_zret hC hg131 d_Units_inSet_131
def Units_inSet_b130 (N : Nat) (σ : g_S) : Option (Int32 × g_S) := Units_inSet_b131 N 0 σ
theorem Units_inSet_p130 (ao aa : Nat → Nat) {X : g_X} (hC : gC X c_Units_inSet R_Units 2 40 2 (some .boolean)) (N : Nat) (σ : g_S) (r : Int32) (σe : g_S) (hf : Units_inSet_b130 N σ = some (r, σe)) : gw X (.inl (some (.int r))) (LC ao aa X.2.2.1 σe) (LC ao aa X.2.2.1 σ) [] 130 [] := by
  unfold Units_inSet_b130 at hf
  refine gw_iconst hC 0 d_Units_inSet_130 (by decide) ?_
  exact Units_inSet_p131 ao aa hC N _ _ _ _ hf
def Units_inSet_b126 (N : Nat) (σ : g_S) : Option (Int32 × g_S) := Units_inSet_b131 N 1 σ
theorem Units_inSet_p126 (ao aa : Nat → Nat) {X : g_X} (hC : gC X c_Units_inSet R_Units 2 40 2 (some .boolean)) (N : Nat) (σ : g_S) (r : Int32) (σe : g_S) (hf : Units_inSet_b126 N σ = some (r, σe)) : gw X (.inl (some (.int r))) (LC ao aa X.2.2.1 σe) (LC ao aa X.2.2.1 σ) [] 126 [] := by
  unfold Units_inSet_b126 at hf
  refine gw_iconst hC 1 d_Units_inSet_126 (by decide) ?_
  refine gw_goto hC 131 d_Units_inSet_127 (by decide) ?_
  exact Units_inSet_p131 ao aa hC N _ _ _ _ hf
def Units_inSet_b119 (N : Nat) (x1 : Int32) (σ : g_S) : Option (Int32 × g_S) := (Units_isWord N x1 σ).bind fun q120 => if q120.1 = 0 then Units_inSet_b126 N q120.2 else Units_inSet_b130 N q120.2
theorem Units_inSet_p119 (ao aa : Nat → Nat) {X : g_X} (hC : gC X c_Units_inSet R_Units 2 40 2 (some .boolean)) (N : Nat) (x1 : Int32) (σ : g_S) (r : Int32) (σe : g_S) (hf : Units_inSet_b119 N x1 σ = some (r, σe)) : gw X (.inl (some (.int r))) (LC ao aa X.2.2.1 σe) (LC ao aa X.2.2.1 σ) [(1, .int x1)] 119 [] := by
  unfold Units_inSet_b119 at hf
  refine gw_iload_n hC 0 d_Units_inSet_119 rfl rfl ?_
  obtain ⟨q120, hq120, hf⟩ := g_bind hf
  refine gw_callS hC [.int x1] [] (Units_isWord_m _ _ _ ao aa N _ _ _ _ hq120) kc_Units_23 ⟨by decide, by decide⟩ (Nat.le_of_ble_eq_true rfl) [.int x1] [.int q120.1] rfl rfl d_Units_inSet_120 ?_
  refine gw_if_ne hC 130 d_Units_inSet_123 (by decide) (fun hh => ?_) (fun hh => ?_)
  · rw [if_neg hh] at hf
    refine gw_lv [] rfl ?_
    exact Units_inSet_p130 ao aa hC N _ _ _ hf
  · rw [if_pos hh] at hf
    refine gw_lv [] rfl ?_
    exact Units_inSet_p126 ao aa hC N _ _ _ hf
def Units_inSet_b0 (N : Nat) (x0 : Int32) (x1 : Int32) (σ : g_S) : Option (Int32 × g_S) := if (x0 - 65536) = 68 then Units_inSet_b61 N x1 σ else if (x0 - 65536) = 83 then Units_inSet_b94 N x1 σ else if (x0 - 65536) = 100 then Units_inSet_b56 N x1 σ else if (x0 - 65536) = 115 then Units_inSet_b74 N x1 σ else if (x0 - 65536) = 119 then Units_inSet_b114 N x1 σ else Units_inSet_b119 N x1 σ
theorem Units_inSet_p0 (ao aa : Nat → Nat) {X : g_X} (hC : gC X c_Units_inSet R_Units 2 40 2 (some .boolean)) (N : Nat) (x0 : Int32) (x1 : Int32) (σ : g_S) (r : Int32) (σe : g_S) (hf : Units_inSet_b0 N x0 x1 σ = some (r, σe)) : gw X (.inl (some (.int r))) (LC ao aa X.2.2.1 σe) (LC ao aa X.2.2.1 σ) [(0, .int x0), (1, .int x1)] 0 [] := by
  unfold Units_inSet_b0 at hf
  refine gw_iload_n hC 0 d_Units_inSet_0 rfl rfl ?_
  refine gw_ldc hC 65536 kn_Units_16 d_Units_inSet_1 ?_
  refine gw_isub hC d_Units_inSet_3 ?_
  by_cases hh0 : (x0 - 65536) = 68
  · rw [if_pos hh0] at hf
    refine gw_lookup hC 57 61 d_Units_inSet_4 (by decide) (by rw [hh0]; decide +kernel) (by decide) ?_
    refine gw_lv [1] rfl ?_
    exact Units_inSet_p61 ao aa hC N _ _ _ _ hf
  · rw [if_neg hh0] at hf
    by_cases hh1 : (x0 - 65536) = 83
    · rw [if_pos hh1] at hf
      refine gw_lookup hC 90 94 d_Units_inSet_4 (by decide) (by rw [hh1]; decide +kernel) (by decide) ?_
      refine gw_lv [1] rfl ?_
      exact Units_inSet_p94 ao aa hC N _ _ _ _ hf
    · rw [if_neg hh1] at hf
      by_cases hh2 : (x0 - 65536) = 100
      · rw [if_pos hh2] at hf
        refine gw_lookup hC 52 56 d_Units_inSet_4 (by decide) (by rw [hh2]; decide +kernel) (by decide) ?_
        refine gw_lv [1] rfl ?_
        exact Units_inSet_p56 ao aa hC N _ _ _ _ hf
      · rw [if_neg hh2] at hf
        by_cases hh3 : (x0 - 65536) = 115
        · rw [if_pos hh3] at hf
          refine gw_lookup hC 70 74 d_Units_inSet_4 (by decide) (by rw [hh3]; decide +kernel) (by decide) ?_
          refine gw_lv [1] rfl ?_
          exact Units_inSet_p74 ao aa hC N _ _ _ _ hf
        · rw [if_neg hh3] at hf
          by_cases hh4 : (x0 - 65536) = 119
          · rw [if_pos hh4] at hf
            refine gw_lookup hC 110 114 d_Units_inSet_4 (by decide) (by rw [hh4]; decide +kernel) (by decide) ?_
            refine gw_lv [1] rfl ?_
            exact Units_inSet_p114 ao aa hC N _ _ _ _ hf
          · rw [if_neg hh4] at hf
            refine gw_lookup hC 115 119 d_Units_inSet_4 (by decide) (g_lk hh0 (by decide) (g_lk hh1 (by decide) (g_lk hh2 (by decide) (g_lk hh3 (by decide) (g_lk hh4 (by decide) rfl))))) (by decide) ?_
            refine gw_lv [1] rfl ?_
            exact Units_inSet_p119 ao aa hC N _ _ _ _ hf
def Units_inSet (N : Nat) (x0 : Int32) (x1 : Int32) (σ : g_S) : Option (Int32 × g_S) := Units_inSet_b0 N x0 x1 σ
theorem Units_inSet_m (l : Launch) (D : va_G) (cA : ClassId) (ao aa : Nat → Nat) (N : Nat) (x0 : Int32) (x1 : Int32) (σ : g_S) (r : Int32) (σe : g_S) (hf : Units_inSet N x0 x1 σ = some (r, σe)) : Mt l D cA y_Units_inSet c_Units_inSet 2 (some .boolean) 2 40 [.int x0, .int x1] (LC ao aa cA σ) (some (.int r)) (LC ao aa cA σe) := by
  refine g_met (by decide +kernel) (by simp [lg_sl, Value.category]) (fun X e1 e2 e3 hC => ?_)
  subst e1 e2 e3
  refine gw_lv [0, 1] rfl ?_
  exact Units_inSet_p0 ao aa hC N _ _ _ (r) _ hf
def Units_sixteenth_b60 (N : Nat) (s0 : Int32) (σ : g_S) : Option (Int32 × g_S) := some (s0, σ)
theorem Units_sixteenth_p60 (ao aa : Nat → Nat) {X : g_X} (hC : gC X c_Units_sixteenth R_Units 0 0 1 (some .int)) (N : Nat) (s0 : Int32) (σ : g_S) (r : Int32) (σe : g_S) (hf : Units_sixteenth_b60 N s0 σ = some (r, σe)) : gw X (.inl (some (.int r))) (LC ao aa X.2.2.1 σe) (LC ao aa X.2.2.1 σ) [] 60 [.int s0] := by
  unfold Units_sixteenth_b60 at hf
  cases hf
  exact gw_iret hC d_Units_sixteenth_60
def Units_sixteenth_b59 (N : Nat) (σ : g_S) : Option (Int32 × g_S) := Units_sixteenth_b60 N (-1) σ
theorem Units_sixteenth_p59 (ao aa : Nat → Nat) {X : g_X} (hC : gC X c_Units_sixteenth R_Units 0 0 1 (some .int)) (N : Nat) (σ : g_S) (r : Int32) (σe : g_S) (hf : Units_sixteenth_b59 N σ = some (r, σe)) : gw X (.inl (some (.int r))) (LC ao aa X.2.2.1 σe) (LC ao aa X.2.2.1 σ) [] 59 [] := by
  unfold Units_sixteenth_b59 at hf
  refine gw_iconst hC (-1) d_Units_sixteenth_59 (by decide) ?_
  exact Units_sixteenth_p60 ao aa hC N _ _ _ _ hf
def Units_sixteenth_b49 (N : Nat) (x0 : Int32) (σ : g_S) : Option (Int32 × g_S) := Units_sixteenth_b60 N ((x0 - 65) + 10) σ
theorem Units_sixteenth_p49 (ao aa : Nat → Nat) {X : g_X} (hC : gC X c_Units_sixteenth R_Units 0 0 1 (some .int)) (N : Nat) (x0 : Int32) (σ : g_S) (r : Int32) (σe : g_S) (hf : Units_sixteenth_b49 N x0 σ = some (r, σe)) : gw X (.inl (some (.int r))) (LC ao aa X.2.2.1 σe) (LC ao aa X.2.2.1 σ) [(0, .int x0)] 49 [] := by
  unfold Units_sixteenth_b49 at hf
  refine gw_iload_n hC 0 d_Units_sixteenth_49 rfl rfl ?_
  refine gw_bipush hC 65 d_Units_sixteenth_50 (by decide) ?_
  refine gw_isub hC d_Units_sixteenth_52 ?_
  refine gw_bipush hC 10 d_Units_sixteenth_53 (by decide) ?_
  refine gw_iadd hC d_Units_sixteenth_55 ?_
  refine gw_goto hC 60 d_Units_sixteenth_56 (by decide) ?_
  refine gw_lv [] rfl ?_
  exact Units_sixteenth_p60 ao aa hC N _ _ _ _ hf
def Units_sixteenth_b43 (N : Nat) (x0 : Int32) (σ : g_S) : Option (Int32 × g_S) := if 70 < x0 then Units_sixteenth_b59 N σ else Units_sixteenth_b49 N x0 σ
theorem Units_sixteenth_p43 (ao aa : Nat → Nat) {X : g_X} (hC : gC X c_Units_sixteenth R_Units 0 0 1 (some .int)) (N : Nat) (x0 : Int32) (σ : g_S) (r : Int32) (σe : g_S) (hf : Units_sixteenth_b43 N x0 σ = some (r, σe)) : gw X (.inl (some (.int r))) (LC ao aa X.2.2.1 σe) (LC ao aa X.2.2.1 σ) [(0, .int x0)] 43 [] := by
  unfold Units_sixteenth_b43 at hf
  refine gw_iload_n hC 0 d_Units_sixteenth_43 rfl rfl ?_
  refine gw_bipush hC 70 d_Units_sixteenth_44 (by decide) ?_
  refine gw_icmp_gt hC 59 d_Units_sixteenth_46 (by decide) (fun hh => ?_) (fun hh => ?_)
  · rw [if_pos hh] at hf
    refine gw_lv [] rfl ?_
    exact Units_sixteenth_p59 ao aa hC N _ _ _ hf
  · rw [if_neg hh] at hf
    exact Units_sixteenth_p49 ao aa hC N _ _ _ _ hf
def Units_sixteenth_b37 (N : Nat) (x0 : Int32) (σ : g_S) : Option (Int32 × g_S) := if x0 < 65 then Units_sixteenth_b59 N σ else Units_sixteenth_b43 N x0 σ
theorem Units_sixteenth_p37 (ao aa : Nat → Nat) {X : g_X} (hC : gC X c_Units_sixteenth R_Units 0 0 1 (some .int)) (N : Nat) (x0 : Int32) (σ : g_S) (r : Int32) (σe : g_S) (hf : Units_sixteenth_b37 N x0 σ = some (r, σe)) : gw X (.inl (some (.int r))) (LC ao aa X.2.2.1 σe) (LC ao aa X.2.2.1 σ) [(0, .int x0)] 37 [] := by
  unfold Units_sixteenth_b37 at hf
  refine gw_iload_n hC 0 d_Units_sixteenth_37 rfl rfl ?_
  refine gw_bipush hC 65 d_Units_sixteenth_38 (by decide) ?_
  refine gw_icmp_lt hC 59 d_Units_sixteenth_40 (by decide) (fun hh => ?_) (fun hh => ?_)
  · rw [if_pos hh] at hf
    refine gw_lv [] rfl ?_
    exact Units_sixteenth_p59 ao aa hC N _ _ _ hf
  · rw [if_neg hh] at hf
    exact Units_sixteenth_p43 ao aa hC N _ _ _ _ hf
def Units_sixteenth_b29 (N : Nat) (x0 : Int32) (σ : g_S) : Option (Int32 × g_S) := some (((x0 - 97) + 10), σ)
theorem Units_sixteenth_p29 (ao aa : Nat → Nat) {X : g_X} (hC : gC X c_Units_sixteenth R_Units 0 0 1 (some .int)) (N : Nat) (x0 : Int32) (σ : g_S) (r : Int32) (σe : g_S) (hf : Units_sixteenth_b29 N x0 σ = some (r, σe)) : gw X (.inl (some (.int r))) (LC ao aa X.2.2.1 σe) (LC ao aa X.2.2.1 σ) [(0, .int x0)] 29 [] := by
  unfold Units_sixteenth_b29 at hf
  refine gw_iload_n hC 0 d_Units_sixteenth_29 rfl rfl ?_
  refine gw_bipush hC 97 d_Units_sixteenth_30 (by decide) ?_
  refine gw_isub hC d_Units_sixteenth_32 ?_
  refine gw_bipush hC 10 d_Units_sixteenth_33 (by decide) ?_
  refine gw_iadd hC d_Units_sixteenth_35 ?_
  cases hf
  exact gw_iret hC d_Units_sixteenth_36
def Units_sixteenth_b23 (N : Nat) (x0 : Int32) (σ : g_S) : Option (Int32 × g_S) := if 102 < x0 then Units_sixteenth_b37 N x0 σ else Units_sixteenth_b29 N x0 σ
theorem Units_sixteenth_p23 (ao aa : Nat → Nat) {X : g_X} (hC : gC X c_Units_sixteenth R_Units 0 0 1 (some .int)) (N : Nat) (x0 : Int32) (σ : g_S) (r : Int32) (σe : g_S) (hf : Units_sixteenth_b23 N x0 σ = some (r, σe)) : gw X (.inl (some (.int r))) (LC ao aa X.2.2.1 σe) (LC ao aa X.2.2.1 σ) [(0, .int x0)] 23 [] := by
  unfold Units_sixteenth_b23 at hf
  refine gw_iload_n hC 0 d_Units_sixteenth_23 rfl rfl ?_
  refine gw_bipush hC 102 d_Units_sixteenth_24 (by decide) ?_
  refine gw_icmp_gt hC 37 d_Units_sixteenth_26 (by decide) (fun hh => ?_) (fun hh => ?_)
  · rw [if_pos hh] at hf
    exact Units_sixteenth_p37 ao aa hC N _ _ _ _ hf
  · rw [if_neg hh] at hf
    exact Units_sixteenth_p29 ao aa hC N _ _ _ _ hf
def Units_sixteenth_b17 (N : Nat) (x0 : Int32) (σ : g_S) : Option (Int32 × g_S) := if x0 < 97 then Units_sixteenth_b37 N x0 σ else Units_sixteenth_b23 N x0 σ
theorem Units_sixteenth_p17 (ao aa : Nat → Nat) {X : g_X} (hC : gC X c_Units_sixteenth R_Units 0 0 1 (some .int)) (N : Nat) (x0 : Int32) (σ : g_S) (r : Int32) (σe : g_S) (hf : Units_sixteenth_b17 N x0 σ = some (r, σe)) : gw X (.inl (some (.int r))) (LC ao aa X.2.2.1 σe) (LC ao aa X.2.2.1 σ) [(0, .int x0)] 17 [] := by
  unfold Units_sixteenth_b17 at hf
  refine gw_iload_n hC 0 d_Units_sixteenth_17 rfl rfl ?_
  refine gw_bipush hC 97 d_Units_sixteenth_18 (by decide) ?_
  refine gw_icmp_lt hC 37 d_Units_sixteenth_20 (by decide) (fun hh => ?_) (fun hh => ?_)
  · rw [if_pos hh] at hf
    exact Units_sixteenth_p37 ao aa hC N _ _ _ _ hf
  · rw [if_neg hh] at hf
    exact Units_sixteenth_p23 ao aa hC N _ _ _ _ hf
def Units_sixteenth_b12 (N : Nat) (x0 : Int32) (σ : g_S) : Option (Int32 × g_S) := some ((x0 - 48), σ)
theorem Units_sixteenth_p12 (ao aa : Nat → Nat) {X : g_X} (hC : gC X c_Units_sixteenth R_Units 0 0 1 (some .int)) (N : Nat) (x0 : Int32) (σ : g_S) (r : Int32) (σe : g_S) (hf : Units_sixteenth_b12 N x0 σ = some (r, σe)) : gw X (.inl (some (.int r))) (LC ao aa X.2.2.1 σe) (LC ao aa X.2.2.1 σ) [(0, .int x0)] 12 [] := by
  unfold Units_sixteenth_b12 at hf
  refine gw_iload_n hC 0 d_Units_sixteenth_12 rfl rfl ?_
  refine gw_bipush hC 48 d_Units_sixteenth_13 (by decide) ?_
  refine gw_isub hC d_Units_sixteenth_15 ?_
  cases hf
  exact gw_iret hC d_Units_sixteenth_16
def Units_sixteenth_b6 (N : Nat) (x0 : Int32) (σ : g_S) : Option (Int32 × g_S) := if 57 < x0 then Units_sixteenth_b17 N x0 σ else Units_sixteenth_b12 N x0 σ
theorem Units_sixteenth_p6 (ao aa : Nat → Nat) {X : g_X} (hC : gC X c_Units_sixteenth R_Units 0 0 1 (some .int)) (N : Nat) (x0 : Int32) (σ : g_S) (r : Int32) (σe : g_S) (hf : Units_sixteenth_b6 N x0 σ = some (r, σe)) : gw X (.inl (some (.int r))) (LC ao aa X.2.2.1 σe) (LC ao aa X.2.2.1 σ) [(0, .int x0)] 6 [] := by
  unfold Units_sixteenth_b6 at hf
  refine gw_iload_n hC 0 d_Units_sixteenth_6 rfl rfl ?_
  refine gw_bipush hC 57 d_Units_sixteenth_7 (by decide) ?_
  refine gw_icmp_gt hC 17 d_Units_sixteenth_9 (by decide) (fun hh => ?_) (fun hh => ?_)
  · rw [if_pos hh] at hf
    exact Units_sixteenth_p17 ao aa hC N _ _ _ _ hf
  · rw [if_neg hh] at hf
    exact Units_sixteenth_p12 ao aa hC N _ _ _ _ hf
def Units_sixteenth_b0 (N : Nat) (x0 : Int32) (σ : g_S) : Option (Int32 × g_S) := if x0 < 48 then Units_sixteenth_b17 N x0 σ else Units_sixteenth_b6 N x0 σ
theorem Units_sixteenth_p0 (ao aa : Nat → Nat) {X : g_X} (hC : gC X c_Units_sixteenth R_Units 0 0 1 (some .int)) (N : Nat) (x0 : Int32) (σ : g_S) (r : Int32) (σe : g_S) (hf : Units_sixteenth_b0 N x0 σ = some (r, σe)) : gw X (.inl (some (.int r))) (LC ao aa X.2.2.1 σe) (LC ao aa X.2.2.1 σ) [(0, .int x0)] 0 [] := by
  unfold Units_sixteenth_b0 at hf
  refine gw_iload_n hC 0 d_Units_sixteenth_0 rfl rfl ?_
  refine gw_bipush hC 48 d_Units_sixteenth_1 (by decide) ?_
  refine gw_icmp_lt hC 17 d_Units_sixteenth_3 (by decide) (fun hh => ?_) (fun hh => ?_)
  · rw [if_pos hh] at hf
    exact Units_sixteenth_p17 ao aa hC N _ _ _ _ hf
  · rw [if_neg hh] at hf
    exact Units_sixteenth_p6 ao aa hC N _ _ _ _ hf
def Units_sixteenth (N : Nat) (x0 : Int32) (σ : g_S) : Option (Int32 × g_S) := Units_sixteenth_b0 N x0 σ
theorem Units_sixteenth_m (l : Launch) (D : va_G) (cA : ClassId) (ao aa : Nat → Nat) (N : Nat) (x0 : Int32) (σ : g_S) (r : Int32) (σe : g_S) (hf : Units_sixteenth N x0 σ = some (r, σe)) : Mt l D cA y_Units_sixteenth c_Units_sixteenth 1 (some .int) 0 0 [.int x0] (LC ao aa cA σ) (some (.int r)) (LC ao aa cA σe) := by
  refine g_met (by decide +kernel) (by simp [lg_sl, Value.category]) (fun X e1 e2 e3 hC => ?_)
  subst e1 e2 e3
  refine gw_lv [0] rfl ?_
  exact Units_sixteenth_p0 ao aa hC N _ _ (r) _ hf
def Units_upper_b63 (N : Nat) (s0 : Int32) (σ : g_S) : Option (Int32 × g_S) := some (s0, σ)
theorem Units_upper_p63 (ao aa : Nat → Nat) {X : g_X} (hC : gC X c_Units_upper R_Units 0 0 1 (some .int)) (N : Nat) (s0 : Int32) (σ : g_S) (r : Int32) (σe : g_S) (hf : Units_upper_b63 N s0 σ = some (r, σe)) : gw X (.inl (some (.int r))) (LC ao aa X.2.2.1 σe) (LC ao aa X.2.2.1 σ) [] 63 [.int s0] := by
  unfold Units_upper_b63 at hf
  cases hf
  exact gw_iret hC d_Units_upper_63
def Units_upper_b62 (N : Nat) (x0 : Int32) (σ : g_S) : Option (Int32 × g_S) := Units_upper_b63 N x0 σ
theorem Units_upper_p62 (ao aa : Nat → Nat) {X : g_X} (hC : gC X c_Units_upper R_Units 0 0 1 (some .int)) (N : Nat) (x0 : Int32) (σ : g_S) (r : Int32) (σe : g_S) (hf : Units_upper_b62 N x0 σ = some (r, σe)) : gw X (.inl (some (.int r))) (LC ao aa X.2.2.1 σe) (LC ao aa X.2.2.1 σ) [(0, .int x0)] 62 [] := by
  unfold Units_upper_b62 at hf
  refine gw_iload_n hC 0 d_Units_upper_62 rfl rfl ?_
  refine gw_lv [] rfl ?_
  exact Units_upper_p63 ao aa hC N _ _ _ _ hf
def Units_upper_b56 (N : Nat) (σ : g_S) : Option (Int32 × g_S) := Units_upper_b63 N 924 σ
theorem Units_upper_p56 (ao aa : Nat → Nat) {X : g_X} (hC : gC X c_Units_upper R_Units 0 0 1 (some .int)) (N : Nat) (σ : g_S) (r : Int32) (σe : g_S) (hf : Units_upper_b56 N σ = some (r, σe)) : gw X (.inl (some (.int r))) (LC ao aa X.2.2.1 σe) (LC ao aa X.2.2.1 σ) [] 56 [] := by
  unfold Units_upper_b56 at hf
  refine gw_sipush hC 924 d_Units_upper_56 (by decide) ?_
  refine gw_goto hC 63 d_Units_upper_59 (by decide) ?_
  exact Units_upper_p63 ao aa hC N _ _ _ _ hf
def Units_upper_b49 (N : Nat) (x0 : Int32) (σ : g_S) : Option (Int32 × g_S) := if x0 = 181 then Units_upper_b56 N σ else Units_upper_b62 N x0 σ
theorem Units_upper_p49 (ao aa : Nat → Nat) {X : g_X} (hC : gC X c_Units_upper R_Units 0 0 1 (some .int)) (N : Nat) (x0 : Int32) (σ : g_S) (r : Int32) (σe : g_S) (hf : Units_upper_b49 N x0 σ = some (r, σe)) : gw X (.inl (some (.int r))) (LC ao aa X.2.2.1 σe) (LC ao aa X.2.2.1 σ) [(0, .int x0)] 49 [] := by
  unfold Units_upper_b49 at hf
  refine gw_iload_n hC 0 d_Units_upper_49 rfl rfl ?_
  refine gw_sipush hC 181 d_Units_upper_50 (by decide) ?_
  refine gw_icmp_ne hC 62 d_Units_upper_53 (by decide) (fun hh => ?_) (fun hh => ?_)
  · rw [if_neg hh] at hf
    exact Units_upper_p62 ao aa hC N _ _ _ _ hf
  · rw [if_pos hh] at hf
    refine gw_lv [] rfl ?_
    exact Units_upper_p56 ao aa hC N _ _ _ hf
def Units_upper_b45 (N : Nat) (σ : g_S) : Option (Int32 × g_S) := some (376, σ)
theorem Units_upper_p45 (ao aa : Nat → Nat) {X : g_X} (hC : gC X c_Units_upper R_Units 0 0 1 (some .int)) (N : Nat) (σ : g_S) (r : Int32) (σe : g_S) (hf : Units_upper_b45 N σ = some (r, σe)) : gw X (.inl (some (.int r))) (LC ao aa X.2.2.1 σe) (LC ao aa X.2.2.1 σ) [] 45 [] := by
  unfold Units_upper_b45 at hf
  refine gw_sipush hC 376 d_Units_upper_45 (by decide) ?_
  cases hf
  exact gw_iret hC d_Units_upper_48
def Units_upper_b38 (N : Nat) (x0 : Int32) (σ : g_S) : Option (Int32 × g_S) := if x0 = 255 then Units_upper_b45 N σ else Units_upper_b49 N x0 σ
theorem Units_upper_p38 (ao aa : Nat → Nat) {X : g_X} (hC : gC X c_Units_upper R_Units 0 0 1 (some .int)) (N : Nat) (x0 : Int32) (σ : g_S) (r : Int32) (σe : g_S) (hf : Units_upper_b38 N x0 σ = some (r, σe)) : gw X (.inl (some (.int r))) (LC ao aa X.2.2.1 σe) (LC ao aa X.2.2.1 σ) [(0, .int x0)] 38 [] := by
  unfold Units_upper_b38 at hf
  refine gw_iload_n hC 0 d_Units_upper_38 rfl rfl ?_
  refine gw_sipush hC 255 d_Units_upper_39 (by decide) ?_
  refine gw_icmp_ne hC 49 d_Units_upper_42 (by decide) (fun hh => ?_) (fun hh => ?_)
  · rw [if_neg hh] at hf
    exact Units_upper_p49 ao aa hC N _ _ _ _ hf
  · rw [if_pos hh] at hf
    refine gw_lv [] rfl ?_
    exact Units_upper_p45 ao aa hC N _ _ _ hf
def Units_upper_b33 (N : Nat) (x0 : Int32) (σ : g_S) : Option (Int32 × g_S) := some ((x0 - 32), σ)
theorem Units_upper_p33 (ao aa : Nat → Nat) {X : g_X} (hC : gC X c_Units_upper R_Units 0 0 1 (some .int)) (N : Nat) (x0 : Int32) (σ : g_S) (r : Int32) (σe : g_S) (hf : Units_upper_b33 N x0 σ = some (r, σe)) : gw X (.inl (some (.int r))) (LC ao aa X.2.2.1 σe) (LC ao aa X.2.2.1 σ) [(0, .int x0)] 33 [] := by
  unfold Units_upper_b33 at hf
  refine gw_iload_n hC 0 d_Units_upper_33 rfl rfl ?_
  refine gw_bipush hC 32 d_Units_upper_34 (by decide) ?_
  refine gw_isub hC d_Units_upper_36 ?_
  cases hf
  exact gw_iret hC d_Units_upper_37
def Units_upper_b26 (N : Nat) (x0 : Int32) (σ : g_S) : Option (Int32 × g_S) := if x0 = 247 then Units_upper_b38 N x0 σ else Units_upper_b33 N x0 σ
theorem Units_upper_p26 (ao aa : Nat → Nat) {X : g_X} (hC : gC X c_Units_upper R_Units 0 0 1 (some .int)) (N : Nat) (x0 : Int32) (σ : g_S) (r : Int32) (σe : g_S) (hf : Units_upper_b26 N x0 σ = some (r, σe)) : gw X (.inl (some (.int r))) (LC ao aa X.2.2.1 σe) (LC ao aa X.2.2.1 σ) [(0, .int x0)] 26 [] := by
  unfold Units_upper_b26 at hf
  refine gw_iload_n hC 0 d_Units_upper_26 rfl rfl ?_
  refine gw_sipush hC 247 d_Units_upper_27 (by decide) ?_
  refine gw_icmp_eq hC 38 d_Units_upper_30 (by decide) (fun hh => ?_) (fun hh => ?_)
  · rw [if_pos hh] at hf
    exact Units_upper_p38 ao aa hC N _ _ _ _ hf
  · rw [if_neg hh] at hf
    exact Units_upper_p33 ao aa hC N _ _ _ _ hf
def Units_upper_b19 (N : Nat) (x0 : Int32) (σ : g_S) : Option (Int32 × g_S) := if 254 < x0 then Units_upper_b38 N x0 σ else Units_upper_b26 N x0 σ
theorem Units_upper_p19 (ao aa : Nat → Nat) {X : g_X} (hC : gC X c_Units_upper R_Units 0 0 1 (some .int)) (N : Nat) (x0 : Int32) (σ : g_S) (r : Int32) (σe : g_S) (hf : Units_upper_b19 N x0 σ = some (r, σe)) : gw X (.inl (some (.int r))) (LC ao aa X.2.2.1 σe) (LC ao aa X.2.2.1 σ) [(0, .int x0)] 19 [] := by
  unfold Units_upper_b19 at hf
  refine gw_iload_n hC 0 d_Units_upper_19 rfl rfl ?_
  refine gw_sipush hC 254 d_Units_upper_20 (by decide) ?_
  refine gw_icmp_gt hC 38 d_Units_upper_23 (by decide) (fun hh => ?_) (fun hh => ?_)
  · rw [if_pos hh] at hf
    exact Units_upper_p38 ao aa hC N _ _ _ _ hf
  · rw [if_neg hh] at hf
    exact Units_upper_p26 ao aa hC N _ _ _ _ hf
def Units_upper_b12 (N : Nat) (x0 : Int32) (σ : g_S) : Option (Int32 × g_S) := if x0 < 224 then Units_upper_b38 N x0 σ else Units_upper_b19 N x0 σ
theorem Units_upper_p12 (ao aa : Nat → Nat) {X : g_X} (hC : gC X c_Units_upper R_Units 0 0 1 (some .int)) (N : Nat) (x0 : Int32) (σ : g_S) (r : Int32) (σe : g_S) (hf : Units_upper_b12 N x0 σ = some (r, σe)) : gw X (.inl (some (.int r))) (LC ao aa X.2.2.1 σe) (LC ao aa X.2.2.1 σ) [(0, .int x0)] 12 [] := by
  unfold Units_upper_b12 at hf
  refine gw_iload_n hC 0 d_Units_upper_12 rfl rfl ?_
  refine gw_sipush hC 224 d_Units_upper_13 (by decide) ?_
  refine gw_icmp_lt hC 38 d_Units_upper_16 (by decide) (fun hh => ?_) (fun hh => ?_)
  · rw [if_pos hh] at hf
    exact Units_upper_p38 ao aa hC N _ _ _ _ hf
  · rw [if_neg hh] at hf
    exact Units_upper_p19 ao aa hC N _ _ _ _ hf
def Units_upper_b6 (N : Nat) (x0 : Int32) (σ : g_S) : Option (Int32 × g_S) := if x0 ≤ 122 then Units_upper_b33 N x0 σ else Units_upper_b12 N x0 σ
theorem Units_upper_p6 (ao aa : Nat → Nat) {X : g_X} (hC : gC X c_Units_upper R_Units 0 0 1 (some .int)) (N : Nat) (x0 : Int32) (σ : g_S) (r : Int32) (σe : g_S) (hf : Units_upper_b6 N x0 σ = some (r, σe)) : gw X (.inl (some (.int r))) (LC ao aa X.2.2.1 σe) (LC ao aa X.2.2.1 σ) [(0, .int x0)] 6 [] := by
  unfold Units_upper_b6 at hf
  refine gw_iload_n hC 0 d_Units_upper_6 rfl rfl ?_
  refine gw_bipush hC 122 d_Units_upper_7 (by decide) ?_
  refine gw_icmp_le hC 33 d_Units_upper_9 (by decide) (fun hh => ?_) (fun hh => ?_)
  · rw [if_pos hh] at hf
    exact Units_upper_p33 ao aa hC N _ _ _ _ hf
  · rw [if_neg hh] at hf
    exact Units_upper_p12 ao aa hC N _ _ _ _ hf
def Units_upper_b0 (N : Nat) (x0 : Int32) (σ : g_S) : Option (Int32 × g_S) := if x0 < 97 then Units_upper_b12 N x0 σ else Units_upper_b6 N x0 σ
theorem Units_upper_p0 (ao aa : Nat → Nat) {X : g_X} (hC : gC X c_Units_upper R_Units 0 0 1 (some .int)) (N : Nat) (x0 : Int32) (σ : g_S) (r : Int32) (σe : g_S) (hf : Units_upper_b0 N x0 σ = some (r, σe)) : gw X (.inl (some (.int r))) (LC ao aa X.2.2.1 σe) (LC ao aa X.2.2.1 σ) [(0, .int x0)] 0 [] := by
  unfold Units_upper_b0 at hf
  refine gw_iload_n hC 0 d_Units_upper_0 rfl rfl ?_
  refine gw_bipush hC 97 d_Units_upper_1 (by decide) ?_
  refine gw_icmp_lt hC 12 d_Units_upper_3 (by decide) (fun hh => ?_) (fun hh => ?_)
  · rw [if_pos hh] at hf
    exact Units_upper_p12 ao aa hC N _ _ _ _ hf
  · rw [if_neg hh] at hf
    exact Units_upper_p6 ao aa hC N _ _ _ _ hf
def Units_upper (N : Nat) (x0 : Int32) (σ : g_S) : Option (Int32 × g_S) := Units_upper_b0 N x0 σ
theorem Units_upper_m (l : Launch) (D : va_G) (cA : ClassId) (ao aa : Nat → Nat) (N : Nat) (x0 : Int32) (σ : g_S) (r : Int32) (σe : g_S) (hf : Units_upper N x0 σ = some (r, σe)) : Mt l D cA y_Units_upper c_Units_upper 1 (some .int) 0 0 [.int x0] (LC ao aa cA σ) (some (.int r)) (LC ao aa cA σe) := by
  refine g_met (by decide +kernel) (by simp [lg_sl, Value.category]) (fun X e1 e2 e3 hC => ?_)
  subst e1 e2 e3
  refine gw_lv [0] rfl ?_
  exact Units_upper_p0 ao aa hC N _ _ (r) _ hf
def Units_twin_b75 (N : Nat) (s0 : Int32) (σ : g_S) : Option (Int32 × g_S) := some (s0, σ)
theorem Units_twin_p75 (ao aa : Nat → Nat) {X : g_X} (hC : gC X c_Units_twin R_Units 1 20 2 (some .int)) (N : Nat) (s0 : Int32) (σ : g_S) (r : Int32) (σe : g_S) (hf : Units_twin_b75 N s0 σ = some (r, σe)) : gw X (.inl (some (.int r))) (LC ao aa X.2.2.1 σe) (LC ao aa X.2.2.1 σ) [] 75 [.int s0] := by
  unfold Units_twin_b75 at hf
  cases hf
  exact gw_iret hC d_Units_twin_75
def Units_twin_b74 (N : Nat) (x0 : Int32) (σ : g_S) : Option (Int32 × g_S) := Units_twin_b75 N x0 σ
theorem Units_twin_p74 (ao aa : Nat → Nat) {X : g_X} (hC : gC X c_Units_twin R_Units 1 20 2 (some .int)) (N : Nat) (x0 : Int32) (σ : g_S) (r : Int32) (σe : g_S) (hf : Units_twin_b74 N x0 σ = some (r, σe)) : gw X (.inl (some (.int r))) (LC ao aa X.2.2.1 σe) (LC ao aa X.2.2.1 σ) [(0, .int x0)] 74 [] := by
  unfold Units_twin_b74 at hf
  refine gw_iload_n hC 0 d_Units_twin_74 rfl rfl ?_
  refine gw_lv [] rfl ?_
  exact Units_twin_p75 ao aa hC N _ _ _ _ hf
def Units_twin_b68 (N : Nat) (σ : g_S) : Option (Int32 × g_S) := Units_twin_b75 N 181 σ
theorem Units_twin_p68 (ao aa : Nat → Nat) {X : g_X} (hC : gC X c_Units_twin R_Units 1 20 2 (some .int)) (N : Nat) (σ : g_S) (r : Int32) (σe : g_S) (hf : Units_twin_b68 N σ = some (r, σe)) : gw X (.inl (some (.int r))) (LC ao aa X.2.2.1 σe) (LC ao aa X.2.2.1 σ) [] 68 [] := by
  unfold Units_twin_b68 at hf
  refine gw_sipush hC 181 d_Units_twin_68 (by decide) ?_
  refine gw_goto hC 75 d_Units_twin_71 (by decide) ?_
  exact Units_twin_p75 ao aa hC N _ _ _ _ hf
def Units_twin_b61 (N : Nat) (x0 : Int32) (σ : g_S) : Option (Int32 × g_S) := if x0 = 924 then Units_twin_b68 N σ else Units_twin_b74 N x0 σ
theorem Units_twin_p61 (ao aa : Nat → Nat) {X : g_X} (hC : gC X c_Units_twin R_Units 1 20 2 (some .int)) (N : Nat) (x0 : Int32) (σ : g_S) (r : Int32) (σe : g_S) (hf : Units_twin_b61 N x0 σ = some (r, σe)) : gw X (.inl (some (.int r))) (LC ao aa X.2.2.1 σe) (LC ao aa X.2.2.1 σ) [(0, .int x0)] 61 [] := by
  unfold Units_twin_b61 at hf
  refine gw_iload_n hC 0 d_Units_twin_61 rfl rfl ?_
  refine gw_sipush hC 924 d_Units_twin_62 (by decide) ?_
  refine gw_icmp_ne hC 74 d_Units_twin_65 (by decide) (fun hh => ?_) (fun hh => ?_)
  · rw [if_neg hh] at hf
    exact Units_twin_p74 ao aa hC N _ _ _ _ hf
  · rw [if_pos hh] at hf
    refine gw_lv [] rfl ?_
    exact Units_twin_p68 ao aa hC N _ _ _ hf
def Units_twin_b57 (N : Nat) (σ : g_S) : Option (Int32 × g_S) := some (255, σ)
theorem Units_twin_p57 (ao aa : Nat → Nat) {X : g_X} (hC : gC X c_Units_twin R_Units 1 20 2 (some .int)) (N : Nat) (σ : g_S) (r : Int32) (σe : g_S) (hf : Units_twin_b57 N σ = some (r, σe)) : gw X (.inl (some (.int r))) (LC ao aa X.2.2.1 σe) (LC ao aa X.2.2.1 σ) [] 57 [] := by
  unfold Units_twin_b57 at hf
  refine gw_sipush hC 255 d_Units_twin_57 (by decide) ?_
  cases hf
  exact gw_iret hC d_Units_twin_60
def Units_twin_b50 (N : Nat) (x0 : Int32) (σ : g_S) : Option (Int32 × g_S) := if x0 = 376 then Units_twin_b57 N σ else Units_twin_b61 N x0 σ
theorem Units_twin_p50 (ao aa : Nat → Nat) {X : g_X} (hC : gC X c_Units_twin R_Units 1 20 2 (some .int)) (N : Nat) (x0 : Int32) (σ : g_S) (r : Int32) (σe : g_S) (hf : Units_twin_b50 N x0 σ = some (r, σe)) : gw X (.inl (some (.int r))) (LC ao aa X.2.2.1 σe) (LC ao aa X.2.2.1 σ) [(0, .int x0)] 50 [] := by
  unfold Units_twin_b50 at hf
  refine gw_iload_n hC 0 d_Units_twin_50 rfl rfl ?_
  refine gw_sipush hC 376 d_Units_twin_51 (by decide) ?_
  refine gw_icmp_ne hC 61 d_Units_twin_54 (by decide) (fun hh => ?_) (fun hh => ?_)
  · rw [if_neg hh] at hf
    exact Units_twin_p61 ao aa hC N _ _ _ _ hf
  · rw [if_pos hh] at hf
    refine gw_lv [] rfl ?_
    exact Units_twin_p57 ao aa hC N _ _ _ hf
def Units_twin_b45 (N : Nat) (x0 : Int32) (σ : g_S) : Option (Int32 × g_S) := some ((x0 + 32), σ)
theorem Units_twin_p45 (ao aa : Nat → Nat) {X : g_X} (hC : gC X c_Units_twin R_Units 1 20 2 (some .int)) (N : Nat) (x0 : Int32) (σ : g_S) (r : Int32) (σe : g_S) (hf : Units_twin_b45 N x0 σ = some (r, σe)) : gw X (.inl (some (.int r))) (LC ao aa X.2.2.1 σe) (LC ao aa X.2.2.1 σ) [(0, .int x0)] 45 [] := by
  unfold Units_twin_b45 at hf
  refine gw_iload_n hC 0 d_Units_twin_45 rfl rfl ?_
  refine gw_bipush hC 32 d_Units_twin_46 (by decide) ?_
  refine gw_iadd hC d_Units_twin_48 ?_
  cases hf
  exact gw_iret hC d_Units_twin_49
def Units_twin_b38 (N : Nat) (x0 : Int32) (σ : g_S) : Option (Int32 × g_S) := if x0 = 215 then Units_twin_b50 N x0 σ else Units_twin_b45 N x0 σ
theorem Units_twin_p38 (ao aa : Nat → Nat) {X : g_X} (hC : gC X c_Units_twin R_Units 1 20 2 (some .int)) (N : Nat) (x0 : Int32) (σ : g_S) (r : Int32) (σe : g_S) (hf : Units_twin_b38 N x0 σ = some (r, σe)) : gw X (.inl (some (.int r))) (LC ao aa X.2.2.1 σe) (LC ao aa X.2.2.1 σ) [(0, .int x0)] 38 [] := by
  unfold Units_twin_b38 at hf
  refine gw_iload_n hC 0 d_Units_twin_38 rfl rfl ?_
  refine gw_sipush hC 215 d_Units_twin_39 (by decide) ?_
  refine gw_icmp_eq hC 50 d_Units_twin_42 (by decide) (fun hh => ?_) (fun hh => ?_)
  · rw [if_pos hh] at hf
    exact Units_twin_p50 ao aa hC N _ _ _ _ hf
  · rw [if_neg hh] at hf
    exact Units_twin_p45 ao aa hC N _ _ _ _ hf
def Units_twin_b31 (N : Nat) (x0 : Int32) (σ : g_S) : Option (Int32 × g_S) := if 222 < x0 then Units_twin_b50 N x0 σ else Units_twin_b38 N x0 σ
theorem Units_twin_p31 (ao aa : Nat → Nat) {X : g_X} (hC : gC X c_Units_twin R_Units 1 20 2 (some .int)) (N : Nat) (x0 : Int32) (σ : g_S) (r : Int32) (σe : g_S) (hf : Units_twin_b31 N x0 σ = some (r, σe)) : gw X (.inl (some (.int r))) (LC ao aa X.2.2.1 σe) (LC ao aa X.2.2.1 σ) [(0, .int x0)] 31 [] := by
  unfold Units_twin_b31 at hf
  refine gw_iload_n hC 0 d_Units_twin_31 rfl rfl ?_
  refine gw_sipush hC 222 d_Units_twin_32 (by decide) ?_
  refine gw_icmp_gt hC 50 d_Units_twin_35 (by decide) (fun hh => ?_) (fun hh => ?_)
  · rw [if_pos hh] at hf
    exact Units_twin_p50 ao aa hC N _ _ _ _ hf
  · rw [if_neg hh] at hf
    exact Units_twin_p38 ao aa hC N _ _ _ _ hf
def Units_twin_b24 (N : Nat) (x0 : Int32) (σ : g_S) : Option (Int32 × g_S) := if x0 < 192 then Units_twin_b50 N x0 σ else Units_twin_b31 N x0 σ
theorem Units_twin_p24 (ao aa : Nat → Nat) {X : g_X} (hC : gC X c_Units_twin R_Units 1 20 2 (some .int)) (N : Nat) (x0 : Int32) (σ : g_S) (r : Int32) (σe : g_S) (hf : Units_twin_b24 N x0 σ = some (r, σe)) : gw X (.inl (some (.int r))) (LC ao aa X.2.2.1 σe) (LC ao aa X.2.2.1 σ) [(0, .int x0)] 24 [] := by
  unfold Units_twin_b24 at hf
  refine gw_iload_n hC 0 d_Units_twin_24 rfl rfl ?_
  refine gw_sipush hC 192 d_Units_twin_25 (by decide) ?_
  refine gw_icmp_lt hC 50 d_Units_twin_28 (by decide) (fun hh => ?_) (fun hh => ?_)
  · rw [if_pos hh] at hf
    exact Units_twin_p50 ao aa hC N _ _ _ _ hf
  · rw [if_neg hh] at hf
    exact Units_twin_p31 ao aa hC N _ _ _ _ hf
def Units_twin_b18 (N : Nat) (x0 : Int32) (σ : g_S) : Option (Int32 × g_S) := if x0 ≤ 90 then Units_twin_b45 N x0 σ else Units_twin_b24 N x0 σ
theorem Units_twin_p18 (ao aa : Nat → Nat) {X : g_X} (hC : gC X c_Units_twin R_Units 1 20 2 (some .int)) (N : Nat) (x0 : Int32) (σ : g_S) (r : Int32) (σe : g_S) (hf : Units_twin_b18 N x0 σ = some (r, σe)) : gw X (.inl (some (.int r))) (LC ao aa X.2.2.1 σe) (LC ao aa X.2.2.1 σ) [(0, .int x0)] 18 [] := by
  unfold Units_twin_b18 at hf
  refine gw_iload_n hC 0 d_Units_twin_18 rfl rfl ?_
  refine gw_bipush hC 90 d_Units_twin_19 (by decide) ?_
  refine gw_icmp_le hC 45 d_Units_twin_21 (by decide) (fun hh => ?_) (fun hh => ?_)
  · rw [if_pos hh] at hf
    exact Units_twin_p45 ao aa hC N _ _ _ _ hf
  · rw [if_neg hh] at hf
    exact Units_twin_p24 ao aa hC N _ _ _ _ hf
def Units_twin_b12 (N : Nat) (x0 : Int32) (σ : g_S) : Option (Int32 × g_S) := if x0 < 65 then Units_twin_b24 N x0 σ else Units_twin_b18 N x0 σ
theorem Units_twin_p12 (ao aa : Nat → Nat) {X : g_X} (hC : gC X c_Units_twin R_Units 1 20 2 (some .int)) (N : Nat) (x0 : Int32) (σ : g_S) (r : Int32) (σe : g_S) (hf : Units_twin_b12 N x0 σ = some (r, σe)) : gw X (.inl (some (.int r))) (LC ao aa X.2.2.1 σe) (LC ao aa X.2.2.1 σ) [(0, .int x0)] 12 [] := by
  unfold Units_twin_b12 at hf
  refine gw_iload_n hC 0 d_Units_twin_12 rfl rfl ?_
  refine gw_bipush hC 65 d_Units_twin_13 (by decide) ?_
  refine gw_icmp_lt hC 24 d_Units_twin_15 (by decide) (fun hh => ?_) (fun hh => ?_)
  · rw [if_pos hh] at hf
    exact Units_twin_p24 ao aa hC N _ _ _ _ hf
  · rw [if_neg hh] at hf
    exact Units_twin_p18 ao aa hC N _ _ _ _ hf
def Units_twin_b10 (N : Nat) (x1 : Int32) (σ : g_S) : Option (Int32 × g_S) := some (x1, σ)
theorem Units_twin_p10 (ao aa : Nat → Nat) {X : g_X} (hC : gC X c_Units_twin R_Units 1 20 2 (some .int)) (N : Nat) (x1 : Int32) (σ : g_S) (r : Int32) (σe : g_S) (hf : Units_twin_b10 N x1 σ = some (r, σe)) : gw X (.inl (some (.int r))) (LC ao aa X.2.2.1 σe) (LC ao aa X.2.2.1 σ) [(1, .int x1)] 10 [] := by
  unfold Units_twin_b10 at hf
  refine gw_iload_n hC 0 d_Units_twin_10 rfl rfl ?_
  cases hf
  exact gw_iret hC d_Units_twin_11
def Units_twin_b0 (N : Nat) (x0 : Int32) (σ : g_S) : Option (Int32 × g_S) := (Units_upper N x0 σ).bind fun q1 => if q1.1 = x0 then Units_twin_b12 N x0 q1.2 else Units_twin_b10 N q1.1 q1.2
theorem Units_twin_p0 (ao aa : Nat → Nat) {X : g_X} (hC : gC X c_Units_twin R_Units 1 20 2 (some .int)) (N : Nat) (x0 : Int32) (σ : g_S) (r : Int32) (σe : g_S) (hf : Units_twin_b0 N x0 σ = some (r, σe)) : gw X (.inl (some (.int r))) (LC ao aa X.2.2.1 σe) (LC ao aa X.2.2.1 σ) [(0, .int x0)] 0 [] := by
  unfold Units_twin_b0 at hf
  refine gw_iload_n hC 0 d_Units_twin_0 rfl rfl ?_
  obtain ⟨q1, hq1, hf⟩ := g_bind hf
  refine gw_callS hC [.int x0] [] (Units_upper_m _ _ _ ao aa N _ _ _ _ hq1) kc_Units_26 ⟨by decide, by decide⟩ (Nat.le_of_ble_eq_true rfl) [.int x0] [.int q1.1] rfl rfl d_Units_twin_1 ?_
  refine gw_istore_n hC [(1, .int q1.1), (0, .int x0)] d_Units_twin_4 rfl (by decide) rfl ?_
  refine gw_iload_n hC 0 d_Units_twin_5 rfl rfl ?_
  refine gw_iload_n hC 1 d_Units_twin_6 rfl rfl ?_
  refine gw_icmp_eq hC 12 d_Units_twin_7 (by decide) (fun hh => ?_) (fun hh => ?_)
  · rw [if_pos hh] at hf
    refine gw_lv [1] rfl ?_
    exact Units_twin_p12 ao aa hC N _ _ _ _ hf
  · rw [if_neg hh] at hf
    refine gw_lv [0] rfl ?_
    exact Units_twin_p10 ao aa hC N _ _ _ _ hf
def Units_twin (N : Nat) (x0 : Int32) (σ : g_S) : Option (Int32 × g_S) := Units_twin_b0 N x0 σ
theorem Units_twin_m (l : Launch) (D : va_G) (cA : ClassId) (ao aa : Nat → Nat) (N : Nat) (x0 : Int32) (σ : g_S) (r : Int32) (σe : g_S) (hf : Units_twin N x0 σ = some (r, σe)) : Mt l D cA y_Units_twin c_Units_twin 2 (some .int) 1 20 [.int x0] (LC ao aa cA σ) (some (.int r)) (LC ao aa cA σe) := by
  refine g_met (by decide +kernel) (by simp [lg_sl, Value.category]) (fun X e1 e2 e3 hC => ?_)
  subst e1 e2 e3
  refine gw_lv [0] rfl ?_
  exact Units_twin_p0 ao aa hC N _ _ (r) _ hf
def Program_clear_b0 (N : Nat) (σ : g_S) : Option (Int32 × g_S) := some (0, (gF (gF (gF (gF (gF σ 4 0) 5 0) 6 0) 7 0) 8 0))
theorem Program_clear_p0 (ao aa : Nat → Nat) {X : g_X} (hC : gC X c_Program_clear R_Program 0 0 1 none) (N : Nat) (σ : g_S) (r : Int32) (σe : g_S) (hf : Program_clear_b0 N σ = some (r, σe)) : gw X (.inl none) (LC ao aa X.2.2.1 σe) (LC ao aa X.2.2.1 σ) [(0, .ref (ao 1))] 0 [] := by
  unfold Program_clear_b0 at hf
  refine gw_aload_n hC 0 d_Program_clear_0 rfl rfl ?_
  refine gw_iconst hC 0 d_Program_clear_1 (by decide) ?_
  refine Cp4 hC kf_Program_48 d_Program_clear_2 ?_
  refine gw_aload_n hC 0 d_Program_clear_5 rfl rfl ?_
  refine gw_iconst hC 0 d_Program_clear_6 (by decide) ?_
  refine Cp5 hC kf_Program_52 d_Program_clear_7 ?_
  refine gw_aload_n hC 0 d_Program_clear_10 rfl rfl ?_
  refine gw_iconst hC 0 d_Program_clear_11 (by decide) ?_
  refine Cp6 hC kf_Program_55 d_Program_clear_12 ?_
  refine gw_aload_n hC 0 d_Program_clear_15 rfl rfl ?_
  refine gw_iconst hC 0 d_Program_clear_16 (by decide) ?_
  refine Cp7 hC kf_Program_58 d_Program_clear_17 ?_
  refine gw_aload_n hC 0 d_Program_clear_20 rfl rfl ?_
  refine gw_iconst hC 0 d_Program_clear_21 (by decide) ?_
  refine Cp8 hC kf_Program_61 d_Program_clear_22 ?_
  cases hf
  exact gw_vret hC d_Program_clear_25
def Program_clear (N : Nat) (σ : g_S) : Option (Int32 × g_S) := Program_clear_b0 N  σ
theorem Program_clear_m (l : Launch) (D : va_G) (cA : ClassId) (ao aa : Nat → Nat) (N : Nat) (σ : g_S) (r : Int32) (σe : g_S) (hf : Program_clear N σ = some (r, σe)) : Mt l D cA y_Program_clear c_Program_clear 1 none 0 0 [.ref (ao 1)] (LC ao aa cA σ) none (LC ao aa cA σe) := by
  refine g_met (by decide +kernel) (by simp [lg_sl, Value.category]) (fun X e1 e2 e3 hC => ?_)
  subst e1 e2 e3
  refine gw_lv [0] rfl ?_
  exact Program_clear_p0 ao aa hC N _ (r) _ hf
def Program_addNode_b61 (N : Nat) (x4 : Int32) (σ : g_S) : Option (Int32 × g_S) := some (x4, σ)
theorem Program_addNode_p61 (ao aa : Nat → Nat) {X : g_X} (hC : gC X c_Program_addNode R_Program 0 0 5 (some .int)) (N : Nat) (x4 : Int32) (σ : g_S) (r : Int32) (σe : g_S) (hf : Program_addNode_b61 N x4 σ = some (r, σe)) : gw X (.inl (some (.int r))) (LC ao aa X.2.2.1 σe) (LC ao aa X.2.2.1 σ) [(0, .ref (ao 1)), (4, .int x4)] 61 [] := by
  unfold Program_addNode_b61 at hf
  refine gw_iload hC 1 d_Program_addNode_61 rfl ?_
  cases hf
  exact gw_iret hC d_Program_addNode_63
def Program_addNode_b19 (N : Nat) (x1 : Int32) (x2 : Int32) (x3 : Int32) (x4 : Int32) (σ : g_S) : Option (Int32 × g_S) := if gIn x4 602 = true then Program_addNode_b61 N x4 (gF (gA (gA (gA (gA σ 1 (x4).toNatClampNeg x1) 2 (x4).toNatClampNeg 0) 3 (x4).toNatClampNeg x2) 4 (x4).toNatClampNeg x3) 4 ((σ.1 4) + 1)) else none
theorem Program_addNode_p19 (ao aa : Nat → Nat) {X : g_X} (hC : gC X c_Program_addNode R_Program 0 0 5 (some .int)) (N : Nat) (x1 : Int32) (x2 : Int32) (x3 : Int32) (x4 : Int32) (σ : g_S) (r : Int32) (σe : g_S) (hf : Program_addNode_b19 N x1 x2 x3 x4 σ = some (r, σe)) : gw X (.inl (some (.int r))) (LC ao aa X.2.2.1 σe) (LC ao aa X.2.2.1 σ) [(0, .ref (ao 1)), (1, .int x1), (2, .int x2), (3, .int x3), (4, .int x4)] 19 [] := by
  unfold Program_addNode_b19 at hf
  refine gw_aload_n hC 0 d_Program_addNode_19 rfl rfl ?_
  refine Cr_Program_kind hC kf_Program_11 d_Program_addNode_20 ?_
  refine gw_iload hC 4 d_Program_addNode_23 rfl ?_
  refine gw_iload_n hC 1 d_Program_addNode_25 rfl rfl ?_
  obtain ⟨hg26, hf⟩ := g_guard hf
  refine Cast (j := 1) hC (by decide) hg26 d_Program_addNode_26 ?_
  refine gw_aload_n hC 0 d_Program_addNode_27 rfl rfl ?_
  refine Cr_Program_next hC kf_Program_15 d_Program_addNode_28 ?_
  refine gw_iload hC 4 d_Program_addNode_31 rfl ?_
  refine gw_iconst hC 0 d_Program_addNode_33 (by decide) ?_
  refine Cast (j := 2) hC (by decide) hg26 d_Program_addNode_34 ?_
  refine gw_aload_n hC 0 d_Program_addNode_35 rfl rfl ?_
  refine Cr_Program_first hC kf_Program_18 d_Program_addNode_36 ?_
  refine gw_iload hC 4 d_Program_addNode_39 rfl ?_
  refine gw_iload_n hC 2 d_Program_addNode_41 rfl rfl ?_
  refine Cast (j := 3) hC (by decide) hg26 d_Program_addNode_42 ?_
  refine gw_aload_n hC 0 d_Program_addNode_43 rfl rfl ?_
  refine Cr_Program_second hC kf_Program_21 d_Program_addNode_44 ?_
  refine gw_iload hC 4 d_Program_addNode_47 rfl ?_
  refine gw_iload_n hC 3 d_Program_addNode_49 rfl rfl ?_
  refine Cast (j := 4) hC (by decide) hg26 d_Program_addNode_50 ?_
  refine gw_aload_n hC 0 d_Program_addNode_51 rfl rfl ?_
  refine gw_dup hC d_Program_addNode_52 rfl ?_
  refine Cg4 hC kf_Program_48 d_Program_addNode_53 (σ.1 4) rfl ?_
  refine gw_iconst hC 1 d_Program_addNode_56 (by decide) ?_
  refine gw_iadd hC d_Program_addNode_57 ?_
  refine Cp4 hC kf_Program_48 d_Program_addNode_58 ?_
  refine gw_lv [0, 4] rfl ?_
  exact Program_addNode_p61 ao aa hC N _ _ _ _ hf
def Program_addNode_b11 (N : Nat) (x1 : Int32) (x2 : Int32) (x3 : Int32) (x4 : Int32) (σ : g_S) : Option (Int32 × g_S) := if 602 ≤ x4 then Program_addNode_b61 N x4 σ else Program_addNode_b19 N x1 x2 x3 x4 σ
theorem Program_addNode_p11 (ao aa : Nat → Nat) {X : g_X} (hC : gC X c_Program_addNode R_Program 0 0 5 (some .int)) (N : Nat) (x1 : Int32) (x2 : Int32) (x3 : Int32) (x4 : Int32) (σ : g_S) (r : Int32) (σe : g_S) (hf : Program_addNode_b11 N x1 x2 x3 x4 σ = some (r, σe)) : gw X (.inl (some (.int r))) (LC ao aa X.2.2.1 σe) (LC ao aa X.2.2.1 σ) [(0, .ref (ao 1)), (1, .int x1), (2, .int x2), (3, .int x3), (4, .int x4)] 11 [] := by
  unfold Program_addNode_b11 at hf
  refine gw_iload hC 4 d_Program_addNode_11 rfl ?_
  refine gw_sipush hC 602 d_Program_addNode_13 (by decide) ?_
  refine gw_icmp_ge hC 61 d_Program_addNode_16 (by decide) (fun hh => ?_) (fun hh => ?_)
  · rw [if_pos hh] at hf
    refine gw_lv [0, 4] rfl ?_
    exact Program_addNode_p61 ao aa hC N _ _ _ _ hf
  · rw [if_neg hh] at hf
    exact Program_addNode_p19 ao aa hC N _ _ _ _ _ _ _ hf
def Program_addNode_b0 (N : Nat) (x1 : Int32) (x2 : Int32) (x3 : Int32) (σ : g_S) : Option (Int32 × g_S) := if (σ.1 4) < 0 then Program_addNode_b61 N (σ.1 4) σ else Program_addNode_b11 N x1 x2 x3 (σ.1 4) σ
theorem Program_addNode_p0 (ao aa : Nat → Nat) {X : g_X} (hC : gC X c_Program_addNode R_Program 0 0 5 (some .int)) (N : Nat) (x1 : Int32) (x2 : Int32) (x3 : Int32) (σ : g_S) (r : Int32) (σe : g_S) (hf : Program_addNode_b0 N x1 x2 x3 σ = some (r, σe)) : gw X (.inl (some (.int r))) (LC ao aa X.2.2.1 σe) (LC ao aa X.2.2.1 σ) [(0, .ref (ao 1)), (1, .int x1), (2, .int x2), (3, .int x3)] 0 [] := by
  unfold Program_addNode_b0 at hf
  refine gw_aload_n hC 0 d_Program_addNode_0 rfl rfl ?_
  refine Cg4 hC kf_Program_48 d_Program_addNode_1 (σ.1 4) rfl ?_
  refine gw_istore hC [(4, .int (σ.1 4)), (0, .ref (ao 1)), (1, .int x1), (2, .int x2), (3, .int x3)] d_Program_addNode_4 (by decide) rfl ?_
  refine gw_iload hC 0 d_Program_addNode_6 rfl ?_
  refine gw_if_lt hC 61 d_Program_addNode_8 (by decide) (fun hh => ?_) (fun hh => ?_)
  · rw [if_pos hh] at hf
    refine gw_lv [1, 0] rfl ?_
    exact Program_addNode_p61 ao aa hC N _ _ _ _ hf
  · rw [if_neg hh] at hf
    refine gw_lv [1, 2, 3, 4, 0] rfl ?_
    exact Program_addNode_p11 ao aa hC N _ _ _ _ _ _ _ hf
def Program_addNode (N : Nat) (x1 : Int32) (x2 : Int32) (x3 : Int32) (σ : g_S) : Option (Int32 × g_S) := Program_addNode_b0 N x1 x2 x3 σ
theorem Program_addNode_m (l : Launch) (D : va_G) (cA : ClassId) (ao aa : Nat → Nat) (N : Nat) (x1 : Int32) (x2 : Int32) (x3 : Int32) (σ : g_S) (r : Int32) (σe : g_S) (hf : Program_addNode N x1 x2 x3 σ = some (r, σe)) : Mt l D cA y_Program_addNode c_Program_addNode 5 (some .int) 0 0 [.ref (ao 1), .int x1, .int x2, .int x3] (LC ao aa cA σ) (some (.int r)) (LC ao aa cA σe) := by
  refine g_met (by decide +kernel) (by simp [lg_sl, Value.category]) (fun X e1 e2 e3 hC => ?_)
  subst e1 e2 e3
  refine gw_lv [0, 1, 2, 3] rfl ?_
  exact Program_addNode_p0 ao aa hC N _ _ _ _ (r) _ hf
def Program_link_b0 (N : Nat) (x1 : Int32) (x2 : Int32) (σ : g_S) : Option (Int32 × g_S) := (Rows_write N 2 x1 x2 σ).bind fun q6 => some (0, q6.2)
theorem Program_link_p0 (ao aa : Nat → Nat) {X : g_X} (hC : gC X c_Program_link R_Program 1 22 3 none) (N : Nat) (x1 : Int32) (x2 : Int32) (σ : g_S) (r : Int32) (σe : g_S) (hf : Program_link_b0 N x1 x2 σ = some (r, σe)) : gw X (.inl none) (LC ao aa X.2.2.1 σe) (LC ao aa X.2.2.1 σ) [(0, .ref (ao 1)), (1, .int x1), (2, .int x2)] 0 [] := by
  unfold Program_link_b0 at hf
  refine gw_aload_n hC 0 d_Program_link_0 rfl rfl ?_
  refine Cr_Program_next hC kf_Program_15 d_Program_link_1 ?_
  refine gw_iload_n hC 1 d_Program_link_4 rfl rfl ?_
  refine gw_iload_n hC 2 d_Program_link_5 rfl rfl ?_
  obtain ⟨q6, hq6, hf⟩ := g_bind hf
  refine gw_callS hC [.ref (aa 2), .int x1, .int x2] [] (Rows_write_m _ _ _ ao aa N _ _ _ _ _ _ hq6) kc_Program_64 ⟨by decide, by decide⟩ (Nat.le_of_ble_eq_true rfl) [.int x2, .int x1, .ref (aa 2)] [] rfl rfl d_Program_link_6 ?_
  cases hf
  exact gw_vret hC d_Program_link_9
def Program_link (N : Nat) (x1 : Int32) (x2 : Int32) (σ : g_S) : Option (Int32 × g_S) := Program_link_b0 N x1 x2 σ
theorem Program_link_m (l : Launch) (D : va_G) (cA : ClassId) (ao aa : Nat → Nat) (N : Nat) (x1 : Int32) (x2 : Int32) (σ : g_S) (r : Int32) (σe : g_S) (hf : Program_link N x1 x2 σ = some (r, σe)) : Mt l D cA y_Program_link c_Program_link 3 none 1 22 [.ref (ao 1), .int x1, .int x2] (LC ao aa cA σ) none (LC ao aa cA σe) := by
  refine g_met (by decide +kernel) (by simp [lg_sl, Value.category]) (fun X e1 e2 e3 hC => ?_)
  subst e1 e2 e3
  refine gw_lv [0, 1, 2] rfl ?_
  exact Program_link_p0 ao aa hC N _ _ _ (r) _ hf
def Program_addMember_b47 (N : Nat) (σ : g_S) : Option (Int32 × g_S) := some (0, σ)
theorem Program_addMember_p47 (ao aa : Nat → Nat) {X : g_X} (hC : gC X c_Program_addMember R_Program 0 0 3 none) (N : Nat) (σ : g_S) (r : Int32) (σe : g_S) (hf : Program_addMember_b47 N σ = some (r, σe)) : gw X (.inl none) (LC ao aa X.2.2.1 σe) (LC ao aa X.2.2.1 σ) [(0, .ref (ao 1))] 47 [] := by
  unfold Program_addMember_b47 at hf
  cases hf
  exact gw_vret hC d_Program_addMember_47
def Program_addMember_b17 (N : Nat) (x1 : Int32) (x2 : Int32) (σ : g_S) : Option (Int32 × g_S) := if gIn (σ.1 5) 200 = true then Program_addMember_b47 N (gF (gA (gA σ 5 ((σ.1 5)).toNatClampNeg x1) 6 ((σ.1 5)).toNatClampNeg x2) 5 ((σ.1 5) + 1)) else none
theorem Program_addMember_p17 (ao aa : Nat → Nat) {X : g_X} (hC : gC X c_Program_addMember R_Program 0 0 3 none) (N : Nat) (x1 : Int32) (x2 : Int32) (σ : g_S) (r : Int32) (σe : g_S) (hf : Program_addMember_b17 N x1 x2 σ = some (r, σe)) : gw X (.inl none) (LC ao aa X.2.2.1 σe) (LC ao aa X.2.2.1 σ) [(0, .ref (ao 1)), (1, .int x1), (2, .int x2)] 17 [] := by
  unfold Program_addMember_b17 at hf
  refine gw_aload_n hC 0 d_Program_addMember_17 rfl rfl ?_
  refine Cr_Program_low hC kf_Program_24 d_Program_addMember_18 ?_
  refine gw_aload_n hC 0 d_Program_addMember_21 rfl rfl ?_
  refine Cg5 hC kf_Program_52 d_Program_addMember_22 (σ.1 5) rfl ?_
  refine gw_iload_n hC 1 d_Program_addMember_25 rfl rfl ?_
  obtain ⟨hg26, hf⟩ := g_guard hf
  refine Cast (j := 5) hC (by decide) hg26 d_Program_addMember_26 ?_
  refine gw_aload_n hC 0 d_Program_addMember_27 rfl rfl ?_
  refine Cr_Program_high hC kf_Program_27 d_Program_addMember_28 ?_
  refine gw_aload_n hC 0 d_Program_addMember_31 rfl rfl ?_
  refine Cg5 hC kf_Program_52 d_Program_addMember_32 (σ.1 5) rfl ?_
  refine gw_iload_n hC 2 d_Program_addMember_35 rfl rfl ?_
  refine Cast (j := 6) hC (by decide) hg26 d_Program_addMember_36 ?_
  refine gw_aload_n hC 0 d_Program_addMember_37 rfl rfl ?_
  refine gw_dup hC d_Program_addMember_38 rfl ?_
  refine Cg5 hC kf_Program_52 d_Program_addMember_39 (σ.1 5) rfl ?_
  refine gw_iconst hC 1 d_Program_addMember_42 (by decide) ?_
  refine gw_iadd hC d_Program_addMember_43 ?_
  refine Cp5 hC kf_Program_52 d_Program_addMember_44 ?_
  refine gw_lv [0] rfl ?_
  exact Program_addMember_p47 ao aa hC N _ _ _ hf
def Program_addMember_b7 (N : Nat) (x1 : Int32) (x2 : Int32) (σ : g_S) : Option (Int32 × g_S) := if 200 ≤ (σ.1 5) then Program_addMember_b47 N σ else Program_addMember_b17 N x1 x2 σ
theorem Program_addMember_p7 (ao aa : Nat → Nat) {X : g_X} (hC : gC X c_Program_addMember R_Program 0 0 3 none) (N : Nat) (x1 : Int32) (x2 : Int32) (σ : g_S) (r : Int32) (σe : g_S) (hf : Program_addMember_b7 N x1 x2 σ = some (r, σe)) : gw X (.inl none) (LC ao aa X.2.2.1 σe) (LC ao aa X.2.2.1 σ) [(0, .ref (ao 1)), (1, .int x1), (2, .int x2)] 7 [] := by
  unfold Program_addMember_b7 at hf
  refine gw_aload_n hC 0 d_Program_addMember_7 rfl rfl ?_
  refine Cg5 hC kf_Program_52 d_Program_addMember_8 (σ.1 5) rfl ?_
  refine gw_sipush hC 200 d_Program_addMember_11 (by decide) ?_
  refine gw_icmp_ge hC 47 d_Program_addMember_14 (by decide) (fun hh => ?_) (fun hh => ?_)
  · rw [if_pos hh] at hf
    refine gw_lv [0] rfl ?_
    exact Program_addMember_p47 ao aa hC N _ _ _ hf
  · rw [if_neg hh] at hf
    exact Program_addMember_p17 ao aa hC N _ _ _ _ _ hf
def Program_addMember_b0 (N : Nat) (x1 : Int32) (x2 : Int32) (σ : g_S) : Option (Int32 × g_S) := if (σ.1 5) < 0 then Program_addMember_b47 N σ else Program_addMember_b7 N x1 x2 σ
theorem Program_addMember_p0 (ao aa : Nat → Nat) {X : g_X} (hC : gC X c_Program_addMember R_Program 0 0 3 none) (N : Nat) (x1 : Int32) (x2 : Int32) (σ : g_S) (r : Int32) (σe : g_S) (hf : Program_addMember_b0 N x1 x2 σ = some (r, σe)) : gw X (.inl none) (LC ao aa X.2.2.1 σe) (LC ao aa X.2.2.1 σ) [(0, .ref (ao 1)), (1, .int x1), (2, .int x2)] 0 [] := by
  unfold Program_addMember_b0 at hf
  refine gw_aload_n hC 0 d_Program_addMember_0 rfl rfl ?_
  refine Cg5 hC kf_Program_52 d_Program_addMember_1 (σ.1 5) rfl ?_
  refine gw_if_lt hC 47 d_Program_addMember_4 (by decide) (fun hh => ?_) (fun hh => ?_)
  · rw [if_pos hh] at hf
    refine gw_lv [0] rfl ?_
    exact Program_addMember_p47 ao aa hC N _ _ _ hf
  · rw [if_neg hh] at hf
    exact Program_addMember_p7 ao aa hC N _ _ _ _ _ hf
def Program_addMember (N : Nat) (x1 : Int32) (x2 : Int32) (σ : g_S) : Option (Int32 × g_S) := Program_addMember_b0 N x1 x2 σ
theorem Program_addMember_m (l : Launch) (D : va_G) (cA : ClassId) (ao aa : Nat → Nat) (N : Nat) (x1 : Int32) (x2 : Int32) (σ : g_S) (r : Int32) (σe : g_S) (hf : Program_addMember N x1 x2 σ = some (r, σe)) : Mt l D cA y_Program_addMember c_Program_addMember 3 none 0 0 [.ref (ao 1), .int x1, .int x2] (LC ao aa cA σ) none (LC ao aa cA σe) := by
  refine g_met (by decide +kernel) (by simp [lg_sl, Value.category]) (fun X e1 e2 e3 hC => ?_)
  subst e1 e2 e3
  refine gw_lv [0, 1, 2] rfl ?_
  exact Program_addMember_p0 ao aa hC N _ _ _ (r) _ hf
def Reader_beginAlternative_b0 (N : Nat) (σ : g_S) : Option (Int32 × g_S) := (Program_addNode N 11 (-1) 0 σ).bind fun q9 => some (0, (gF (gF q9.2 15 q9.1) 16 q9.1))
theorem Reader_beginAlternative_p0 (ao aa : Nat → Nat) {X : g_X} (hC : gC X c_Reader_beginAlternative R_Reader 1 24 1 none) (N : Nat) (σ : g_S) (r : Int32) (σe : g_S) (hf : Reader_beginAlternative_b0 N σ = some (r, σe)) : gw X (.inl none) (LC ao aa X.2.2.1 σe) (LC ao aa X.2.2.1 σ) [(0, .ref (ao 2))] 0 [] := by
  unfold Reader_beginAlternative_b0 at hf
  refine gw_aload_n hC 0 d_Reader_beginAlternative_0 rfl rfl ?_
  refine gw_aload_n hC 0 d_Reader_beginAlternative_1 rfl rfl ?_
  refine Cr_Reader_program hC kf_Reader_24 d_Reader_beginAlternative_2 ?_
  refine gw_bipush hC 11 d_Reader_beginAlternative_5 (by decide) ?_
  refine gw_iconst hC (-1) d_Reader_beginAlternative_7 (by decide) ?_
  refine gw_iconst hC 0 d_Reader_beginAlternative_8 (by decide) ?_
  obtain ⟨q9, hq9, hf⟩ := g_bind hf
  refine gw_callV hC [.int 11, .int (-1), .int 0] [.ref (ao 2)] (Program_addNode_m _ _ _ ao aa N _ _ _ _ _ _ hq9) kc_Reader_52 1 (g_lay_obj rfl) rfl rfl ⟨by decide, by decide⟩ (Nat.le_of_ble_eq_true rfl) [.int 0, .int (-1), .int 11, .ref (ao 1), .ref (ao 2)] [.int q9.1, .ref (ao 2)] rfl rfl d_Reader_beginAlternative_9 ?_
  refine Cp15 hC kf_Reader_102 d_Reader_beginAlternative_12 ?_
  refine gw_aload_n hC 0 d_Reader_beginAlternative_15 rfl rfl ?_
  refine gw_aload_n hC 0 d_Reader_beginAlternative_16 rfl rfl ?_
  refine Cg15 hC kf_Reader_102 d_Reader_beginAlternative_17 q9.1 rfl ?_
  refine Cp16 hC kf_Reader_69 d_Reader_beginAlternative_20 ?_
  cases hf
  exact gw_vret hC d_Reader_beginAlternative_23
def Reader_beginAlternative (N : Nat) (σ : g_S) : Option (Int32 × g_S) := Reader_beginAlternative_b0 N  σ
theorem Reader_beginAlternative_m (l : Launch) (D : va_G) (cA : ClassId) (ao aa : Nat → Nat) (N : Nat) (σ : g_S) (r : Int32) (σe : g_S) (hf : Reader_beginAlternative N σ = some (r, σe)) : Mt l D cA y_Reader_beginAlternative c_Reader_beginAlternative 1 none 1 24 [.ref (ao 2)] (LC ao aa cA σ) none (LC ao aa cA σe) := by
  refine g_met (by decide +kernel) (by simp [lg_sl, Value.category]) (fun X e1 e2 e3 hC => ?_)
  subst e1 e2 e3
  refine gw_lv [0] rfl ?_
  exact Reader_beginAlternative_p0 ao aa hC N _ (r) _ hf
