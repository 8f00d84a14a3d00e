theorem kf_Mod_244 : Cond.fieldLink R_Mod 244 "PatternDeskModel" "pile" "I" ∈ g_TB := g_mem (List.mem_append_right _ (List.mem_append_right _ (List.mem_append_right _ (List.mem_append_left _ (List.mem_of_getElem? (i := 238) (by decide +kernel)))))) rfl
theorem kf_Mod_97 : Cond.fieldLink R_Mod 97 "PatternDeskModel" "pileGroup" "[I" ∈ g_TB := g_mem (List.mem_append_right _ (List.mem_append_right _ (List.mem_append_right _ (List.mem_append_right _ (List.mem_append_left _ (List.mem_of_getElem? (i := 2) (by decide +kernel))))))) rfl
theorem kf_Mod_65 : Cond.fieldLink R_Mod 65 "PatternDeskModel" "group" "[I" ∈ g_TB := g_mem (List.mem_append_right _ (List.mem_append_right _ (List.mem_append_right _ (List.mem_append_left _ (List.mem_of_getElem? (i := 227) (by decide +kernel)))))) rfl
theorem kf_Mod_87 : Cond.fieldLink R_Mod 87 "PatternDeskModel" "pileRow" "[I" ∈ g_TB := g_mem (List.mem_append_right _ (List.mem_append_right _ (List.mem_append_right _ (List.mem_append_left _ (List.mem_of_getElem? (i := 239) (by decide +kernel)))))) rfl
theorem kf_Mod_90 : Cond.fieldLink R_Mod 90 "PatternDeskModel" "pileAt" "[I" ∈ g_TB := g_mem (List.mem_append_right _ (List.mem_append_right _ (List.mem_append_right _ (List.mem_append_right _ (List.mem_append_left _ (List.mem_of_getElem? (i := 0) (by decide +kernel))))))) rfl
theorem kf_Mod_93 : Cond.fieldLink R_Mod 93 "PatternDeskModel" "pileLook" "[I" ∈ g_TB := g_mem (List.mem_append_right _ (List.mem_append_right _ (List.mem_append_right _ (List.mem_append_right _ (List.mem_append_left _ (List.mem_of_getElem? (i := 1) (by decide +kernel))))))) rfl
theorem kf_Mod_247 : Cond.fieldLink R_Mod 247 "PatternDeskModel" "steps" "I" ∈ g_TB := g_mem (List.mem_append_right _ (List.mem_append_right _ (List.mem_append_right _ (List.mem_append_left _ (List.mem_of_getElem? (i := 229) (by decide +kernel)))))) rfl
theorem kf_Mod_250 : Cond.fieldLink R_Mod 250 "PatternDeskModel" "fuel" "I" ∈ g_TB := g_mem (List.mem_append_right _ (List.mem_append_right _ (List.mem_append_right _ (List.mem_append_left _ (List.mem_of_getElem? (i := 230) (by decide +kernel)))))) rfl
theorem kc_Mod_253 : g_okS R_Mod 253 y_Mod_inSet c_Mod_inSet 2 (some .boolean) 2 := ⟨g_mem (List.mem_append_right _ (List.mem_append_right _ (List.mem_append_right _ (List.mem_append_right _ (List.mem_append_right _ (List.mem_of_getElem? (i := 32) rfl)))))) rfl, g_mem (List.mem_append_right _ (List.mem_append_left _ (List.mem_of_getElem? (i := 5) (by decide +kernel)))) rfl, g_mem (List.mem_append_right _ (List.mem_append_right _ (List.mem_append_right _ (List.mem_append_right _ (List.mem_append_right _ (List.mem_of_getElem? (i := 30) (by decide +kernel))))))) rfl, g_mem (List.mem_append_right _ (List.mem_append_right _ (List.mem_append_right _ (List.mem_append_right _ (List.mem_append_right _ (List.mem_of_getElem? (i := 31) (by decide +kernel))))))) rfl, by decide +kernel, by decide +kernel, by decide +kernel⟩
theorem kc_Mod_257 : g_okV R_Mod 257 y_Mod_isMember c_Mod_isMember 4 (some .boolean) 2 := ⟨g_mem (List.mem_append_right _ (List.mem_append_right _ (List.mem_append_right _ (List.mem_append_right _ (List.mem_append_right _ (List.mem_of_getElem? (i := 44) rfl)))))) rfl, g_mem (List.mem_append_right _ (List.mem_append_left _ (List.mem_of_getElem? (i := 5) (by decide +kernel)))) rfl, g_mem (List.mem_append_right _ (List.mem_append_right _ (List.mem_append_right _ (List.mem_append_right _ (List.mem_append_right _ (List.mem_of_getElem? (i := 41) (by decide +kernel))))))) rfl, g_mem (List.mem_append_right _ (List.mem_append_right _ (List.mem_append_right _ (List.mem_append_right _ (List.mem_append_right _ (List.mem_of_getElem? (i := 43) (by decide +kernel))))))) rfl, g_mem (List.mem_append_left _ (List.mem_of_getElem? (i := 76) (by decide +kernel))) rfl, by decide +kernel, by decide +kernel, by decide +kernel⟩
theorem kc_Mod_260 : g_okS R_Mod 260 y_Mod_upper c_Mod_upper 1 (some .int) 1 := ⟨g_mem (List.mem_append_right _ (List.mem_append_right _ (List.mem_append_right _ (List.mem_append_right _ (List.mem_append_right _ (List.mem_of_getElem? (i := 29) rfl)))))) rfl, g_mem (List.mem_append_right _ (List.mem_append_left _ (List.mem_of_getElem? (i := 5) (by decide +kernel)))) rfl, g_mem (List.mem_append_right _ (List.mem_append_right _ (List.mem_append_right _ (List.mem_append_right _ (List.mem_append_right _ (List.mem_of_getElem? (i := 27) (by decide +kernel))))))) rfl, g_mem (List.mem_append_right _ (List.mem_append_right _ (List.mem_append_right _ (List.mem_append_right _ (List.mem_append_right _ (List.mem_of_getElem? (i := 28) (by decide +kernel))))))) rfl, by decide +kernel, by decide +kernel, by decide +kernel⟩
theorem kc_Mod_269 : g_okV R_Mod 269 y_Mod_isSame c_Mod_isSame 3 (some .boolean) 2 := ⟨g_mem (List.mem_append_right _ (List.mem_append_right _ (List.mem_append_right _ (List.mem_append_right _ (List.mem_append_right _ (List.mem_of_getElem? (i := 26) rfl)))))) rfl, g_mem (List.mem_append_right _ (List.mem_append_left _ (List.mem_of_getElem? (i := 5) (by decide +kernel)))) rfl, g_mem (List.mem_append_right _ (List.mem_append_right _ (List.mem_append_right _ (List.mem_append_right _ (List.mem_append_right _ (List.mem_of_getElem? (i := 23) (by decide +kernel))))))) rfl, g_mem (List.mem_append_right _ (List.mem_append_right _ (List.mem_append_right _ (List.mem_append_right _ (List.mem_append_right _ (List.mem_of_getElem? (i := 25) (by decide +kernel))))))) rfl, g_mem (List.mem_append_left _ (List.mem_of_getElem? (i := 74) (by decide +kernel))) rfl, by decide +kernel, by decide +kernel, by decide +kernel⟩
theorem d_Mod_push_0 : decode c_Mod_push 0 = .ok (.aload_n 0, 1) := by decide +kernel
theorem d_Mod_push_1 : decode c_Mod_push 1 = .ok (.getfield 87, 3) := by decide +kernel
theorem d_Mod_push_4 : decode c_Mod_push 4 = .ok (.aload_n 0, 1) := by decide +kernel
theorem d_Mod_push_5 : decode c_Mod_push 5 = .ok (.getfield 244, 3) := by decide +kernel
theorem d_Mod_push_8 : decode c_Mod_push 8 = .ok (.iload_n 1, 1) := by decide +kernel
theorem d_Mod_push_9 : decode c_Mod_push 9 = .ok (.iastore, 1) := by decide +kernel
theorem d_Mod_push_10 : decode c_Mod_push 10 = .ok (.aload_n 0, 1) := by decide +kernel
theorem d_Mod_push_11 : decode c_Mod_push 11 = .ok (.getfield 90, 3) := by decide +kernel
theorem d_Mod_push_14 : decode c_Mod_push 14 = .ok (.aload_n 0, 1) := by decide +kernel
theorem d_Mod_push_15 : decode c_Mod_push 15 = .ok (.getfield 244, 3) := by decide +kernel
theorem d_Mod_push_18 : decode c_Mod_push 18 = .ok (.iload_n 2, 1) := by decide +kernel
theorem d_Mod_push_19 : decode c_Mod_push 19 = .ok (.iastore, 1) := by decide +kernel
theorem d_Mod_push_20 : decode c_Mod_push 20 = .ok (.aload_n 0, 1) := by decide +kernel
theorem d_Mod_push_21 : decode c_Mod_push 21 = .ok (.getfield 93, 3) := by decide +kernel
theorem d_Mod_push_24 : decode c_Mod_push 24 = .ok (.aload_n 0, 1) := by decide +kernel
theorem d_Mod_push_25 : decode c_Mod_push 25 = .ok (.getfield 244, 3) := by decide +kernel
theorem d_Mod_push_28 : decode c_Mod_push 28 = .ok (.iload_n 3, 1) := by decide +kernel
theorem d_Mod_push_29 : decode c_Mod_push 29 = .ok (.iastore, 1) := by decide +kernel
theorem d_Mod_push_30 : decode c_Mod_push 30 = .ok (.iconst 0, 1) := by decide +kernel
theorem d_Mod_push_31 : decode c_Mod_push 31 = .ok (.istore 4, 2) := by decide +kernel
theorem d_Mod_push_33 : decode c_Mod_push 33 = .ok (.iload 4, 2) := by decide +kernel
theorem d_Mod_push_35 : decode c_Mod_push 35 = .ok (.bipush 42, 2) := by decide +kernel
theorem d_Mod_push_37 : decode c_Mod_push 37 = .ok (.if_icmp .ge 31, 3) := by decide +kernel
theorem d_Mod_push_40 : decode c_Mod_push 40 = .ok (.aload_n 0, 1) := by decide +kernel
theorem d_Mod_push_41 : decode c_Mod_push 41 = .ok (.getfield 97, 3) := by decide +kernel
theorem d_Mod_push_44 : decode c_Mod_push 44 = .ok (.bipush 42, 2) := by decide +kernel
theorem d_Mod_push_46 : decode c_Mod_push 46 = .ok (.aload_n 0, 1) := by decide +kernel
theorem d_Mod_push_47 : decode c_Mod_push 47 = .ok (.getfield 244, 3) := by decide +kernel
theorem d_Mod_push_50 : decode c_Mod_push 50 = .ok (.imul, 1) := by decide +kernel
theorem d_Mod_push_51 : decode c_Mod_push 51 = .ok (.iload 4, 2) := by decide +kernel
theorem d_Mod_push_53 : decode c_Mod_push 53 = .ok (.iadd, 1) := by decide +kernel
theorem d_Mod_push_54 : decode c_Mod_push 54 = .ok (.aload_n 0, 1) := by decide +kernel
theorem d_Mod_push_55 : decode c_Mod_push 55 = .ok (.getfield 65, 3) := by decide +kernel
theorem d_Mod_push_58 : decode c_Mod_push 58 = .ok (.iload 4, 2) := by decide +kernel
theorem d_Mod_push_60 : decode c_Mod_push 60 = .ok (.iaload, 1) := by decide +kernel
theorem d_Mod_push_61 : decode c_Mod_push 61 = .ok (.iastore, 1) := by decide +kernel
theorem d_Mod_push_62 : decode c_Mod_push 62 = .ok (.iinc 4 1, 3) := by decide +kernel
theorem d_Mod_push_65 : decode c_Mod_push 65 = .ok (.goto (-32), 3) := by decide +kernel
theorem d_Mod_push_68 : decode c_Mod_push 68 = .ok (.aload_n 0, 1) := by decide +kernel
theorem d_Mod_push_69 : decode c_Mod_push 69 = .ok (.dup, 1) := by decide +kernel
theorem d_Mod_push_70 : decode c_Mod_push 70 = .ok (.getfield 244, 3) := by decide +kernel
theorem d_Mod_push_73 : decode c_Mod_push 73 = .ok (.iconst 1, 1) := by decide +kernel
theorem d_Mod_push_74 : decode c_Mod_push 74 = .ok (.iadd, 1) := by decide +kernel
theorem d_Mod_push_75 : decode c_Mod_push 75 = .ok (.putfield 244, 3) := by decide +kernel
theorem d_Mod_push_78 : decode c_Mod_push 78 = .ok (.return_, 1) := by decide +kernel
theorem d_Mod_pop_0 : decode c_Mod_pop 0 = .ok (.iconst (-1), 1) := by decide +kernel
theorem d_Mod_pop_1 : decode c_Mod_pop 1 = .ok (.istore_n 1, 1) := by decide +kernel
theorem d_Mod_pop_2 : decode c_Mod_pop 2 = .ok (.iload_n 1, 1) := by decide +kernel
theorem d_Mod_pop_3 : decode c_Mod_pop 3 = .ok (.ifCond .ge 96, 3) := by decide +kernel
theorem d_Mod_pop_6 : decode c_Mod_pop 6 = .ok (.aload_n 0, 1) := by decide +kernel
theorem d_Mod_pop_7 : decode c_Mod_pop 7 = .ok (.getfield 244, 3) := by decide +kernel
theorem d_Mod_pop_10 : decode c_Mod_pop 10 = .ok (.ifCond .le 89, 3) := by decide +kernel
theorem d_Mod_pop_13 : decode c_Mod_pop 13 = .ok (.aload_n 0, 1) := by decide +kernel
theorem d_Mod_pop_14 : decode c_Mod_pop 14 = .ok (.dup, 1) := by decide +kernel
theorem d_Mod_pop_15 : decode c_Mod_pop 15 = .ok (.getfield 244, 3) := by decide +kernel
theorem d_Mod_pop_18 : decode c_Mod_pop 18 = .ok (.iconst 1, 1) := by decide +kernel
theorem d_Mod_pop_19 : decode c_Mod_pop 19 = .ok (.isub, 1) := by decide +kernel
theorem d_Mod_pop_20 : decode c_Mod_pop 20 = .ok (.putfield 244, 3) := by decide +kernel
theorem d_Mod_pop_23 : decode c_Mod_pop 23 = .ok (.aload_n 0, 1) := by decide +kernel
theorem d_Mod_pop_24 : decode c_Mod_pop 24 = .ok (.getfield 93, 3) := by decide +kernel
theorem d_Mod_pop_27 : decode c_Mod_pop 27 = .ok (.aload_n 0, 1) := by decide +kernel
theorem d_Mod_pop_28 : decode c_Mod_pop 28 = .ok (.getfield 244, 3) := by decide +kernel
theorem d_Mod_pop_31 : decode c_Mod_pop 31 = .ok (.iaload, 1) := by decide +kernel
theorem d_Mod_pop_32 : decode c_Mod_pop 32 = .ok (.iconst 1, 1) := by decide +kernel
theorem d_Mod_pop_33 : decode c_Mod_pop 33 = .ok (.if_icmp .ne 6, 3) := by decide +kernel
theorem d_Mod_pop_36 : decode c_Mod_pop 36 = .ok (.goto (-34), 3) := by decide +kernel
theorem d_Mod_pop_39 : decode c_Mod_pop 39 = .ok (.aload_n 0, 1) := by decide +kernel
theorem d_Mod_pop_40 : decode c_Mod_pop 40 = .ok (.getfield 87, 3) := by decide +kernel
theorem d_Mod_pop_43 : decode c_Mod_pop 43 = .ok (.aload_n 0, 1) := by decide +kernel
theorem d_Mod_pop_44 : decode c_Mod_pop 44 = .ok (.getfield 244, 3) := by decide +kernel
theorem d_Mod_pop_47 : decode c_Mod_pop 47 = .ok (.iaload, 1) := by decide +kernel
theorem d_Mod_pop_48 : decode c_Mod_pop 48 = .ok (.istore_n 1, 1) := by decide +kernel
theorem d_Mod_pop_49 : decode c_Mod_pop 49 = .ok (.aload_n 0, 1) := by decide +kernel
theorem d_Mod_pop_50 : decode c_Mod_pop 50 = .ok (.aload_n 0, 1) := by decide +kernel
theorem d_Mod_pop_51 : decode c_Mod_pop 51 = .ok (.getfield 90, 3) := by decide +kernel
theorem d_Mod_pop_54 : decode c_Mod_pop 54 = .ok (.aload_n 0, 1) := by decide +kernel
theorem d_Mod_pop_55 : decode c_Mod_pop 55 = .ok (.getfield 244, 3) := by decide +kernel
theorem d_Mod_pop_58 : decode c_Mod_pop 58 = .ok (.iaload, 1) := by decide +kernel
theorem d_Mod_pop_59 : decode c_Mod_pop 59 = .ok (.putfield 129, 3) := by decide +kernel
theorem d_Mod_pop_62 : decode c_Mod_pop 62 = .ok (.iconst 0, 1) := by decide +kernel
theorem d_Mod_pop_63 : decode c_Mod_pop 63 = .ok (.istore_n 2, 1) := by decide +kernel
theorem d_Mod_pop_64 : decode c_Mod_pop 64 = .ok (.iload_n 2, 1) := by decide +kernel
theorem d_Mod_pop_65 : decode c_Mod_pop 65 = .ok (.bipush 42, 2) := by decide +kernel
theorem d_Mod_pop_67 : decode c_Mod_pop 67 = .ok (.if_icmp .ge 29, 3) := by decide +kernel
theorem d_Mod_pop_70 : decode c_Mod_pop 70 = .ok (.aload_n 0, 1) := by decide +kernel
theorem d_Mod_pop_71 : decode c_Mod_pop 71 = .ok (.getfield 65, 3) := by decide +kernel
theorem d_Mod_pop_74 : decode c_Mod_pop 74 = .ok (.iload_n 2, 1) := by decide +kernel
theorem d_Mod_pop_75 : decode c_Mod_pop 75 = .ok (.aload_n 0, 1) := by decide +kernel
theorem d_Mod_pop_76 : decode c_Mod_pop 76 = .ok (.getfield 97, 3) := by decide +kernel
theorem d_Mod_pop_79 : decode c_Mod_pop 79 = .ok (.bipush 42, 2) := by decide +kernel
theorem d_Mod_pop_81 : decode c_Mod_pop 81 = .ok (.aload_n 0, 1) := by decide +kernel
theorem d_Mod_pop_82 : decode c_Mod_pop 82 = .ok (.getfield 244, 3) := by decide +kernel
theorem d_Mod_pop_85 : decode c_Mod_pop 85 = .ok (.imul, 1) := by decide +kernel
theorem d_Mod_pop_86 : decode c_Mod_pop 86 = .ok (.iload_n 2, 1) := by decide +kernel
theorem d_Mod_pop_87 : decode c_Mod_pop 87 = .ok (.iadd, 1) := by decide +kernel
theorem d_Mod_pop_88 : decode c_Mod_pop 88 = .ok (.iaload, 1) := by decide +kernel
theorem d_Mod_pop_89 : decode c_Mod_pop 89 = .ok (.iastore, 1) := by decide +kernel
theorem d_Mod_pop_90 : decode c_Mod_pop 90 = .ok (.iinc 2 1, 3) := by decide +kernel
theorem d_Mod_pop_93 : decode c_Mod_pop 93 = .ok (.goto (-29), 3) := by decide +kernel
theorem d_Mod_pop_96 : decode c_Mod_pop 96 = .ok (.goto (-94), 3) := by decide +kernel
theorem d_Mod_pop_99 : decode c_Mod_pop 99 = .ok (.iload_n 1, 1) := by decide +kernel
theorem d_Mod_pop_100 : decode c_Mod_pop 100 = .ok (.ireturn, 1) := by decide +kernel
theorem d_Mod_spends_0 : decode c_Mod_spends 0 = .ok (.aload_n 0, 1) := by decide +kernel
theorem d_Mod_spends_1 : decode c_Mod_spends 1 = .ok (.getfield 247, 3) := by decide +kernel
theorem d_Mod_spends_4 : decode c_Mod_spends 4 = .ok (.aload_n 0, 1) := by decide +kernel
theorem d_Mod_spends_5 : decode c_Mod_spends 5 = .ok (.getfield 250, 3) := by decide +kernel
theorem d_Mod_spends_8 : decode c_Mod_spends 8 = .ok (.if_icmp .ne 5, 3) := by decide +kernel
theorem d_Mod_spends_11 : decode c_Mod_spends 11 = .ok (.iconst 0, 1) := by decide +kernel
theorem d_Mod_spends_12 : decode c_Mod_spends 12 = .ok (.ireturn, 1) := by decide +kernel
theorem d_Mod_spends_13 : decode c_Mod_spends 13 = .ok (.aload_n 0, 1) := by decide +kernel
theorem d_Mod_spends_14 : decode c_Mod_spends 14 = .ok (.dup, 1) := by decide +kernel
theorem d_Mod_spends_15 : decode c_Mod_spends 15 = .ok (.getfield 247, 3) := by decide +kernel
theorem d_Mod_spends_18 : decode c_Mod_spends 18 = .ok (.iconst 1, 1) := by decide +kernel
theorem d_Mod_spends_19 : decode c_Mod_spends 19 = .ok (.iadd, 1) := by decide +kernel
theorem d_Mod_spends_20 : decode c_Mod_spends 20 = .ok (.putfield 247, 3) := by decide +kernel
theorem d_Mod_spends_23 : decode c_Mod_spends 23 = .ok (.iconst 1, 1) := by decide +kernel
theorem d_Mod_spends_24 : decode c_Mod_spends 24 = .ok (.ireturn, 1) := by decide +kernel
theorem d_Mod_isMember_0 : decode c_Mod_isMember 0 = .ok (.aload_n 0, 1) := by decide +kernel
theorem d_Mod_isMember_1 : decode c_Mod_isMember 1 = .ok (.getfield 26, 3) := by decide +kernel
theorem d_Mod_isMember_4 : decode c_Mod_isMember 4 = .ok (.iload_n 1, 1) := by decide +kernel
theorem d_Mod_isMember_5 : decode c_Mod_isMember 5 = .ok (.iaload, 1) := by decide +kernel
theorem d_Mod_isMember_6 : decode c_Mod_isMember 6 = .ok (.istore_n 3, 1) := by decide +kernel
theorem d_Mod_isMember_7 : decode c_Mod_isMember 7 = .ok (.iload_n 3, 1) := by decide +kernel
theorem d_Mod_isMember_8 : decode c_Mod_isMember 8 = .ok (.aload_n 0, 1) := by decide +kernel
theorem d_Mod_isMember_9 : decode c_Mod_isMember 9 = .ok (.getfield 29, 3) := by decide +kernel
theorem d_Mod_isMember_12 : decode c_Mod_isMember 12 = .ok (.iload_n 1, 1) := by decide +kernel
theorem d_Mod_isMember_13 : decode c_Mod_isMember 13 = .ok (.iaload, 1) := by decide +kernel
theorem d_Mod_isMember_14 : decode c_Mod_isMember 14 = .ok (.if_icmp .ge 55, 3) := by decide +kernel
theorem d_Mod_isMember_17 : decode c_Mod_isMember 17 = .ok (.aload_n 0, 1) := by decide +kernel
theorem d_Mod_isMember_18 : decode c_Mod_isMember 18 = .ok (.getfield 53, 3) := by decide +kernel
theorem d_Mod_isMember_21 : decode c_Mod_isMember 21 = .ok (.iload_n 3, 1) := by decide +kernel
theorem d_Mod_isMember_22 : decode c_Mod_isMember 22 = .ok (.iaload, 1) := by decide +kernel
theorem d_Mod_isMember_23 : decode c_Mod_isMember 23 = .ok (.ifCond .ge 19, 3) := by decide +kernel
theorem d_Mod_isMember_26 : decode c_Mod_isMember 26 = .ok (.aload_n 0, 1) := by decide +kernel
theorem d_Mod_isMember_27 : decode c_Mod_isMember 27 = .ok (.getfield 50, 3) := by decide +kernel
theorem d_Mod_isMember_30 : decode c_Mod_isMember 30 = .ok (.iload_n 3, 1) := by decide +kernel
theorem d_Mod_isMember_31 : decode c_Mod_isMember 31 = .ok (.iaload, 1) := by decide +kernel
theorem d_Mod_isMember_32 : decode c_Mod_isMember 32 = .ok (.iload_n 2, 1) := by decide +kernel
theorem d_Mod_isMember_33 : decode c_Mod_isMember 33 = .ok (.invokestatic 253, 3) := by decide +kernel
theorem d_Mod_isMember_36 : decode c_Mod_isMember 36 = .ok (.ifCond .eq 27, 3) := by decide +kernel
theorem d_Mod_isMember_39 : decode c_Mod_isMember 39 = .ok (.goto 22, 3) := by decide +kernel
theorem d_Mod_isMember_42 : decode c_Mod_isMember 42 = .ok (.iload_n 2, 1) := by decide +kernel
theorem d_Mod_isMember_43 : decode c_Mod_isMember 43 = .ok (.aload_n 0, 1) := by decide +kernel
theorem d_Mod_isMember_44 : decode c_Mod_isMember 44 = .ok (.getfield 50, 3) := by decide +kernel
theorem d_Mod_isMember_47 : decode c_Mod_isMember 47 = .ok (.iload_n 3, 1) := by decide +kernel
theorem d_Mod_isMember_48 : decode c_Mod_isMember 48 = .ok (.iaload, 1) := by decide +kernel
theorem d_Mod_isMember_49 : decode c_Mod_isMember 49 = .ok (.aload_n 0, 1) := by decide +kernel
theorem d_Mod_isMember_50 : decode c_Mod_isMember 50 = .ok (.getfield 53, 3) := by decide +kernel
theorem d_Mod_isMember_53 : decode c_Mod_isMember 53 = .ok (.iload_n 3, 1) := by decide +kernel
theorem d_Mod_isMember_54 : decode c_Mod_isMember 54 = .ok (.iaload, 1) := by decide +kernel
theorem d_Mod_isMember_55 : decode c_Mod_isMember 55 = .ok (.invokestatic 103, 3) := by decide +kernel
theorem d_Mod_isMember_58 : decode c_Mod_isMember 58 = .ok (.ifCond .eq 5, 3) := by decide +kernel
theorem d_Mod_isMember_61 : decode c_Mod_isMember 61 = .ok (.iconst 1, 1) := by decide +kernel
theorem d_Mod_isMember_62 : decode c_Mod_isMember 62 = .ok (.ireturn, 1) := by decide +kernel
theorem d_Mod_isMember_63 : decode c_Mod_isMember 63 = .ok (.iinc 3 1, 3) := by decide +kernel
theorem d_Mod_isMember_66 : decode c_Mod_isMember 66 = .ok (.goto (-59), 3) := by decide +kernel
theorem d_Mod_isMember_69 : decode c_Mod_isMember 69 = .ok (.iconst 0, 1) := by decide +kernel
theorem d_Mod_isMember_70 : decode c_Mod_isMember 70 = .ok (.ireturn, 1) := by decide +kernel
theorem d_Mod_hasMember_0 : decode c_Mod_hasMember 0 = .ok (.aload_n 0, 1) := by decide +kernel
theorem d_Mod_hasMember_1 : decode c_Mod_hasMember 1 = .ok (.getfield 229, 3) := by decide +kernel
theorem d_Mod_hasMember_4 : decode c_Mod_hasMember 4 = .ok (.ifCond .ne 10, 3) := by decide +kernel
theorem d_Mod_hasMember_7 : decode c_Mod_hasMember 7 = .ok (.aload_n 0, 1) := by decide +kernel
theorem d_Mod_hasMember_8 : decode c_Mod_hasMember 8 = .ok (.iload_n 1, 1) := by decide +kernel
theorem d_Mod_hasMember_9 : decode c_Mod_hasMember 9 = .ok (.iload_n 2, 1) := by decide +kernel
theorem d_Mod_hasMember_10 : decode c_Mod_hasMember 10 = .ok (.invokevirtual 257, 3) := by decide +kernel
theorem d_Mod_hasMember_13 : decode c_Mod_hasMember 13 = .ok (.ireturn, 1) := by decide +kernel
theorem d_Mod_hasMember_14 : decode c_Mod_hasMember 14 = .ok (.iload_n 2, 1) := by decide +kernel
theorem d_Mod_hasMember_15 : decode c_Mod_hasMember 15 = .ok (.invokestatic 260, 3) := by decide +kernel
theorem d_Mod_hasMember_18 : decode c_Mod_hasMember 18 = .ok (.istore_n 3, 1) := by decide +kernel
theorem d_Mod_hasMember_19 : decode c_Mod_hasMember 19 = .ok (.aload_n 0, 1) := by decide +kernel
theorem d_Mod_hasMember_20 : decode c_Mod_hasMember 20 = .ok (.iload_n 1, 1) := by decide +kernel
theorem d_Mod_hasMember_21 : decode c_Mod_hasMember 21 = .ok (.iload_n 2, 1) := by decide +kernel
theorem d_Mod_hasMember_22 : decode c_Mod_hasMember 22 = .ok (.invokevirtual 257, 3) := by decide +kernel
theorem d_Mod_hasMember_25 : decode c_Mod_hasMember 25 = .ok (.ifCond .ne 12, 3) := by decide +kernel
theorem d_Mod_hasMember_28 : decode c_Mod_hasMember 28 = .ok (.aload_n 0, 1) := by decide +kernel
theorem d_Mod_hasMember_29 : decode c_Mod_hasMember 29 = .ok (.iload_n 1, 1) := by decide +kernel
theorem d_Mod_hasMember_30 : decode c_Mod_hasMember 30 = .ok (.iload_n 3, 1) := by decide +kernel
theorem d_Mod_hasMember_31 : decode c_Mod_hasMember 31 = .ok (.invokevirtual 257, 3) := by decide +kernel
theorem d_Mod_hasMember_34 : decode c_Mod_hasMember 34 = .ok (.ifCond .eq 7, 3) := by decide +kernel
theorem d_Mod_hasMember_37 : decode c_Mod_hasMember 37 = .ok (.iconst 1, 1) := by decide +kernel
theorem d_Mod_hasMember_38 : decode c_Mod_hasMember 38 = .ok (.goto 4, 3) := by decide +kernel
theorem d_Mod_hasMember_41 : decode c_Mod_hasMember 41 = .ok (.iconst 0, 1) := by decide +kernel
theorem d_Mod_hasMember_42 : decode c_Mod_hasMember 42 = .ok (.istore 4, 2) := by decide +kernel
theorem d_Mod_hasMember_44 : decode c_Mod_hasMember 44 = .ok (.iload_n 3, 1) := by decide +kernel
theorem d_Mod_hasMember_45 : decode c_Mod_hasMember 45 = .ok (.bipush 32, 2) := by decide +kernel
theorem d_Mod_hasMember_47 : decode c_Mod_hasMember 47 = .ok (.iadd, 1) := by decide +kernel
theorem d_Mod_hasMember_48 : decode c_Mod_hasMember 48 = .ok (.invokestatic 260, 3) := by decide +kernel
theorem d_Mod_hasMember_51 : decode c_Mod_hasMember 51 = .ok (.iload_n 3, 1) := by decide +kernel
theorem d_Mod_hasMember_52 : decode c_Mod_hasMember 52 = .ok (.if_icmp .ne 27, 3) := by decide +kernel
theorem d_Mod_hasMember_55 : decode c_Mod_hasMember 55 = .ok (.iload 4, 2) := by decide +kernel
theorem d_Mod_hasMember_57 : decode c_Mod_hasMember 57 = .ok (.ifCond .ne 15, 3) := by decide +kernel
theorem d_Mod_hasMember_60 : decode c_Mod_hasMember 60 = .ok (.aload_n 0, 1) := by decide +kernel
theorem d_Mod_hasMember_61 : decode c_Mod_hasMember 61 = .ok (.iload_n 1, 1) := by decide +kernel
theorem d_Mod_hasMember_62 : decode c_Mod_hasMember 62 = .ok (.iload_n 3, 1) := by decide +kernel
theorem d_Mod_hasMember_63 : decode c_Mod_hasMember 63 = .ok (.bipush 32, 2) := by decide +kernel
theorem d_Mod_hasMember_65 : decode c_Mod_hasMember 65 = .ok (.iadd, 1) := by decide +kernel
theorem d_Mod_hasMember_66 : decode c_Mod_hasMember 66 = .ok (.invokevirtual 257, 3) := by decide +kernel
theorem d_Mod_hasMember_69 : decode c_Mod_hasMember 69 = .ok (.ifCond .eq 7, 3) := by decide +kernel
theorem d_Mod_hasMember_72 : decode c_Mod_hasMember 72 = .ok (.iconst 1, 1) := by decide +kernel
theorem d_Mod_hasMember_73 : decode c_Mod_hasMember 73 = .ok (.goto 4, 3) := by decide +kernel
theorem d_Mod_hasMember_76 : decode c_Mod_hasMember 76 = .ok (.iconst 0, 1) := by decide +kernel
theorem d_Mod_hasMember_77 : decode c_Mod_hasMember 77 = .ok (.istore 4, 2) := by decide +kernel
theorem d_Mod_hasMember_79 : decode c_Mod_hasMember 79 = .ok (.iload 4, 2) := by decide +kernel
theorem d_Mod_hasMember_81 : decode c_Mod_hasMember 81 = .ok (.ifCond .ne 39, 3) := by decide +kernel
theorem d_Mod_hasMember_84 : decode c_Mod_hasMember 84 = .ok (.iload_n 3, 1) := by decide +kernel
theorem d_Mod_hasMember_85 : decode c_Mod_hasMember 85 = .ok (.sipush 376, 3) := by decide +kernel
theorem d_Mod_hasMember_88 : decode c_Mod_hasMember 88 = .ok (.if_icmp .ne 14, 3) := by decide +kernel
theorem d_Mod_hasMember_91 : decode c_Mod_hasMember 91 = .ok (.aload_n 0, 1) := by decide +kernel
theorem d_Mod_hasMember_92 : decode c_Mod_hasMember 92 = .ok (.iload_n 1, 1) := by decide +kernel
theorem d_Mod_hasMember_93 : decode c_Mod_hasMember 93 = .ok (.sipush 255, 3) := by decide +kernel
theorem d_Mod_hasMember_96 : decode c_Mod_hasMember 96 = .ok (.invokevirtual 257, 3) := by decide +kernel
theorem d_Mod_hasMember_99 : decode c_Mod_hasMember 99 = .ok (.ifCond .ne 21, 3) := by decide +kernel
theorem d_Mod_hasMember_102 : decode c_Mod_hasMember 102 = .ok (.iload_n 3, 1) := by decide +kernel
theorem d_Mod_hasMember_103 : decode c_Mod_hasMember 103 = .ok (.sipush 924, 3) := by decide +kernel
theorem d_Mod_hasMember_106 : decode c_Mod_hasMember 106 = .ok (.if_icmp .ne 18, 3) := by decide +kernel
theorem d_Mod_hasMember_109 : decode c_Mod_hasMember 109 = .ok (.aload_n 0, 1) := by decide +kernel
theorem d_Mod_hasMember_110 : decode c_Mod_hasMember 110 = .ok (.iload_n 1, 1) := by decide +kernel
theorem d_Mod_hasMember_111 : decode c_Mod_hasMember 111 = .ok (.sipush 181, 3) := by decide +kernel
theorem d_Mod_hasMember_114 : decode c_Mod_hasMember 114 = .ok (.invokevirtual 257, 3) := by decide +kernel
theorem d_Mod_hasMember_117 : decode c_Mod_hasMember 117 = .ok (.ifCond .eq 7, 3) := by decide +kernel
theorem d_Mod_hasMember_120 : decode c_Mod_hasMember 120 = .ok (.iconst 1, 1) := by decide +kernel
theorem d_Mod_hasMember_121 : decode c_Mod_hasMember 121 = .ok (.goto 4, 3) := by decide +kernel
theorem d_Mod_hasMember_124 : decode c_Mod_hasMember 124 = .ok (.iconst 0, 1) := by decide +kernel
theorem d_Mod_hasMember_125 : decode c_Mod_hasMember 125 = .ok (.ireturn, 1) := by decide +kernel
theorem d_Mod_isSame_0 : decode c_Mod_isSame 0 = .ok (.iload_n 1, 1) := by decide +kernel
theorem d_Mod_isSame_1 : decode c_Mod_isSame 1 = .ok (.iload_n 2, 1) := by decide +kernel
theorem d_Mod_isSame_2 : decode c_Mod_isSame 2 = .ok (.if_icmp .eq 21, 3) := by decide +kernel
theorem d_Mod_isSame_5 : decode c_Mod_isSame 5 = .ok (.aload_n 0, 1) := by decide +kernel
theorem d_Mod_isSame_6 : decode c_Mod_isSame 6 = .ok (.getfield 229, 3) := by decide +kernel
theorem d_Mod_isSame_9 : decode c_Mod_isSame 9 = .ok (.ifCond .eq 18, 3) := by decide +kernel
theorem d_Mod_isSame_12 : decode c_Mod_isSame 12 = .ok (.iload_n 1, 1) := by decide +kernel
theorem d_Mod_isSame_13 : decode c_Mod_isSame 13 = .ok (.invokestatic 260, 3) := by decide +kernel
theorem d_Mod_isSame_16 : decode c_Mod_isSame 16 = .ok (.iload_n 2, 1) := by decide +kernel
theorem d_Mod_isSame_17 : decode c_Mod_isSame 17 = .ok (.invokestatic 260, 3) := by decide +kernel
theorem d_Mod_isSame_20 : decode c_Mod_isSame 20 = .ok (.if_icmp .ne 7, 3) := by decide +kernel
theorem d_Mod_isSame_23 : decode c_Mod_isSame 23 = .ok (.iconst 1, 1) := by decide +kernel
theorem d_Mod_isSame_24 : decode c_Mod_isSame 24 = .ok (.goto 4, 3) := by decide +kernel
theorem d_Mod_isSame_27 : decode c_Mod_isSame 27 = .ok (.iconst 0, 1) := by decide +kernel
theorem d_Mod_isSame_28 : decode c_Mod_isSame 28 = .ok (.ireturn, 1) := by decide +kernel
theorem d_Mod_isWordAt_0 : decode c_Mod_isWordAt 0 = .ok (.iload_n 1, 1) := by decide +kernel
theorem d_Mod_isWordAt_1 : decode c_Mod_isWordAt 1 = .ok (.iconst 0, 1) := by decide +kernel
theorem d_Mod_isWordAt_2 : decode c_Mod_isWordAt 2 = .ok (.aload_n 0, 1) := by decide +kernel
theorem d_Mod_isWordAt_3 : decode c_Mod_isWordAt 3 = .ok (.getfield 238, 3) := by decide +kernel
theorem d_Mod_isWordAt_6 : decode c_Mod_isWordAt 6 = .ok (.iconst 1, 1) := by decide +kernel
theorem d_Mod_isWordAt_7 : decode c_Mod_isWordAt 7 = .ok (.isub, 1) := by decide +kernel
theorem d_Mod_isWordAt_8 : decode c_Mod_isWordAt 8 = .ok (.invokestatic 103, 3) := by decide +kernel
theorem d_Mod_isWordAt_11 : decode c_Mod_isWordAt 11 = .ok (.ifCond .eq 19, 3) := by decide +kernel
theorem d_Mod_isWordAt_14 : decode c_Mod_isWordAt 14 = .ok (.aload_n 0, 1) := by decide +kernel
theorem d_Mod_isWordAt_15 : decode c_Mod_isWordAt 15 = .ok (.getfield 20, 3) := by decide +kernel
theorem d_Mod_isWordAt_18 : decode c_Mod_isWordAt 18 = .ok (.iload_n 1, 1) := by decide +kernel
theorem d_Mod_isWordAt_19 : decode c_Mod_isWordAt 19 = .ok (.iaload, 1) := by decide +kernel
theorem d_Mod_isWordAt_20 : decode c_Mod_isWordAt 20 = .ok (.invokestatic 119, 3) := by decide +kernel
theorem d_Mod_isWordAt_23 : decode c_Mod_isWordAt 23 = .ok (.ifCond .eq 7, 3) := by decide +kernel
theorem d_Mod_isWordAt_26 : decode c_Mod_isWordAt 26 = .ok (.iconst 1, 1) := by decide +kernel
theorem d_Mod_isWordAt_27 : decode c_Mod_isWordAt 27 = .ok (.goto 4, 3) := by decide +kernel
theorem d_Mod_isWordAt_30 : decode c_Mod_isWordAt 30 = .ok (.iconst 0, 1) := by decide +kernel
theorem d_Mod_isWordAt_31 : decode c_Mod_isWordAt 31 = .ok (.ireturn, 1) := by decide +kernel
theorem d_Mod_refers_0 : decode c_Mod_refers 0 = .ok (.aload_n 0, 1) := by decide +kernel
theorem d_Mod_refers_1 : decode c_Mod_refers 1 = .ok (.getfield 65, 3) := by decide +kernel
theorem d_Mod_refers_4 : decode c_Mod_refers 4 = .ok (.iconst 2, 1) := by decide +kernel
theorem d_Mod_refers_5 : decode c_Mod_refers 5 = .ok (.iload_n 1, 1) := by decide +kernel
theorem d_Mod_refers_6 : decode c_Mod_refers 6 = .ok (.imul, 1) := by decide +kernel
theorem d_Mod_refers_7 : decode c_Mod_refers 7 = .ok (.iaload, 1) := by decide +kernel
theorem d_Mod_refers_8 : decode c_Mod_refers 8 = .ok (.istore_n 2, 1) := by decide +kernel
theorem d_Mod_refers_9 : decode c_Mod_refers 9 = .ok (.iload_n 2, 1) := by decide +kernel
theorem d_Mod_refers_10 : decode c_Mod_refers 10 = .ok (.ifCond .ge 7, 3) := by decide +kernel
theorem d_Mod_refers_13 : decode c_Mod_refers 13 = .ok (.iconst 0, 1) := by decide +kernel
theorem d_Mod_refers_14 : decode c_Mod_refers 14 = .ok (.goto 15, 3) := by decide +kernel
theorem d_Mod_refers_17 : decode c_Mod_refers 17 = .ok (.aload_n 0, 1) := by decide +kernel
theorem d_Mod_refers_18 : decode c_Mod_refers 18 = .ok (.getfield 65, 3) := by decide +kernel
theorem d_Mod_refers_21 : decode c_Mod_refers 21 = .ok (.iconst 2, 1) := by decide +kernel
theorem d_Mod_refers_22 : decode c_Mod_refers 22 = .ok (.iload_n 1, 1) := by decide +kernel
theorem d_Mod_refers_23 : decode c_Mod_refers 23 = .ok (.imul, 1) := by decide +kernel
theorem d_Mod_refers_24 : decode c_Mod_refers 24 = .ok (.iconst 1, 1) := by decide +kernel
theorem d_Mod_refers_25 : decode c_Mod_refers 25 = .ok (.iadd, 1) := by decide +kernel
theorem d_Mod_refers_26 : decode c_Mod_refers 26 = .ok (.iaload, 1) := by decide +kernel
theorem d_Mod_refers_27 : decode c_Mod_refers 27 = .ok (.iload_n 2, 1) := by decide +kernel
theorem d_Mod_refers_28 : decode c_Mod_refers 28 = .ok (.isub, 1) := by decide +kernel
theorem d_Mod_refers_29 : decode c_Mod_refers 29 = .ok (.istore_n 3, 1) := by decide +kernel
theorem d_Mod_refers_30 : decode c_Mod_refers 30 = .ok (.aload_n 0, 1) := by decide +kernel
theorem d_Mod_refers_31 : decode c_Mod_refers 31 = .ok (.getfield 129, 3) := by decide +kernel
theorem d_Mod_refers_34 : decode c_Mod_refers 34 = .ok (.iload_n 3, 1) := by decide +kernel
theorem d_Mod_refers_35 : decode c_Mod_refers 35 = .ok (.iadd, 1) := by decide +kernel
theorem d_Mod_refers_36 : decode c_Mod_refers 36 = .ok (.aload_n 0, 1) := by decide +kernel
theorem d_Mod_refers_37 : decode c_Mod_refers 37 = .ok (.getfield 238, 3) := by decide +kernel
theorem d_Mod_refers_40 : decode c_Mod_refers 40 = .ok (.if_icmp .le 5, 3) := by decide +kernel
theorem d_Mod_refers_43 : decode c_Mod_refers 43 = .ok (.iconst 0, 1) := by decide +kernel
theorem d_Mod_refers_44 : decode c_Mod_refers 44 = .ok (.ireturn, 1) := by decide +kernel
theorem d_Mod_refers_45 : decode c_Mod_refers 45 = .ok (.iconst 0, 1) := by decide +kernel
theorem d_Mod_refers_46 : decode c_Mod_refers 46 = .ok (.istore 4, 2) := by decide +kernel
theorem d_Mod_refers_48 : decode c_Mod_refers 48 = .ok (.iload 4, 2) := by decide +kernel
theorem d_Mod_refers_50 : decode c_Mod_refers 50 = .ok (.iload_n 3, 1) := by decide +kernel
theorem d_Mod_refers_51 : decode c_Mod_refers 51 = .ok (.if_icmp .ge 39, 3) := by decide +kernel
theorem d_Mod_refers_54 : decode c_Mod_refers 54 = .ok (.aload_n 0, 1) := by decide +kernel
theorem d_Mod_refers_55 : decode c_Mod_refers 55 = .ok (.aload_n 0, 1) := by decide +kernel
theorem d_Mod_refers_56 : decode c_Mod_refers 56 = .ok (.getfield 20, 3) := by decide +kernel
theorem d_Mod_refers_59 : decode c_Mod_refers 59 = .ok (.iload_n 2, 1) := by decide +kernel
theorem d_Mod_refers_60 : decode c_Mod_refers 60 = .ok (.iload 4, 2) := by decide +kernel
theorem d_Mod_refers_62 : decode c_Mod_refers 62 = .ok (.iadd, 1) := by decide +kernel
theorem d_Mod_refers_63 : decode c_Mod_refers 63 = .ok (.iaload, 1) := by decide +kernel
theorem d_Mod_refers_64 : decode c_Mod_refers 64 = .ok (.aload_n 0, 1) := by decide +kernel
theorem d_Mod_refers_65 : decode c_Mod_refers 65 = .ok (.getfield 20, 3) := by decide +kernel
theorem d_Mod_refers_68 : decode c_Mod_refers 68 = .ok (.aload_n 0, 1) := by decide +kernel
theorem d_Mod_refers_69 : decode c_Mod_refers 69 = .ok (.getfield 129, 3) := by decide +kernel
theorem d_Mod_refers_72 : decode c_Mod_refers 72 = .ok (.iload 4, 2) := by decide +kernel
theorem d_Mod_refers_74 : decode c_Mod_refers 74 = .ok (.iadd, 1) := by decide +kernel
theorem d_Mod_refers_75 : decode c_Mod_refers 75 = .ok (.iaload, 1) := by decide +kernel
theorem d_Mod_refers_76 : decode c_Mod_refers 76 = .ok (.invokevirtual 269, 3) := by decide +kernel
theorem d_Mod_refers_79 : decode c_Mod_refers 79 = .ok (.ifCond .ne 5, 3) := by decide +kernel
theorem d_Mod_refers_82 : decode c_Mod_refers 82 = .ok (.iconst 0, 1) := by decide +kernel
theorem d_Mod_refers_83 : decode c_Mod_refers 83 = .ok (.ireturn, 1) := by decide +kernel
theorem d_Mod_refers_84 : decode c_Mod_refers 84 = .ok (.iinc 4 1, 3) := by decide +kernel
theorem d_Mod_refers_87 : decode c_Mod_refers 87 = .ok (.goto (-39), 3) := by decide +kernel
theorem d_Mod_refers_90 : decode c_Mod_refers 90 = .ok (.aload_n 0, 1) := by decide +kernel
theorem d_Mod_refers_91 : decode c_Mod_refers 91 = .ok (.aload_n 0, 1) := by decide +kernel
theorem d_Mod_refers_92 : decode c_Mod_refers 92 = .ok (.getfield 129, 3) := by decide +kernel
theorem d_Mod_refers_95 : decode c_Mod_refers 95 = .ok (.iload_n 3, 1) := by decide +kernel
theorem d_Mod_refers_96 : decode c_Mod_refers 96 = .ok (.iadd, 1) := by decide +kernel
theorem d_Mod_refers_97 : decode c_Mod_refers 97 = .ok (.putfield 129, 3) := by decide +kernel
theorem d_Mod_refers_100 : decode c_Mod_refers 100 = .ok (.iconst 1, 1) := by decide +kernel
theorem d_Mod_refers_101 : decode c_Mod_refers 101 = .ok (.ireturn, 1) := by decide +kernel
def Mod_push_b68 (N : Nat) (σ : g_S) : Option (Int32 × g_S) := some (0, (gF σ 19 ((σ.1 19) + 1)))
theorem Mod_push_p68 (ao aa : Nat → Nat) {X : g_X} (hC : gC X c_Mod_push R_Mod 0 0 5 none) (N : Nat) (σ : g_S) (r : Int32) (σe : g_S) (hf : Mod_push_b68 N σ = some (r, σe)) : gw X (.inl none) (LM ao aa X.2.2.1 σe) (LM ao aa X.2.2.1 σ) [(0, .ref (ao 0))] 68 [] := by
  unfold Mod_push_b68 at hf
  refine gw_aload_n hC 0 d_Mod_push_68 rfl rfl ?_
  refine gw_dup hC d_Mod_push_69 rfl ?_
  refine Mg19 hC kf_Mod_244 d_Mod_push_70 (σ.1 19) rfl ?_
  refine gw_iconst hC 1 d_Mod_push_73 (by decide) ?_
  refine gw_iadd hC d_Mod_push_74 ?_
  refine Mp19 hC kf_Mod_244 d_Mod_push_75 ?_
  cases hf
  exact gw_vret hC d_Mod_push_78
def Mod_push_b40 (N : Nat) (k33 : Int32 → g_S → Option (Int32 × g_S)) (x4 : Int32) (σ : g_S) : Option (Int32 × g_S) := if gIn x4 42 = true then if gIn ((42 * (σ.1 19)) + x4) 672000 = true then k33 (x4 + 1) (gA σ 27 (((42 * (σ.1 19)) + x4)).toNatClampNeg (σ.2 17 (x4).toNatClampNeg)) else none else none
theorem Mod_push_p40 (ao aa : Nat → Nat) {X : g_X} (hC : gC X c_Mod_push R_Mod 0 0 5 none) (N : Nat) (k33 : Int32 → g_S → Option (Int32 × g_S)) (hk33 : ∀ (x4 : Int32) (σ : g_S) (r : Int32) (σe : g_S), k33 x4 σ = some (r, σe) → gw X (.inl none) (LM ao aa X.2.2.1 σe) (LM ao aa X.2.2.1 σ) [(0, .ref (ao 0)), (4, .int x4)] 33 []) (x4 : Int32) (σ : g_S) (r : Int32) (σe : g_S) (hf : Mod_push_b40 N k33 x4 σ = some (r, σe)) : gw X (.inl none) (LM ao aa X.2.2.1 σe) (LM ao aa X.2.2.1 σ) [(0, .ref (ao 0)), (4, .int x4)] 40 [] := by
  unfold Mod_push_b40 at hf
  refine gw_aload_n hC 0 d_Mod_push_40 rfl rfl ?_
  refine Mr_Mod_pileGroup hC kf_Mod_97 d_Mod_push_41 ?_
  refine gw_bipush hC 42 d_Mod_push_44 (by decide) ?_
  refine gw_aload_n hC 0 d_Mod_push_46 rfl rfl ?_
  refine Mg19 hC kf_Mod_244 d_Mod_push_47 (σ.1 19) rfl ?_
  refine gw_imul hC d_Mod_push_50 ?_
  refine gw_iload hC 1 d_Mod_push_51 rfl ?_
  refine gw_iadd hC d_Mod_push_53 ?_
  refine gw_aload_n hC 0 d_Mod_push_54 rfl rfl ?_
  refine Mr_Mod_group hC kf_Mod_65 d_Mod_push_55 ?_
  refine gw_iload hC 1 d_Mod_push_58 rfl ?_
  obtain ⟨hg60, hf⟩ := g_guard hf
  refine Mald (j := 17) hC (by decide) hg60 d_Mod_push_60 (σ.2 17 (x4).toNatClampNeg) rfl ?_
  obtain ⟨hg61, hf⟩ := g_guard hf
  refine Mast (j := 27) hC (by decide) hg61 d_Mod_push_61 ?_
  refine gw_iinc hC (x4 + 1) 1 [(4, .int (x4 + 1)), (0, .ref (ao 0))] d_Mod_push_62 rfl rfl (by decide) rfl ?_
  refine gw_goto hC 33 d_Mod_push_65 (by decide) ?_
  refine gw_lv [1, 0] rfl ?_
  exact hk33 _ _ _ _ hf
def Mod_push_b33 (N : Nat) (k33 : Int32 → g_S → Option (Int32 × g_S)) (x4 : Int32) (σ : g_S) : Option (Int32 × g_S) := if 42 ≤ x4 then Mod_push_b68 N σ else Mod_push_b40 N k33 x4 σ
theorem Mod_push_p33 (ao aa : Nat → Nat) {X : g_X} (hC : gC X c_Mod_push R_Mod 0 0 5 none) (N : Nat) (k33 : Int32 → g_S → Option (Int32 × g_S)) (hk33 : ∀ (x4 : Int32) (σ : g_S) (r : Int32) (σe : g_S), k33 x4 σ = some (r, σe) → gw X (.inl none) (LM ao aa X.2.2.1 σe) (LM ao aa X.2.2.1 σ) [(0, .ref (ao 0)), (4, .int x4)] 33 []) (x4 : Int32) (σ : g_S) (r : Int32) (σe : g_S) (hf : Mod_push_b33 N k33 x4 σ = some (r, σe)) : gw X (.inl none) (LM ao aa X.2.2.1 σe) (LM ao aa X.2.2.1 σ) [(0, .ref (ao 0)), (4, .int x4)] 33 [] := by
  unfold Mod_push_b33 at hf
  refine gw_iload hC 1 d_Mod_push_33 rfl ?_
  refine gw_bipush hC 42 d_Mod_push_35 (by decide) ?_
  refine gw_icmp_ge hC 68 d_Mod_push_37 (by decide) (fun hh => ?_) (fun hh => ?_)
  · rw [if_pos hh] at hf
    refine gw_lv [0] rfl ?_
    exact Mod_push_p68 ao aa hC N _ _ _ hf
  · rw [if_neg hh] at hf
    exact Mod_push_p40 ao aa hC N _ hk33 _ _ _ _ hf
def Mod_push_l33 (N : Nat) : Nat → Int32 → g_S → Option (Int32 × g_S)
  | 0 => fun _ _ => none
  | n + 1 => fun x4 σ => Mod_push_b33 N (Mod_push_l33 N n) x4 σ
theorem Mod_push_q33 (ao aa : Nat → Nat) {X : g_X} (hC : gC X c_Mod_push R_Mod 0 0 5 none) (N : Nat) (n : Nat) : ∀ (x4 : Int32) (σ : g_S) (r : Int32) (σe : g_S), Mod_push_l33 N n x4 σ = some (r, σe) → gw X (.inl none) (LM ao aa X.2.2.1 σe) (LM ao aa X.2.2.1 σ) [(0, .ref (ao 0)), (4, .int x4)] 33 [] := by
  induction n with
  | zero => intro x4 σ r σe hf; cases hf
  | succ n ih => intro x4 σ r σe hf; exact Mod_push_p33 ao aa hC N _ (fun x4 σ r2 σ2 h2 => ih x4 σ r2 σ2 h2) x4 σ r σe hf
def Mod_push_b0 (N : Nat) (x1 : Int32) (x2 : Int32) (x3 : Int32) (σ : g_S) : Option (Int32 × g_S) := if gIn (σ.1 19) 16000 = true then Mod_push_l33 N N 0 (gA (gA (gA σ 24 ((σ.1 19)).toNatClampNeg x1) 25 ((σ.1 19)).toNatClampNeg x2) 26 ((σ.1 19)).toNatClampNeg x3) else none
theorem Mod_push_p0 (ao aa : Nat → Nat) {X : g_X} (hC : gC X c_Mod_push R_Mod 0 0 5 none) (N : Nat) (x1 : Int32) (x2 : Int32) (x3 : Int32) (σ : g_S) (r : Int32) (σe : g_S) (hf : Mod_push_b0 N x1 x2 x3 σ = some (r, σe)) : gw X (.inl none) (LM ao aa X.2.2.1 σe) (LM ao aa X.2.2.1 σ) [(0, .ref (ao 0)), (1, .int x1), (2, .int x2), (3, .int x3)] 0 [] := by
  unfold Mod_push_b0 at hf
  refine gw_aload_n hC 0 d_Mod_push_0 rfl rfl ?_
  refine Mr_Mod_pileRow hC kf_Mod_87 d_Mod_push_1 ?_
  refine gw_aload_n hC 0 d_Mod_push_4 rfl rfl ?_
  refine Mg19 hC kf_Mod_244 d_Mod_push_5 (σ.1 19) rfl ?_
  refine gw_iload_n hC 1 d_Mod_push_8 rfl rfl ?_
  obtain ⟨hg9, hf⟩ := g_guard hf
  refine Mast (j := 24) hC (by decide) hg9 d_Mod_push_9 ?_
  refine gw_aload_n hC 0 d_Mod_push_10 rfl rfl ?_
  refine Mr_Mod_pileAt hC kf_Mod_90 d_Mod_push_11 ?_
  refine gw_aload_n hC 0 d_Mod_push_14 rfl rfl ?_
  refine Mg19 hC kf_Mod_244 d_Mod_push_15 (σ.1 19) rfl ?_
  refine gw_iload_n hC 2 d_Mod_push_18 rfl rfl ?_
  refine Mast (j := 25) hC (by decide) hg9 d_Mod_push_19 ?_
  refine gw_aload_n hC 0 d_Mod_push_20 rfl rfl ?_
  refine Mr_Mod_pileLook hC kf_Mod_93 d_Mod_push_21 ?_
  refine gw_aload_n hC 0 d_Mod_push_24 rfl rfl ?_
  refine Mg19 hC kf_Mod_244 d_Mod_push_25 (σ.1 19) rfl ?_
  refine gw_iload_n hC 3 d_Mod_push_28 rfl rfl ?_
  refine Mast (j := 26) hC (by decide) hg9 d_Mod_push_29 ?_
  refine gw_iconst hC 0 d_Mod_push_30 (by decide) ?_
  refine gw_istore hC [(4, .int 0), (0, .ref (ao 0)), (1, .int x1), (2, .int x2), (3, .int x3)] d_Mod_push_31 (by decide) rfl ?_
  refine gw_lv [1, 0] rfl ?_
  exact Mod_push_q33 ao aa hC N N _ _ _ _ hf
def Mod_push (N : Nat) (x1 : Int32) (x2 : Int32) (x3 : Int32) (σ : g_S) : Option (Int32 × g_S) := Mod_push_b0 N x1 x2 x3 σ
theorem Mod_push_m (l : Launch) (D : va_G) (cA : ClassId) (ao aa : Nat → Nat) (N : Nat) (x1 : Int32) (x2 : Int32) (x3 : Int32) (σ : g_S) (r : Int32) (σe : g_S) (hf : Mod_push N x1 x2 x3 σ = some (r, σe)) : Mt l D cA y_Mod_push c_Mod_push 5 none 0 0 [.ref (ao 0), .int x1, .int x2, .int x3] (LM ao aa cA σ) none (LM ao aa cA σe) := by
  refine g_met (by decide +kernel) (by simp [lg_sl, Value.category]) (fun X e1 e2 e3 hC => ?_)
  subst e1 e2 e3
  refine gw_lv [0, 1, 2, 3] rfl ?_
  exact Mod_push_p0 ao aa hC N _ _ _ _ (r) _ hf
def Mod_pop_b99 (N : Nat) (x1 : Int32) (σ : g_S) : Option (Int32 × g_S) := some (x1, σ)
theorem Mod_pop_p99 (ao aa : Nat → Nat) {X : g_X} (hC : gC X c_Mod_pop R_Mod 0 0 3 (some .int)) (N : Nat) (x1 : Int32) (σ : g_S) (r : Int32) (σe : g_S) (hf : Mod_pop_b99 N x1 σ = some (r, σe)) : gw X (.inl (some (.int r))) (LM ao aa X.2.2.1 σe) (LM ao aa X.2.2.1 σ) [(0, .ref (ao 0)), (1, .int x1)] 99 [] := by
  unfold Mod_pop_b99 at hf
  refine gw_iload_n hC 1 d_Mod_pop_99 rfl rfl ?_
  cases hf
  exact gw_iret hC d_Mod_pop_100
def Mod_pop_b96 (N : Nat) (k2 : Int32 → g_S → Option (Int32 × g_S)) (x1 : Int32) (σ : g_S) : Option (Int32 × g_S) := k2 x1 σ
theorem Mod_pop_p96 (ao aa : Nat → Nat) {X : g_X} (hC : gC X c_Mod_pop R_Mod 0 0 3 (some .int)) (N : Nat) (k2 : Int32 → g_S → Option (Int32 × g_S)) (hk2 : ∀ (x1 : Int32) (σ : g_S) (r : Int32) (σe : g_S), k2 x1 σ = some (r, σe) → gw X (.inl (some (.int r))) (LM ao aa X.2.2.1 σe) (LM ao aa X.2.2.1 σ) [(0, .ref (ao 0)), (1, .int x1)] 2 []) (x1 : Int32) (σ : g_S) (r : Int32) (σe : g_S) (hf : Mod_pop_b96 N k2 x1 σ = some (r, σe)) : gw X (.inl (some (.int r))) (LM ao aa X.2.2.1 σe) (LM ao aa X.2.2.1 σ) [(0, .ref (ao 0)), (1, .int x1)] 96 [] := by
  unfold Mod_pop_b96 at hf
  refine gw_goto hC 2 d_Mod_pop_96 (by decide) ?_
  exact hk2 _ _ _ _ hf
def Mod_pop_b70 (N : Nat) (k2 : Int32 → g_S → Option (Int32 × g_S)) (k64 : Int32 → Int32 → g_S → Option (Int32 × g_S)) (x1 : Int32) (x2 : Int32) (σ : g_S) : Option (Int32 × g_S) := if gIn ((42 * (σ.1 19)) + x2) 672000 = true then if gIn x2 42 = true then k64 x1 (x2 + 1) (gA σ 17 (x2).toNatClampNeg (σ.2 27 (((42 * (σ.1 19)) + x2)).toNatClampNeg)) else none else none
theorem Mod_pop_p70 (ao aa : Nat → Nat) {X : g_X} (hC : gC X c_Mod_pop R_Mod 0 0 3 (some .int)) (N : Nat) (k2 : Int32 → g_S → Option (Int32 × g_S)) (k64 : Int32 → Int32 → g_S → Option (Int32 × g_S)) (hk2 : ∀ (x1 : Int32) (σ : g_S) (r : Int32) (σe : g_S), k2 x1 σ = some (r, σe) → gw X (.inl (some (.int r))) (LM ao aa X.2.2.1 σe) (LM ao aa X.2.2.1 σ) [(0, .ref (ao 0)), (1, .int x1)] 2 []) (hk64 : ∀ (x1 : Int32) (x2 : Int32) (σ : g_S) (r : Int32) (σe : g_S), k64 x1 x2 σ = some (r, σe) → gw X (.inl (some (.int r))) (LM ao aa X.2.2.1 σe) (LM ao aa X.2.2.1 σ) [(0, .ref (ao 0)), (1, .int x1), (2, .int x2)] 64 []) (x1 : Int32) (x2 : Int32) (σ : g_S) (r : Int32) (σe : g_S) (hf : Mod_pop_b70 N k2 k64 x1 x2 σ = some (r, σe)) : gw X (.inl (some (.int r))) (LM ao aa X.2.2.1 σe) (LM ao aa X.2.2.1 σ) [(0, .ref (ao 0)), (1, .int x1), (2, .int x2)] 70 [] := by
  unfold Mod_pop_b70 at hf
  refine gw_aload_n hC 0 d_Mod_pop_70 rfl rfl ?_
  refine Mr_Mod_group hC kf_Mod_65 d_Mod_pop_71 ?_
  refine gw_iload_n hC 2 d_Mod_pop_74 rfl rfl ?_
  refine gw_aload_n hC 0 d_Mod_pop_75 rfl rfl ?_
  refine Mr_Mod_pileGroup hC kf_Mod_97 d_Mod_pop_76 ?_
  refine gw_bipush hC 42 d_Mod_pop_79 (by decide) ?_
  refine gw_aload_n hC 0 d_Mod_pop_81 rfl rfl ?_
  refine Mg19 hC kf_Mod_244 d_Mod_pop_82 (σ.1 19) rfl ?_
  refine gw_imul hC d_Mod_pop_85 ?_
  refine gw_iload_n hC 2 d_Mod_pop_86 rfl rfl ?_
  refine gw_iadd hC d_Mod_pop_87 ?_
  obtain ⟨hg88, hf⟩ := g_guard hf
  refine Mald (j := 27) hC (by decide) hg88 d_Mod_pop_88 (σ.2 27 (((42 * (σ.1 19)) + x2)).toNatClampNeg) rfl ?_
  obtain ⟨hg89, hf⟩ := g_guard hf
  refine Mast (j := 17) hC (by decide) hg89 d_Mod_pop_89 ?_
  refine gw_iinc hC (x2 + 1) 2 [(2, .int (x2 + 1)), (0, .ref (ao 0)), (1, .int x1)] d_Mod_pop_90 rfl rfl (by decide) rfl ?_
  refine gw_goto hC 64 d_Mod_pop_93 (by decide) ?_
  refine gw_lv [1, 2, 0] rfl ?_
  exact hk64 _ _ _ _ _ hf
def Mod_pop_b64 (N : Nat) (k2 : Int32 → g_S → Option (Int32 × g_S)) (k64 : Int32 → Int32 → g_S → Option (Int32 × g_S)) (x1 : Int32) (x2 : Int32) (σ : g_S) : Option (Int32 × g_S) := if 42 ≤ x2 then Mod_pop_b96 N k2 x1 σ else Mod_pop_b70 N k2 k64 x1 x2 σ
theorem Mod_pop_p64 (ao aa : Nat → Nat) {X : g_X} (hC : gC X c_Mod_pop R_Mod 0 0 3 (some .int)) (N : Nat) (k2 : Int32 → g_S → Option (Int32 × g_S)) (k64 : Int32 → Int32 → g_S → Option (Int32 × g_S)) (hk2 : ∀ (x1 : Int32) (σ : g_S) (r : Int32) (σe : g_S), k2 x1 σ = some (r, σe) → gw X (.inl (some (.int r))) (LM ao aa X.2.2.1 σe) (LM ao aa X.2.2.1 σ) [(0, .ref (ao 0)), (1, .int x1)] 2 []) (hk64 : ∀ (x1 : Int32) (x2 : Int32) (σ : g_S) (r : Int32) (σe : g_S), k64 x1 x2 σ = some (r, σe) → gw X (.inl (some (.int r))) (LM ao aa X.2.2.1 σe) (LM ao aa X.2.2.1 σ) [(0, .ref (ao 0)), (1, .int x1), (2, .int x2)] 64 []) (x1 : Int32) (x2 : Int32) (σ : g_S) (r : Int32) (σe : g_S) (hf : Mod_pop_b64 N k2 k64 x1 x2 σ = some (r, σe)) : gw X (.inl (some (.int r))) (LM ao aa X.2.2.1 σe) (LM ao aa X.2.2.1 σ) [(0, .ref (ao 0)), (1, .int x1), (2, .int x2)] 64 [] := by
  unfold Mod_pop_b64 at hf
  refine gw_iload_n hC 2 d_Mod_pop_64 rfl rfl ?_
  refine gw_bipush hC 42 d_Mod_pop_65 (by decide) ?_
  refine gw_icmp_ge hC 96 d_Mod_pop_67 (by decide) (fun hh => ?_) (fun hh => ?_)
  · rw [if_pos hh] at hf
    refine gw_lv [0, 1] rfl ?_
    exact Mod_pop_p96 ao aa hC N _ hk2 _ _ _ _ hf
  · rw [if_neg hh] at hf
    exact Mod_pop_p70 ao aa hC N _ _ hk2 hk64 _ _ _ _ _ hf
def Mod_pop_l64 (N : Nat) (k2 : Int32 → g_S → Option (Int32 × g_S)) : Nat → Int32 → Int32 → g_S → Option (Int32 × g_S)
  | 0 => fun _ _ _ => none
  | n + 1 => fun x1 x2 σ => Mod_pop_b64 N k2 (Mod_pop_l64 N k2 n) x1 x2 σ
theorem Mod_pop_q64 (ao aa : Nat → Nat) {X : g_X} (hC : gC X c_Mod_pop R_Mod 0 0 3 (some .int)) (N : Nat) (k2 : Int32 → g_S → Option (Int32 × g_S)) (hk2 : ∀ (x1 : Int32) (σ : g_S) (r : Int32) (σe : g_S), k2 x1 σ = some (r, σe) → gw X (.inl (some (.int r))) (LM ao aa X.2.2.1 σe) (LM ao aa X.2.2.1 σ) [(0, .ref (ao 0)), (1, .int x1)] 2 []) (n : Nat) : ∀ (x1 : Int32) (x2 : Int32) (σ : g_S) (r : Int32) (σe : g_S), Mod_pop_l64 N k2 n x1 x2 σ = some (r, σe) → gw X (.inl (some (.int r))) (LM ao aa X.2.2.1 σe) (LM ao aa X.2.2.1 σ) [(0, .ref (ao 0)), (1, .int x1), (2, .int x2)] 64 [] := by
  induction n with
  | zero => intro x1 x2 σ r σe hf; cases hf
  | succ n ih => intro x1 x2 σ r σe hf; exact Mod_pop_p64 ao aa hC N _ _ hk2 (fun x1 x2 σ r2 σ2 h2 => ih x1 x2 σ r2 σ2 h2) x1 x2 σ r σe hf
def Mod_pop_b39 (N : Nat) (k2 : Int32 → g_S → Option (Int32 × g_S)) (σ : g_S) : Option (Int32 × g_S) := if gIn (σ.1 19) 16000 = true then Mod_pop_l64 N k2 N (σ.2 24 ((σ.1 19)).toNatClampNeg) 0 (gF σ 11 (σ.2 25 ((σ.1 19)).toNatClampNeg)) else none
theorem Mod_pop_p39 (ao aa : Nat → Nat) {X : g_X} (hC : gC X c_Mod_pop R_Mod 0 0 3 (some .int)) (N : Nat) (k2 : Int32 → g_S → Option (Int32 × g_S)) (hk2 : ∀ (x1 : Int32) (σ : g_S) (r : Int32) (σe : g_S), k2 x1 σ = some (r, σe) → gw X (.inl (some (.int r))) (LM ao aa X.2.2.1 σe) (LM ao aa X.2.2.1 σ) [(0, .ref (ao 0)), (1, .int x1)] 2 []) (σ : g_S) (r : Int32) (σe : g_S) (hf : Mod_pop_b39 N k2 σ = some (r, σe)) : gw X (.inl (some (.int r))) (LM ao aa X.2.2.1 σe) (LM ao aa X.2.2.1 σ) [(0, .ref (ao 0))] 39 [] := by
  unfold Mod_pop_b39 at hf
  refine gw_aload_n hC 0 d_Mod_pop_39 rfl rfl ?_
  refine Mr_Mod_pileRow hC kf_Mod_87 d_Mod_pop_40 ?_
  refine gw_aload_n hC 0 d_Mod_pop_43 rfl rfl ?_
  refine Mg19 hC kf_Mod_244 d_Mod_pop_44 (σ.1 19) rfl ?_
  obtain ⟨hg47, hf⟩ := g_guard hf
  refine Mald (j := 24) hC (by decide) hg47 d_Mod_pop_47 (σ.2 24 ((σ.1 19)).toNatClampNeg) rfl ?_
  refine gw_istore_n hC [(1, .int (σ.2 24 ((σ.1 19)).toNatClampNeg)), (0, .ref (ao 0))] d_Mod_pop_48 rfl (by decide) rfl ?_
  refine gw_aload_n hC 1 d_Mod_pop_49 rfl rfl ?_
  refine gw_aload_n hC 1 d_Mod_pop_50 rfl rfl ?_
  refine Mr_Mod_pileAt hC kf_Mod_90 d_Mod_pop_51 ?_
  refine gw_aload_n hC 1 d_Mod_pop_54 rfl rfl ?_
  refine Mg19 hC kf_Mod_244 d_Mod_pop_55 (σ.1 19) rfl ?_
  refine Mald (j := 25) hC (by decide) hg47 d_Mod_pop_58 (σ.2 25 ((σ.1 19)).toNatClampNeg) rfl ?_
  refine Mp11 hC kf_Mod_129 d_Mod_pop_59 ?_
  refine gw_iconst hC 0 d_Mod_pop_62 (by decide) ?_
  refine gw_istore_n hC [(2, .int 0), (1, .int (σ.2 24 ((σ.1 19)).toNatClampNeg)), (0, .ref (ao 0))] d_Mod_pop_63 rfl (by decide) rfl ?_
  refine gw_lv [2, 1, 0] rfl ?_
  exact Mod_pop_q64 ao aa hC N _ hk2 N _ _ _ _ _ hf
def Mod_pop_b36 (N : Nat) (k2 : Int32 → g_S → Option (Int32 × g_S)) (x1 : Int32) (σ : g_S) : Option (Int32 × g_S) := k2 x1 σ
theorem Mod_pop_p36 (ao aa : Nat → Nat) {X : g_X} (hC : gC X c_Mod_pop R_Mod 0 0 3 (some .int)) (N : Nat) (k2 : Int32 → g_S → Option (Int32 × g_S)) (hk2 : ∀ (x1 : Int32) (σ : g_S) (r : Int32) (σe : g_S), k2 x1 σ = some (r, σe) → gw X (.inl (some (.int r))) (LM ao aa X.2.2.1 σe) (LM ao aa X.2.2.1 σ) [(0, .ref (ao 0)), (1, .int x1)] 2 []) (x1 : Int32) (σ : g_S) (r : Int32) (σe : g_S) (hf : Mod_pop_b36 N k2 x1 σ = some (r, σe)) : gw X (.inl (some (.int r))) (LM ao aa X.2.2.1 σe) (LM ao aa X.2.2.1 σ) [(0, .ref (ao 0)), (1, .int x1)] 36 [] := by
  unfold Mod_pop_b36 at hf
  refine gw_goto hC 2 d_Mod_pop_36 (by decide) ?_
  exact hk2 _ _ _ _ hf
def Mod_pop_b13 (N : Nat) (k2 : Int32 → g_S → Option (Int32 × g_S)) (x1 : Int32) (σ : g_S) : Option (Int32 × g_S) := if gIn ((σ.1 19) - 1) 16000 = true then if (σ.2 26 (((σ.1 19) - 1)).toNatClampNeg) = 1 then Mod_pop_b36 N k2 x1 (gF σ 19 ((σ.1 19) - 1)) else Mod_pop_b39 N k2 (gF σ 19 ((σ.1 19) - 1)) else none
theorem Mod_pop_p13 (ao aa : Nat → Nat) {X : g_X} (hC : gC X c_Mod_pop R_Mod 0 0 3 (some .int)) (N : Nat) (k2 : Int32 → g_S → Option (Int32 × g_S)) (hk2 : ∀ (x1 : Int32) (σ : g_S) (r : Int32) (σe : g_S), k2 x1 σ = some (r, σe) → gw X (.inl (some (.int r))) (LM ao aa X.2.2.1 σe) (LM ao aa X.2.2.1 σ) [(0, .ref (ao 0)), (1, .int x1)] 2 []) (x1 : Int32) (σ : g_S) (r : Int32) (σe : g_S) (hf : Mod_pop_b13 N k2 x1 σ = some (r, σe)) : gw X (.inl (some (.int r))) (LM ao aa X.2.2.1 σe) (LM ao aa X.2.2.1 σ) [(0, .ref (ao 0)), (1, .int x1)] 13 [] := by
  unfold Mod_pop_b13 at hf
  refine gw_aload_n hC 0 d_Mod_pop_13 rfl rfl ?_
  refine gw_dup hC d_Mod_pop_14 rfl ?_
  refine Mg19 hC kf_Mod_244 d_Mod_pop_15 (σ.1 19) rfl ?_
  refine gw_iconst hC 1 d_Mod_pop_18 (by decide) ?_
  refine gw_isub hC d_Mod_pop_19 ?_
  refine Mp19 hC kf_Mod_244 d_Mod_pop_20 ?_
  refine gw_aload_n hC 0 d_Mod_pop_23 rfl rfl ?_
  refine Mr_Mod_pileLook hC kf_Mod_93 d_Mod_pop_24 ?_
  refine gw_aload_n hC 0 d_Mod_pop_27 rfl rfl ?_
  refine Mg19 hC kf_Mod_244 d_Mod_pop_28 ((σ.1 19) - 1) rfl ?_
  obtain ⟨hg31, hf⟩ := g_guard hf
  refine Mald (j := 26) hC (by decide) hg31 d_Mod_pop_31 (σ.2 26 (((σ.1 19) - 1)).toNatClampNeg) rfl ?_
  refine gw_iconst hC 1 d_Mod_pop_32 (by decide) ?_
  refine gw_icmp_ne hC 39 d_Mod_pop_33 (by decide) (fun hh => ?_) (fun hh => ?_)
  · rw [if_neg hh] at hf
    refine gw_lv [0] rfl ?_
    exact Mod_pop_p39 ao aa hC N _ hk2 _ _ _ hf
  · rw [if_pos hh] at hf
    exact Mod_pop_p36 ao aa hC N _ hk2 _ _ _ _ hf
def Mod_pop_b6 (N : Nat) (k2 : Int32 → g_S → Option (Int32 × g_S)) (x1 : Int32) (σ : g_S) : Option (Int32 × g_S) := if (σ.1 19) ≤ 0 then Mod_pop_b99 N x1 σ else Mod_pop_b13 N k2 x1 σ
theorem Mod_pop_p6 (ao aa : Nat → Nat) {X : g_X} (hC : gC X c_Mod_pop R_Mod 0 0 3 (some .int)) (N : Nat) (k2 : Int32 → g_S → Option (Int32 × g_S)) (hk2 : ∀ (x1 : Int32) (σ : g_S) (r : Int32) (σe : g_S), k2 x1 σ = some (r, σe) → gw X (.inl (some (.int r))) (LM ao aa X.2.2.1 σe) (LM ao aa X.2.2.1 σ) [(0, .ref (ao 0)), (1, .int x1)] 2 []) (x1 : Int32) (σ : g_S) (r : Int32) (σe : g_S) (hf : Mod_pop_b6 N k2 x1 σ = some (r, σe)) : gw X (.inl (some (.int r))) (LM ao aa X.2.2.1 σe) (LM ao aa X.2.2.1 σ) [(0, .ref (ao 0)), (1, .int x1)] 6 [] := by
  unfold Mod_pop_b6 at hf
  refine gw_aload_n hC 0 d_Mod_pop_6 rfl rfl ?_
  refine Mg19 hC kf_Mod_244 d_Mod_pop_7 (σ.1 19) rfl ?_
  refine gw_if_le hC 99 d_Mod_pop_10 (by decide) (fun hh => ?_) (fun hh => ?_)
  · rw [if_pos hh] at hf
    exact Mod_pop_p99 ao aa hC N _ _ _ _ hf
  · rw [if_neg hh] at hf
    exact Mod_pop_p13 ao aa hC N _ hk2 _ _ _ _ hf
def Mod_pop_b2 (N : Nat) (k2 : Int32 → g_S → Option (Int32 × g_S)) (x1 : Int32) (σ : g_S) : Option (Int32 × g_S) := if 0 ≤ x1 then Mod_pop_b99 N x1 σ else Mod_pop_b6 N k2 x1 σ
theorem Mod_pop_p2 (ao aa : Nat → Nat) {X : g_X} (hC : gC X c_Mod_pop R_Mod 0 0 3 (some .int)) (N : Nat) (k2 : Int32 → g_S → Option (Int32 × g_S)) (hk2 : ∀ (x1 : Int32) (σ : g_S) (r : Int32) (σe : g_S), k2 x1 σ = some (r, σe) → gw X (.inl (some (.int r))) (LM ao aa X.2.2.1 σe) (LM ao aa X.2.2.1 σ) [(0, .ref (ao 0)), (1, .int x1)] 2 []) (x1 : Int32) (σ : g_S) (r : Int32) (σe : g_S) (hf : Mod_pop_b2 N k2 x1 σ = some (r, σe)) : gw X (.inl (some (.int r))) (LM ao aa X.2.2.1 σe) (LM ao aa X.2.2.1 σ) [(0, .ref (ao 0)), (1, .int x1)] 2 [] := by
  unfold Mod_pop_b2 at hf
  refine gw_iload_n hC 1 d_Mod_pop_2 rfl rfl ?_
  refine gw_if_ge hC 99 d_Mod_pop_3 (by decide) (fun hh => ?_) (fun hh => ?_)
  · rw [if_pos hh] at hf
    exact Mod_pop_p99 ao aa hC N _ _ _ _ hf
  · rw [if_neg hh] at hf
    exact Mod_pop_p6 ao aa hC N _ hk2 _ _ _ _ hf
def Mod_pop_l2 (N : Nat) : Nat → Int32 → g_S → Option (Int32 × g_S)
  | 0 => fun _ _ => none
  | n + 1 => fun x1 σ => Mod_pop_b2 N (Mod_pop_l2 N n) x1 σ
theorem Mod_pop_q2 (ao aa : Nat → Nat) {X : g_X} (hC : gC X c_Mod_pop R_Mod 0 0 3 (some .int)) (N : Nat) (n : Nat) : ∀ (x1 : Int32) (σ : g_S) (r : Int32) (σe : g_S), Mod_pop_l2 N n x1 σ = some (r, σe) → gw X (.inl (some (.int r))) (LM ao aa X.2.2.1 σe) (LM ao aa X.2.2.1 σ) [(0, .ref (ao 0)), (1, .int x1)] 2 [] := by
  induction n with
  | zero => intro x1 σ r σe hf; cases hf
  | succ n ih => intro x1 σ r σe hf; exact Mod_pop_p2 ao aa hC N _ (fun x1 σ r2 σ2 h2 => ih x1 σ r2 σ2 h2) x1 σ r σe hf
def Mod_pop_b0 (N : Nat) (σ : g_S) : Option (Int32 × g_S) := Mod_pop_l2 N N (-1) σ
theorem Mod_pop_p0 (ao aa : Nat → Nat) {X : g_X} (hC : gC X c_Mod_pop R_Mod 0 0 3 (some .int)) (N : Nat) (σ : g_S) (r : Int32) (σe : g_S) (hf : Mod_pop_b0 N σ = some (r, σe)) : gw X (.inl (some (.int r))) (LM ao aa X.2.2.1 σe) (LM ao aa X.2.2.1 σ) [(0, .ref (ao 0))] 0 [] := by
  unfold Mod_pop_b0 at hf
  refine gw_iconst hC (-1) d_Mod_pop_0 (by decide) ?_
  refine gw_istore_n hC [(1, .int (-1)), (0, .ref (ao 0))] d_Mod_pop_1 rfl (by decide) rfl ?_
  refine gw_lv [1, 0] rfl ?_
  exact Mod_pop_q2 ao aa hC N N _ _ _ _ hf
def Mod_pop (N : Nat) (σ : g_S) : Option (Int32 × g_S) := Mod_pop_b0 N  σ
theorem Mod_pop_m (l : Launch) (D : va_G) (cA : ClassId) (ao aa : Nat → Nat) (N : Nat) (σ : g_S) (r : Int32) (σe : g_S) (hf : Mod_pop N σ = some (r, σe)) : Mt l D cA y_Mod_pop c_Mod_pop 3 (some .int) 0 0 [.ref (ao 0)] (LM ao aa cA σ) (some (.int r)) (LM ao aa cA σe) := by
  refine g_met (by decide +kernel) (by simp [lg_sl, Value.category]) (fun X e1 e2 e3 hC => ?_)
  subst e1 e2 e3
  refine gw_lv [0] rfl ?_
  exact Mod_pop_p0 ao aa hC N _ (r) _ hf
def Mod_spends_b13 (N : Nat) (σ : g_S) : Option (Int32 × g_S) := some (1, (gF σ 16 ((σ.1 16) + 1)))
theorem Mod_spends_p13 (ao aa : Nat → Nat) {X : g_X} (hC : gC X c_Mod_spends R_Mod 0 0 1 (some .boolean)) (N : Nat) (σ : g_S) (r : Int32) (σe : g_S) (hf : Mod_spends_b13 N σ = some (r, σe)) : gw X (.inl (some (.int r))) (LM ao aa X.2.2.1 σe) (LM ao aa X.2.2.1 σ) [(0, .ref (ao 0))] 13 [] := by
  unfold Mod_spends_b13 at hf
  refine gw_aload_n hC 0 d_Mod_spends_13 rfl rfl ?_
  refine gw_dup hC d_Mod_spends_14 rfl ?_
  refine Mg16 hC kf_Mod_247 d_Mod_spends_15 (σ.1 16) rfl ?_
  refine gw_iconst hC 1 d_Mod_spends_18 (by decide) ?_
  refine gw_iadd hC d_Mod_spends_19 ?_
  refine Mp16 hC kf_Mod_247 d_Mod_spends_20 ?_
  refine gw_iconst hC 1 d_Mod_spends_23 (by decide) ?_
  cases hf
  exact gw_zret hC (by decide) d_Mod_spends_24
def Mod_spends_b11 (N : Nat) (σ : g_S) : Option (Int32 × g_S) := some (0, σ)
theorem Mod_spends_p11 (ao aa : Nat → Nat) {X : g_X} (hC : gC X c_Mod_spends R_Mod 0 0 1 (some .boolean)) (N : Nat) (σ : g_S) (r : Int32) (σe : g_S) (hf : Mod_spends_b11 N σ = some (r, σe)) : gw X (.inl (some (.int r))) (LM ao aa X.2.2.1 σe) (LM ao aa X.2.2.1 σ) [(0, .ref (ao 0))] 11 [] := by
  unfold Mod_spends_b11 at hf
  refine gw_iconst hC 0 d_Mod_spends_11 (by decide) ?_
  cases hf
  exact gw_zret hC (by decide) d_Mod_spends_12
def Mod_spends_b0 (N : Nat) (σ : g_S) : Option (Int32 × g_S) := if (σ.1 16) = (σ.1 17) then Mod_spends_b11 N σ else Mod_spends_b13 N σ
theorem Mod_spends_p0 (ao aa : Nat → Nat) {X : g_X} (hC : gC X c_Mod_spends R_Mod 0 0 1 (some .boolean)) (N : Nat) (σ : g_S) (r : Int32) (σe : g_S) (hf : Mod_spends_b0 N σ = some (r, σe)) : gw X (.inl (some (.int r))) (LM ao aa X.2.2.1 σe) (LM ao aa X.2.2.1 σ) [(0, .ref (ao 0))] 0 [] := by
  unfold Mod_spends_b0 at hf
  refine gw_aload_n hC 0 d_Mod_spends_0 rfl rfl ?_
  refine Mg16 hC kf_Mod_247 d_Mod_spends_1 (σ.1 16) rfl ?_
  refine gw_aload_n hC 0 d_Mod_spends_4 rfl rfl ?_
  refine Mg17 hC kf_Mod_250 d_Mod_spends_5 (σ.1 17) rfl ?_
  refine gw_icmp_ne hC 13 d_Mod_spends_8 (by decide) (fun hh => ?_) (fun hh => ?_)
  · rw [if_neg hh] at hf
    exact Mod_spends_p13 ao aa hC N _ _ _ hf
  · rw [if_pos hh] at hf
    exact Mod_spends_p11 ao aa hC N _ _ _ hf
def Mod_spends (N : Nat) (σ : g_S) : Option (Int32 × g_S) := Mod_spends_b0 N  σ
theorem Mod_spends_m (l : Launch) (D : va_G) (cA : ClassId) (ao aa : Nat → Nat) (N : Nat) (σ : g_S) (r : Int32) (σe : g_S) (hf : Mod_spends N σ = some (r, σe)) : Mt l D cA y_Mod_spends c_Mod_spends 1 (some .boolean) 0 0 [.ref (ao 0)] (LM ao aa cA σ) (some (.int r)) (LM ao aa cA σe) := by
  refine g_met (by decide +kernel) (by simp [lg_sl, Value.category]) (fun X e1 e2 e3 hC => ?_)
  subst e1 e2 e3
  refine gw_lv [0] rfl ?_
  exact Mod_spends_p0 ao aa hC N _ (r) _ hf
def Mod_isMember_b69 (N : Nat) (σ : g_S) : Option (Int32 × g_S) := some (0, σ)
theorem Mod_isMember_p69 (ao aa : Nat → Nat) {X : g_X} (hC : gC X c_Mod_isMember R_Mod 4 83 4 (some .boolean)) (N : Nat) (σ : g_S) (r : Int32) (σe : g_S) (hf : Mod_isMember_b69 N σ = some (r, σe)) : gw X (.inl (some (.int r))) (LM ao aa X.2.2.1 σe) (LM ao aa X.2.2.1 σ) [(0, .ref (ao 0))] 69 [] := by
  unfold Mod_isMember_b69 at hf
  refine gw_iconst hC 0 d_Mod_isMember_69 (by decide) ?_
  cases hf
  exact gw_zret hC (by decide) d_Mod_isMember_70
def Mod_isMember_b63 (N : Nat) (k7 : Int32 → Int32 → Int32 → g_S → Option (Int32 × g_S)) (x1 : Int32) (x2 : Int32) (x3 : Int32) (σ : g_S) : Option (Int32 × g_S) := k7 x1 x2 (x3 + 1) σ
theorem Mod_isMember_p63 (ao aa : Nat → Nat) {X : g_X} (hC : gC X c_Mod_isMember R_Mod 4 83 4 (some .boolean)) (N : Nat) (k7 : Int32 → Int32 → Int32 → g_S → Option (Int32 × g_S)) (hk7 : ∀ (x1 : Int32) (x2 : Int32) (x3 : Int32) (σ : g_S) (r : Int32) (σe : g_S), k7 x1 x2 x3 σ = some (r, σe) → gw X (.inl (some (.int r))) (LM ao aa X.2.2.1 σe) (LM ao aa X.2.2.1 σ) [(0, .ref (ao 0)), (1, .int x1), (2, .int x2), (3, .int x3)] 7 []) (x1 : Int32) (x2 : Int32) (x3 : Int32) (σ : g_S) (r : Int32) (σe : g_S) (hf : Mod_isMember_b63 N k7 x1 x2 x3 σ = some (r, σe)) : gw X (.inl (some (.int r))) (LM ao aa X.2.2.1 σe) (LM ao aa X.2.2.1 σ) [(0, .ref (ao 0)), (1, .int x1), (2, .int x2), (3, .int x3)] 63 [] := by
  unfold Mod_isMember_b63 at hf
  refine gw_iinc hC (x3 + 1) 3 [(3, .int (x3 + 1)), (0, .ref (ao 0)), (1, .int x1), (2, .int x2)] d_Mod_isMember_63 rfl rfl (by decide) rfl ?_
  refine gw_goto hC 7 d_Mod_isMember_66 (by decide) ?_
  refine gw_lv [1, 2, 3, 0] rfl ?_
  exact hk7 _ _ _ _ _ _ hf
def Mod_isMember_b61 (N : Nat) (σ : g_S) : Option (Int32 × g_S) := some (1, σ)
theorem Mod_isMember_p61 (ao aa : Nat → Nat) {X : g_X} (hC : gC X c_Mod_isMember R_Mod 4 83 4 (some .boolean)) (N : Nat) (σ : g_S) (r : Int32) (σe : g_S) (hf : Mod_isMember_b61 N σ = some (r, σe)) : gw X (.inl (some (.int r))) (LM ao aa X.2.2.1 σe) (LM ao aa X.2.2.1 σ) [(0, .ref (ao 0))] 61 [] := by
  unfold Mod_isMember_b61 at hf
  refine gw_iconst hC 1 d_Mod_isMember_61 (by decide) ?_
  cases hf
  exact gw_zret hC (by decide) d_Mod_isMember_62
def Mod_isMember_b42 (N : Nat) (k7 : Int32 → Int32 → Int32 → g_S → Option (Int32 × g_S)) (x1 : Int32) (x2 : Int32) (x3 : Int32) (σ : g_S) : Option (Int32 × g_S) := if gIn x3 200 = true then (Mod_in N x2 (σ.2 12 (x3).toNatClampNeg) (σ.2 13 (x3).toNatClampNeg) σ).bind fun q55 => if q55.1 = 0 then Mod_isMember_b63 N k7 x1 x2 x3 q55.2 else Mod_isMember_b61 N q55.2 else none
theorem Mod_isMember_p42 (ao aa : Nat → Nat) {X : g_X} (hC : gC X c_Mod_isMember R_Mod 4 83 4 (some .boolean)) (N : Nat) (k7 : Int32 → Int32 → Int32 → g_S → Option (Int32 × g_S)) (hk7 : ∀ (x1 : Int32) (x2 : Int32) (x3 : Int32) (σ : g_S) (r : Int32) (σe : g_S), k7 x1 x2 x3 σ = some (r, σe) → gw X (.inl (some (.int r))) (LM ao aa X.2.2.1 σe) (LM ao aa X.2.2.1 σ) [(0, .ref (ao 0)), (1, .int x1), (2, .int x2), (3, .int x3)] 7 []) (x1 : Int32) (x2 : Int32) (x3 : Int32) (σ : g_S) (r : Int32) (σe : g_S) (hf : Mod_isMember_b42 N k7 x1 x2 x3 σ = some (r, σe)) : gw X (.inl (some (.int r))) (LM ao aa X.2.2.1 σe) (LM ao aa X.2.2.1 σ) [(0, .ref (ao 0)), (1, .int x1), (2, .int x2), (3, .int x3)] 42 [] := by
  unfold Mod_isMember_b42 at hf
  refine gw_iload_n hC 2 d_Mod_isMember_42 rfl rfl ?_
  refine gw_aload_n hC 0 d_Mod_isMember_43 rfl rfl ?_
  refine Mr_Mod_low hC kf_Mod_50 d_Mod_isMember_44 ?_
  refine gw_iload_n hC 3 d_Mod_isMember_47 rfl rfl ?_
  obtain ⟨hg48, hf⟩ := g_guard hf
  refine Mald (j := 12) hC (by decide) hg48 d_Mod_isMember_48 (σ.2 12 (x3).toNatClampNeg) rfl ?_
  refine gw_aload_n hC 0 d_Mod_isMember_49 rfl rfl ?_
  refine Mr_Mod_high hC kf_Mod_53 d_Mod_isMember_50 ?_
  refine gw_iload_n hC 3 d_Mod_isMember_53 rfl rfl ?_
  refine Mald (j := 13) hC (by decide) hg48 d_Mod_isMember_54 (σ.2 13 (x3).toNatClampNeg) rfl ?_
  obtain ⟨q55, hq55, hf⟩ := g_bind hf
  refine gw_callS hC [.int x2, .int (σ.2 12 (x3).toNatClampNeg), .int (σ.2 13 (x3).toNatClampNeg)] [] (Mod_in_m _ _ _ ao aa N _ _ _ _ _ _ hq55) kc_Mod_103 ⟨by decide, by decide⟩ (Nat.le_of_ble_eq_true rfl) [.int (σ.2 13 (x3).toNatClampNeg), .int (σ.2 12 (x3).toNatClampNeg), .int x2] [.int q55.1] rfl rfl d_Mod_isMember_55 ?_
  refine gw_if_eq hC 63 d_Mod_isMember_58 (by decide) (fun hh => ?_) (fun hh => ?_)
  · rw [if_pos hh] at hf
    exact Mod_isMember_p63 ao aa hC N _ hk7 _ _ _ _ _ _ hf
  · rw [if_neg hh] at hf
    refine gw_lv [0] rfl ?_
    exact Mod_isMember_p61 ao aa hC N _ _ _ hf
def Mod_isMember_b39 (N : Nat) (σ : g_S) : Option (Int32 × g_S) := Mod_isMember_b61 N σ
theorem Mod_isMember_p39 (ao aa : Nat → Nat) {X : g_X} (hC : gC X c_Mod_isMember R_Mod 4 83 4 (some .boolean)) (N : Nat) (σ : g_S) (r : Int32) (σe : g_S) (hf : Mod_isMember_b39 N σ = some (r, σe)) : gw X (.inl (some (.int r))) (LM ao aa X.2.2.1 σe) (LM ao aa X.2.2.1 σ) [(0, .ref (ao 0))] 39 [] := by
  unfold Mod_isMember_b39 at hf
  refine gw_goto hC 61 d_Mod_isMember_39 (by decide) ?_
  exact Mod_isMember_p61 ao aa hC N _ _ _ hf
def Mod_isMember_b26 (N : Nat) (k7 : Int32 → Int32 → Int32 → g_S → Option (Int32 × g_S)) (x1 : Int32) (x2 : Int32) (x3 : Int32) (σ : g_S) : Option (Int32 × g_S) := if gIn x3 200 = true then (Mod_inSet N (σ.2 12 (x3).toNatClampNeg) x2 σ).bind fun q33 => if q33.1 = 0 then Mod_isMember_b63 N k7 x1 x2 x3 q33.2 else Mod_isMember_b39 N q33.2 else none
theorem Mod_isMember_p26 (ao aa : Nat → Nat) {X : g_X} (hC : gC X c_Mod_isMember R_Mod 4 83 4 (some .boolean)) (N : Nat) (k7 : Int32 → Int32 → Int32 → g_S → Option (Int32 × g_S)) (hk7 : ∀ (x1 : Int32) (x2 : Int32) (x3 : Int32) (σ : g_S) (r : Int32) (σe : g_S), k7 x1 x2 x3 σ = some (r, σe) → gw X (.inl (some (.int r))) (LM ao aa X.2.2.1 σe) (LM ao aa X.2.2.1 σ) [(0, .ref (ao 0)), (1, .int x1), (2, .int x2), (3, .int x3)] 7 []) (x1 : Int32) (x2 : Int32) (x3 : Int32) (σ : g_S) (r : Int32) (σe : g_S) (hf : Mod_isMember_b26 N k7 x1 x2 x3 σ = some (r, σe)) : gw X (.inl (some (.int r))) (LM ao aa X.2.2.1 σe) (LM ao aa X.2.2.1 σ) [(0, .ref (ao 0)), (1, .int x1), (2, .int x2), (3, .int x3)] 26 [] := by
  unfold Mod_isMember_b26 at hf
  refine gw_aload_n hC 0 d_Mod_isMember_26 rfl rfl ?_
  refine Mr_Mod_low hC kf_Mod_50 d_Mod_isMember_27 ?_
  refine gw_iload_n hC 3 d_Mod_isMember_30 rfl rfl ?_
  obtain ⟨hg31, hf⟩ := g_guard hf
  refine Mald (j := 12) hC (by decide) hg31 d_Mod_isMember_31 (σ.2 12 (x3).toNatClampNeg) rfl ?_
  refine gw_iload_n hC 2 d_Mod_isMember_32 rfl rfl ?_
  obtain ⟨q33, hq33, hf⟩ := g_bind hf
  refine gw_callS hC [.int (σ.2 12 (x3).toNatClampNeg), .int x2] [] (Mod_inSet_m _ _ _ ao aa N _ _ _ _ _ hq33) kc_Mod_253 ⟨by decide, by decide⟩ (Nat.le_of_ble_eq_true rfl) [.int x2, .int (σ.2 12 (x3).toNatClampNeg)] [.int q33.1] rfl rfl d_Mod_isMember_33 ?_
  refine gw_if_eq hC 63 d_Mod_isMember_36 (by decide) (fun hh => ?_) (fun hh => ?_)
  · rw [if_pos hh] at hf
    exact Mod_isMember_p63 ao aa hC N _ hk7 _ _ _ _ _ _ hf
  · rw [if_neg hh] at hf
    refine gw_lv [0] rfl ?_
    exact Mod_isMember_p39 ao aa hC N _ _ _ hf
def Mod_isMember_b17 (N : Nat) (k7 : Int32 → Int32 → Int32 → g_S → Option (Int32 × g_S)) (x1 : Int32) (x2 : Int32) (x3 : Int32) (σ : g_S) : Option (Int32 × g_S) := if gIn x3 200 = true then if 0 ≤ (σ.2 13 (x3).toNatClampNeg) then Mod_isMember_b42 N k7 x1 x2 x3 σ else Mod_isMember_b26 N k7 x1 x2 x3 σ else none
theorem Mod_isMember_p17 (ao aa : Nat → Nat) {X : g_X} (hC : gC X c_Mod_isMember R_Mod 4 83 4 (some .boolean)) (N : Nat) (k7 : Int32 → Int32 → Int32 → g_S → Option (Int32 × g_S)) (hk7 : ∀ (x1 : Int32) (x2 : Int32) (x3 : Int32) (σ : g_S) (r : Int32) (σe : g_S), k7 x1 x2 x3 σ = some (r, σe) → gw X (.inl (some (.int r))) (LM ao aa X.2.2.1 σe) (LM ao aa X.2.2.1 σ) [(0, .ref (ao 0)), (1, .int x1), (2, .int x2), (3, .int x3)] 7 []) (x1 : Int32) (x2 : Int32) (x3 : Int32) (σ : g_S) (r : Int32) (σe : g_S) (hf : Mod_isMember_b17 N k7 x1 x2 x3 σ = some (r, σe)) : gw X (.inl (some (.int r))) (LM ao aa X.2.2.1 σe) (LM ao aa X.2.2.1 σ) [(0, .ref (ao 0)), (1, .int x1), (2, .int x2), (3, .int x3)] 17 [] := by
  unfold Mod_isMember_b17 at hf
  refine gw_aload_n hC 0 d_Mod_isMember_17 rfl rfl ?_
  refine Mr_Mod_high hC kf_Mod_53 d_Mod_isMember_18 ?_
  refine gw_iload_n hC 3 d_Mod_isMember_21 rfl rfl ?_
  obtain ⟨hg22, hf⟩ := g_guard hf
  refine Mald (j := 13) hC (by decide) hg22 d_Mod_isMember_22 (σ.2 13 (x3).toNatClampNeg) rfl ?_
  refine gw_if_ge hC 42 d_Mod_isMember_23 (by decide) (fun hh => ?_) (fun hh => ?_)
  · rw [if_pos hh] at hf
    exact Mod_isMember_p42 ao aa hC N _ hk7 _ _ _ _ _ _ hf
  · rw [if_neg hh] at hf
    exact Mod_isMember_p26 ao aa hC N _ hk7 _ _ _ _ _ _ hf
def Mod_isMember_b7 (N : Nat) (k7 : Int32 → Int32 → Int32 → g_S → Option (Int32 × g_S)) (x1 : Int32) (x2 : Int32) (x3 : Int32) (σ : g_S) : Option (Int32 × g_S) := if gIn x1 1300 = true then if (σ.2 5 (x1).toNatClampNeg) ≤ x3 then Mod_isMember_b69 N σ else Mod_isMember_b17 N k7 x1 x2 x3 σ else none
theorem Mod_isMember_p7 (ao aa : Nat → Nat) {X : g_X} (hC : gC X c_Mod_isMember R_Mod 4 83 4 (some .boolean)) (N : Nat) (k7 : Int32 → Int32 → Int32 → g_S → Option (Int32 × g_S)) (hk7 : ∀ (x1 : Int32) (x2 : Int32) (x3 : Int32) (σ : g_S) (r : Int32) (σe : g_S), k7 x1 x2 x3 σ = some (r, σe) → gw X (.inl (some (.int r))) (LM ao aa X.2.2.1 σe) (LM ao aa X.2.2.1 σ) [(0, .ref (ao 0)), (1, .int x1), (2, .int x2), (3, .int x3)] 7 []) (x1 : Int32) (x2 : Int32) (x3 : Int32) (σ : g_S) (r : Int32) (σe : g_S) (hf : Mod_isMember_b7 N k7 x1 x2 x3 σ = some (r, σe)) : gw X (.inl (some (.int r))) (LM ao aa X.2.2.1 σe) (LM ao aa X.2.2.1 σ) [(0, .ref (ao 0)), (1, .int x1), (2, .int x2), (3, .int x3)] 7 [] := by
  unfold Mod_isMember_b7 at hf
  refine gw_iload_n hC 3 d_Mod_isMember_7 rfl rfl ?_
  refine gw_aload_n hC 0 d_Mod_isMember_8 rfl rfl ?_
  refine Mr_Mod_b hC kf_Mod_29 d_Mod_isMember_9 ?_
  refine gw_iload_n hC 1 d_Mod_isMember_12 rfl rfl ?_
  obtain ⟨hg13, hf⟩ := g_guard hf
  refine Mald (j := 5) hC (by decide) hg13 d_Mod_isMember_13 (σ.2 5 (x1).toNatClampNeg) rfl ?_
  refine gw_icmp_ge hC 69 d_Mod_isMember_14 (by decide) (fun hh => ?_) (fun hh => ?_)
  · rw [if_pos hh] at hf
    refine gw_lv [0] rfl ?_
    exact Mod_isMember_p69 ao aa hC N _ _ _ hf
  · rw [if_neg hh] at hf
    exact Mod_isMember_p17 ao aa hC N _ hk7 _ _ _ _ _ _ hf
def Mod_isMember_l7 (N : Nat) : Nat → Int32 → Int32 → Int32 → g_S → Option (Int32 × g_S)
  | 0 => fun _ _ _ _ => none
  | n + 1 => fun x1 x2 x3 σ => Mod_isMember_b7 N (Mod_isMember_l7 N n) x1 x2 x3 σ
theorem Mod_isMember_q7 (ao aa : Nat → Nat) {X : g_X} (hC : gC X c_Mod_isMember R_Mod 4 83 4 (some .boolean)) (N : Nat) (n : Nat) : ∀ (x1 : Int32) (x2 : Int32) (x3 : Int32) (σ : g_S) (r : Int32) (σe : g_S), Mod_isMember_l7 N n x1 x2 x3 σ = some (r, σe) → gw X (.inl (some (.int r))) (LM ao aa X.2.2.1 σe) (LM ao aa X.2.2.1 σ) [(0, .ref (ao 0)), (1, .int x1), (2, .int x2), (3, .int x3)] 7 [] := by
  induction n with
  | zero => intro x1 x2 x3 σ r σe hf; cases hf
  | succ n ih => intro x1 x2 x3 σ r σe hf; exact Mod_isMember_p7 ao aa hC N _ (fun x1 x2 x3 σ r2 σ2 h2 => ih x1 x2 x3 σ r2 σ2 h2) x1 x2 x3 σ r σe hf
def Mod_isMember_b0 (N : Nat) (x1 : Int32) (x2 : Int32) (σ : g_S) : Option (Int32 × g_S) := if gIn x1 1300 = true then Mod_isMember_l7 N N x1 x2 (σ.2 4 (x1).toNatClampNeg) σ else none
theorem Mod_isMember_p0 (ao aa : Nat → Nat) {X : g_X} (hC : gC X c_Mod_isMember R_Mod 4 83 4 (some .boolean)) (N : Nat) (x1 : Int32) (x2 : Int32) (σ : g_S) (r : Int32) (σe : g_S) (hf : Mod_isMember_b0 N x1 x2 σ = some (r, σe)) : gw X (.inl (some (.int r))) (LM ao aa X.2.2.1 σe) (LM ao aa X.2.2.1 σ) [(0, .ref (ao 0)), (1, .int x1), (2, .int x2)] 0 [] := by
  unfold Mod_isMember_b0 at hf
  refine gw_aload_n hC 0 d_Mod_isMember_0 rfl rfl ?_
  refine Mr_Mod_a hC kf_Mod_26 d_Mod_isMember_1 ?_
  refine gw_iload_n hC 1 d_Mod_isMember_4 rfl rfl ?_
  obtain ⟨hg5, hf⟩ := g_guard hf
  refine Mald (j := 4) hC (by decide) hg5 d_Mod_isMember_5 (σ.2 4 (x1).toNatClampNeg) rfl ?_
  refine gw_istore_n hC [(3, .int (σ.2 4 (x1).toNatClampNeg)), (0, .ref (ao 0)), (1, .int x1), (2, .int x2)] d_Mod_isMember_6 rfl (by decide) rfl ?_
  refine gw_lv [1, 2, 3, 0] rfl ?_
  exact Mod_isMember_q7 ao aa hC N N _ _ _ _ _ _ hf
def Mod_isMember (N : Nat) (x1 : Int32) (x2 : Int32) (σ : g_S) : Option (Int32 × g_S) := Mod_isMember_b0 N x1 x2 σ
theorem Mod_isMember_m (l : Launch) (D : va_G) (cA : ClassId) (ao aa : Nat → Nat) (N : Nat) (x1 : Int32) (x2 : Int32) (σ : g_S) (r : Int32) (σe : g_S) (hf : Mod_isMember N x1 x2 σ = some (r, σe)) : Mt l D cA y_Mod_isMember c_Mod_isMember 4 (some .boolean) 4 83 [.ref (ao 0), .int x1, .int x2] (LM ao aa cA σ) (some (.int r)) (LM ao aa cA σe) := by
  refine g_met (by decide +kernel) (by simp [lg_sl, Value.category]) (fun X e1 e2 e3 hC => ?_)
  subst e1 e2 e3
  refine gw_lv [0, 1, 2] rfl ?_
  exact Mod_isMember_p0 ao aa hC N _ _ _ (r) _ hf
def Mod_hasMember_b125 (N : Nat) (s0 : Int32) (σ : g_S) : Option (Int32 × g_S) := if gB s0 = true then some (s0, σ) else none
theorem Mod_hasMember_p125 (ao aa : Nat → Nat) {X : g_X} (hC : gC X c_Mod_hasMember R_Mod 5 106 5 (some .boolean)) (N : Nat) (s0 : Int32) (σ : g_S) (r : Int32) (σe : g_S) (hf : Mod_hasMember_b125 N s0 σ = some (r, σe)) : gw X (.inl (some (.int r))) (LM ao aa X.2.2.1 σe) (LM ao aa X.2.2.1 σ) [(0, .ref (ao 0))] 125 [.int s0] := by
  unfold Mod_hasMember_b125 at hf
  obtain ⟨hg125, hf⟩ := g_guard hf
  cases hf
  exact gw_zret hC hg125 d_Mod_hasMember_125
def Mod_hasMember_b120 (N : Nat) (σ : g_S) : Option (Int32 × g_S) := Mod_hasMember_b125 N 1 σ
theorem Mod_hasMember_p120 (ao aa : Nat → Nat) {X : g_X} (hC : gC X c_Mod_hasMember R_Mod 5 106 5 (some .boolean)) (N : Nat) (σ : g_S) (r : Int32) (σe : g_S) (hf : Mod_hasMember_b120 N σ = some (r, σe)) : gw X (.inl (some (.int r))) (LM ao aa X.2.2.1 σe) (LM ao aa X.2.2.1 σ) [(0, .ref (ao 0))] 120 [] := by
  unfold Mod_hasMember_b120 at hf
  refine gw_iconst hC 1 d_Mod_hasMember_120 (by decide) ?_
  refine gw_goto hC 125 d_Mod_hasMember_121 (by decide) ?_
  exact Mod_hasMember_p125 ao aa hC N _ _ _ _ hf
def Mod_hasMember_b124 (N : Nat) (σ : g_S) : Option (Int32 × g_S) := Mod_hasMember_b125 N 0 σ
theorem Mod_hasMember_p124 (ao aa : Nat → Nat) {X : g_X} (hC : gC X c_Mod_hasMember R_Mod 5 106 5 (some .boolean)) (N : Nat) (σ : g_S) (r : Int32) (σe : g_S) (hf : Mod_hasMember_b124 N σ = some (r, σe)) : gw X (.inl (some (.int r))) (LM ao aa X.2.2.1 σe) (LM ao aa X.2.2.1 σ) [(0, .ref (ao 0))] 124 [] := by
  unfold Mod_hasMember_b124 at hf
  refine gw_iconst hC 0 d_Mod_hasMember_124 (by decide) ?_
  exact Mod_hasMember_p125 ao aa hC N _ _ _ _ hf
def Mod_hasMember_b109 (N : Nat) (x1 : Int32) (σ : g_S) : Option (Int32 × g_S) := (Mod_isMember N x1 181 σ).bind fun q114 => if q114.1 = 0 then Mod_hasMember_b124 N q114.2 else Mod_hasMember_b120 N q114.2
theorem Mod_hasMember_p109 (ao aa : Nat → Nat) {X : g_X} (hC : gC X c_Mod_hasMember R_Mod 5 106 5 (some .boolean)) (N : Nat) (x1 : Int32) (σ : g_S) (r : Int32) (σe : g_S) (hf : Mod_hasMember_b109 N x1 σ = some (r, σe)) : gw X (.inl (some (.int r))) (LM ao aa X.2.2.1 σe) (LM ao aa X.2.2.1 σ) [(0, .ref (ao 0)), (1, .int x1)] 109 [] := by
  unfold Mod_hasMember_b109 at hf
  refine gw_aload_n hC 0 d_Mod_hasMember_109 rfl rfl ?_
  refine gw_iload_n hC 1 d_Mod_hasMember_110 rfl rfl ?_
  refine gw_sipush hC 181 d_Mod_hasMember_111 (by decide) ?_
  obtain ⟨q114, hq114, hf⟩ := g_bind hf
  refine gw_callV hC [.int x1, .int 181] [] (Mod_isMember_m _ _ _ ao aa N _ _ _ _ _ hq114) kc_Mod_257 0 (g_lay_obj rfl) rfl rfl ⟨by decide, by decide⟩ (Nat.le_of_ble_eq_true rfl) [.int 181, .int x1, .ref (ao 0)] [.int q114.1] rfl rfl d_Mod_hasMember_114 ?_
  refine gw_if_eq hC 124 d_Mod_hasMember_117 (by decide) (fun hh => ?_) (fun hh => ?_)
  · rw [if_pos hh] at hf
    refine gw_lv [0] rfl ?_
    exact Mod_hasMember_p124 ao aa hC N _ _ _ hf
  · rw [if_neg hh] at hf
    refine gw_lv [0] rfl ?_
    exact Mod_hasMember_p120 ao aa hC N _ _ _ hf
def Mod_hasMember_b102 (N : Nat) (x1 : Int32) (x3 : Int32) (σ : g_S) : Option (Int32 × g_S) := if x3 = 924 then Mod_hasMember_b109 N x1 σ else Mod_hasMember_b124 N σ
theorem Mod_hasMember_p102 (ao aa : Nat → Nat) {X : g_X} (hC : gC X c_Mod_hasMember R_Mod 5 106 5 (some .boolean)) (N : Nat) (x1 : Int32) (x3 : Int32) (σ : g_S) (r : Int32) (σe : g_S) (hf : Mod_hasMember_b102 N x1 x3 σ = some (r, σe)) : gw X (.inl (some (.int r))) (LM ao aa X.2.2.1 σe) (LM ao aa X.2.2.1 σ) [(0, .ref (ao 0)), (1, .int x1), (3, .int x3)] 102 [] := by
  unfold Mod_hasMember_b102 at hf
  refine gw_iload_n hC 2 d_Mod_hasMember_102 rfl rfl ?_
  refine gw_sipush hC 924 d_Mod_hasMember_103 (by decide) ?_
  refine gw_icmp_ne hC 124 d_Mod_hasMember_106 (by decide) (fun hh => ?_) (fun hh => ?_)
  · rw [if_neg hh] at hf
    refine gw_lv [0] rfl ?_
    exact Mod_hasMember_p124 ao aa hC N _ _ _ hf
  · rw [if_pos hh] at hf
    refine gw_lv [0, 1] rfl ?_
    exact Mod_hasMember_p109 ao aa hC N _ _ _ _ hf
def Mod_hasMember_b91 (N : Nat) (x1 : Int32) (x3 : Int32) (σ : g_S) : Option (Int32 × g_S) := (Mod_isMember N x1 255 σ).bind fun q96 => if q96.1 = 0 then Mod_hasMember_b102 N x1 x3 q96.2 else Mod_hasMember_b120 N q96.2
theorem Mod_hasMember_p91 (ao aa : Nat → Nat) {X : g_X} (hC : gC X c_Mod_hasMember R_Mod 5 106 5 (some .boolean)) (N : Nat) (x1 : Int32) (x3 : Int32) (σ : g_S) (r : Int32) (σe : g_S) (hf : Mod_hasMember_b91 N x1 x3 σ = some (r, σe)) : gw X (.inl (some (.int r))) (LM ao aa X.2.2.1 σe) (LM ao aa X.2.2.1 σ) [(0, .ref (ao 0)), (1, .int x1), (3, .int x3)] 91 [] := by
  unfold Mod_hasMember_b91 at hf
  refine gw_aload_n hC 0 d_Mod_hasMember_91 rfl rfl ?_
  refine gw_iload_n hC 1 d_Mod_hasMember_92 rfl rfl ?_
  refine gw_sipush hC 255 d_Mod_hasMember_93 (by decide) ?_
  obtain ⟨q96, hq96, hf⟩ := g_bind hf
  refine gw_callV hC [.int x1, .int 255] [] (Mod_isMember_m _ _ _ ao aa N _ _ _ _ _ hq96) kc_Mod_257 0 (g_lay_obj rfl) rfl rfl ⟨by decide, by decide⟩ (Nat.le_of_ble_eq_true rfl) [.int 255, .int x1, .ref (ao 0)] [.int q96.1] rfl rfl d_Mod_hasMember_96 ?_
  refine gw_if_ne hC 120 d_Mod_hasMember_99 (by decide) (fun hh => ?_) (fun hh => ?_)
  · rw [if_neg hh] at hf
    refine gw_lv [0] rfl ?_
    exact Mod_hasMember_p120 ao aa hC N _ _ _ hf
  · rw [if_pos hh] at hf
    exact Mod_hasMember_p102 ao aa hC N _ _ _ _ _ hf
def Mod_hasMember_b84 (N : Nat) (x1 : Int32) (x3 : Int32) (σ : g_S) : Option (Int32 × g_S) := if x3 = 376 then Mod_hasMember_b91 N x1 x3 σ else Mod_hasMember_b102 N x1 x3 σ
theorem Mod_hasMember_p84 (ao aa : Nat → Nat) {X : g_X} (hC : gC X c_Mod_hasMember R_Mod 5 106 5 (some .boolean)) (N : Nat) (x1 : Int32) (x3 : Int32) (σ : g_S) (r : Int32) (σe : g_S) (hf : Mod_hasMember_b84 N x1 x3 σ = some (r, σe)) : gw X (.inl (some (.int r))) (LM ao aa X.2.2.1 σe) (LM ao aa X.2.2.1 σ) [(0, .ref (ao 0)), (1, .int x1), (3, .int x3)] 84 [] := by
  unfold Mod_hasMember_b84 at hf
  refine gw_iload_n hC 2 d_Mod_hasMember_84 rfl rfl ?_
  refine gw_sipush hC 376 d_Mod_hasMember_85 (by decide) ?_
  refine gw_icmp_ne hC 102 d_Mod_hasMember_88 (by decide) (fun hh => ?_) (fun hh => ?_)
  · rw [if_neg hh] at hf
    exact Mod_hasMember_p102 ao aa hC N _ _ _ _ _ hf
  · rw [if_pos hh] at hf
    exact Mod_hasMember_p91 ao aa hC N _ _ _ _ _ hf
def Mod_hasMember_b79 (N : Nat) (x1 : Int32) (x3 : Int32) (x4 : Int32) (σ : g_S) : Option (Int32 × g_S) := if x4 = 0 then Mod_hasMember_b84 N x1 x3 σ else Mod_hasMember_b120 N σ
theorem Mod_hasMember_p79 (ao aa : Nat → Nat) {X : g_X} (hC : gC X c_Mod_hasMember R_Mod 5 106 5 (some .boolean)) (N : Nat) (x1 : Int32) (x3 : Int32) (x4 : Int32) (σ : g_S) (r : Int32) (σe : g_S) (hf : Mod_hasMember_b79 N x1 x3 x4 σ = some (r, σe)) : gw X (.inl (some (.int r))) (LM ao aa X.2.2.1 σe) (LM ao aa X.2.2.1 σ) [(0, .ref (ao 0)), (1, .int x1), (3, .int x3), (4, .int x4)] 79 [] := by
  unfold Mod_hasMember_b79 at hf
  refine gw_iload hC 3 d_Mod_hasMember_79 rfl ?_
  refine gw_if_ne hC 120 d_Mod_hasMember_81 (by decide) (fun hh => ?_) (fun hh => ?_)
  · rw [if_neg hh] at hf
    refine gw_lv [0] rfl ?_
    exact Mod_hasMember_p120 ao aa hC N _ _ _ hf
  · rw [if_pos hh] at hf
    refine gw_lv [0, 1, 2] rfl ?_
    exact Mod_hasMember_p84 ao aa hC N _ _ _ _ _ hf
def Mod_hasMember_b77 (N : Nat) (x1 : Int32) (x3 : Int32) (s0 : Int32) (σ : g_S) : Option (Int32 × g_S) := Mod_hasMember_b79 N x1 x3 s0 σ
theorem Mod_hasMember_p77 (ao aa : Nat → Nat) {X : g_X} (hC : gC X c_Mod_hasMember R_Mod 5 106 5 (some .boolean)) (N : Nat) (x1 : Int32) (x3 : Int32) (s0 : Int32) (σ : g_S) (r : Int32) (σe : g_S) (hf : Mod_hasMember_b77 N x1 x3 s0 σ = some (r, σe)) : gw X (.inl (some (.int r))) (LM ao aa X.2.2.1 σe) (LM ao aa X.2.2.1 σ) [(0, .ref (ao 0)), (1, .int x1), (3, .int x3)] 77 [.int s0] := by
  unfold Mod_hasMember_b77 at hf
  refine gw_istore hC [(4, .int s0), (0, .ref (ao 0)), (1, .int x1), (3, .int x3)] d_Mod_hasMember_77 (by decide) rfl ?_
  refine gw_lv [1, 2, 3, 0] rfl ?_
  exact Mod_hasMember_p79 ao aa hC N _ _ _ _ _ _ hf
def Mod_hasMember_b72 (N : Nat) (x1 : Int32) (x3 : Int32) (σ : g_S) : Option (Int32 × g_S) := Mod_hasMember_b77 N x1 x3 1 σ
theorem Mod_hasMember_p72 (ao aa : Nat → Nat) {X : g_X} (hC : gC X c_Mod_hasMember R_Mod 5 106 5 (some .boolean)) (N : Nat) (x1 : Int32) (x3 : Int32) (σ : g_S) (r : Int32) (σe : g_S) (hf : Mod_hasMember_b72 N x1 x3 σ = some (r, σe)) : gw X (.inl (some (.int r))) (LM ao aa X.2.2.1 σe) (LM ao aa X.2.2.1 σ) [(0, .ref (ao 0)), (1, .int x1), (3, .int x3)] 72 [] := by
  unfold Mod_hasMember_b72 at hf
  refine gw_iconst hC 1 d_Mod_hasMember_72 (by decide) ?_
  refine gw_goto hC 77 d_Mod_hasMember_73 (by decide) ?_
  exact Mod_hasMember_p77 ao aa hC N _ _ _ _ _ _ hf
def Mod_hasMember_b76 (N : Nat) (x1 : Int32) (x3 : Int32) (σ : g_S) : Option (Int32 × g_S) := Mod_hasMember_b77 N x1 x3 0 σ
theorem Mod_hasMember_p76 (ao aa : Nat → Nat) {X : g_X} (hC : gC X c_Mod_hasMember R_Mod 5 106 5 (some .boolean)) (N : Nat) (x1 : Int32) (x3 : Int32) (σ : g_S) (r : Int32) (σe : g_S) (hf : Mod_hasMember_b76 N x1 x3 σ = some (r, σe)) : gw X (.inl (some (.int r))) (LM ao aa X.2.2.1 σe) (LM ao aa X.2.2.1 σ) [(0, .ref (ao 0)), (1, .int x1), (3, .int x3)] 76 [] := by
  unfold Mod_hasMember_b76 at hf
  refine gw_iconst hC 0 d_Mod_hasMember_76 (by decide) ?_
  exact Mod_hasMember_p77 ao aa hC N _ _ _ _ _ _ hf
def Mod_hasMember_b60 (N : Nat) (x1 : Int32) (x3 : Int32) (σ : g_S) : Option (Int32 × g_S) := (Mod_isMember N x1 (x3 + 32) σ).bind fun q66 => if q66.1 = 0 then Mod_hasMember_b76 N x1 x3 q66.2 else Mod_hasMember_b72 N x1 x3 q66.2
theorem Mod_hasMember_p60 (ao aa : Nat → Nat) {X : g_X} (hC : gC X c_Mod_hasMember R_Mod 5 106 5 (some .boolean)) (N : Nat) (x1 : Int32) (x3 : Int32) (σ : g_S) (r : Int32) (σe : g_S) (hf : Mod_hasMember_b60 N x1 x3 σ = some (r, σe)) : gw X (.inl (some (.int r))) (LM ao aa X.2.2.1 σe) (LM ao aa X.2.2.1 σ) [(0, .ref (ao 0)), (1, .int x1), (3, .int x3)] 60 [] := by
  unfold Mod_hasMember_b60 at hf
  refine gw_aload_n hC 0 d_Mod_hasMember_60 rfl rfl ?_
  refine gw_iload_n hC 1 d_Mod_hasMember_61 rfl rfl ?_
  refine gw_iload_n hC 2 d_Mod_hasMember_62 rfl rfl ?_
  refine gw_bipush hC 32 d_Mod_hasMember_63 (by decide) ?_
  refine gw_iadd hC d_Mod_hasMember_65 ?_
  obtain ⟨q66, hq66, hf⟩ := g_bind hf
  refine gw_callV hC [.int x1, .int (x3 + 32)] [] (Mod_isMember_m _ _ _ ao aa N _ _ _ _ _ hq66) kc_Mod_257 0 (g_lay_obj rfl) rfl rfl ⟨by decide, by decide⟩ (Nat.le_of_ble_eq_true rfl) [.int (x3 + 32), .int x1, .ref (ao 0)] [.int q66.1] rfl rfl d_Mod_hasMember_66 ?_
  refine gw_if_eq hC 76 d_Mod_hasMember_69 (by decide) (fun hh => ?_) (fun hh => ?_)
  · rw [if_pos hh] at hf
    exact Mod_hasMember_p76 ao aa hC N _ _ _ _ _ hf
  · rw [if_neg hh] at hf
    exact Mod_hasMember_p72 ao aa hC N _ _ _ _ _ hf
def Mod_hasMember_b55 (N : Nat) (x1 : Int32) (x3 : Int32) (x4 : Int32) (σ : g_S) : Option (Int32 × g_S) := if x4 = 0 then Mod_hasMember_b60 N x1 x3 σ else Mod_hasMember_b72 N x1 x3 σ
theorem Mod_hasMember_p55 (ao aa : Nat → Nat) {X : g_X} (hC : gC X c_Mod_hasMember R_Mod 5 106 5 (some .boolean)) (N : Nat) (x1 : Int32) (x3 : Int32) (x4 : Int32) (σ : g_S) (r : Int32) (σe : g_S) (hf : Mod_hasMember_b55 N x1 x3 x4 σ = some (r, σe)) : gw X (.inl (some (.int r))) (LM ao aa X.2.2.1 σe) (LM ao aa X.2.2.1 σ) [(0, .ref (ao 0)), (1, .int x1), (3, .int x3), (4, .int x4)] 55 [] := by
  unfold Mod_hasMember_b55 at hf
  refine gw_iload hC 3 d_Mod_hasMember_55 rfl ?_
  refine gw_if_ne hC 72 d_Mod_hasMember_57 (by decide) (fun hh => ?_) (fun hh => ?_)
  · rw [if_neg hh] at hf
    refine gw_lv [0, 1, 2] rfl ?_
    exact Mod_hasMember_p72 ao aa hC N _ _ _ _ _ hf
  · rw [if_pos hh] at hf
    refine gw_lv [0, 1, 2] rfl ?_
    exact Mod_hasMember_p60 ao aa hC N _ _ _ _ _ hf
def Mod_hasMember_b42 (N : Nat) (x1 : Int32) (x3 : Int32) (s0 : Int32) (σ : g_S) : Option (Int32 × g_S) := (Mod_upper N (x3 + 32) σ).bind fun q48 => if q48.1 = x3 then Mod_hasMember_b55 N x1 x3 s0 q48.2 else Mod_hasMember_b79 N x1 x3 s0 q48.2
theorem Mod_hasMember_p42 (ao aa : Nat → Nat) {X : g_X} (hC : gC X c_Mod_hasMember R_Mod 5 106 5 (some .boolean)) (N : Nat) (x1 : Int32) (x3 : Int32) (s0 : Int32) (σ : g_S) (r : Int32) (σe : g_S) (hf : Mod_hasMember_b42 N x1 x3 s0 σ = some (r, σe)) : gw X (.inl (some (.int r))) (LM ao aa X.2.2.1 σe) (LM ao aa X.2.2.1 σ) [(0, .ref (ao 0)), (1, .int x1), (3, .int x3)] 42 [.int s0] := by
  unfold Mod_hasMember_b42 at hf
  refine gw_istore hC [(4, .int s0), (0, .ref (ao 0)), (1, .int x1), (3, .int x3)] d_Mod_hasMember_42 (by decide) rfl ?_
  refine gw_iload_n hC 3 d_Mod_hasMember_44 rfl rfl ?_
  refine gw_bipush hC 32 d_Mod_hasMember_45 (by decide) ?_
  refine gw_iadd hC d_Mod_hasMember_47 ?_
  obtain ⟨q48, hq48, hf⟩ := g_bind hf
  refine gw_callS hC [.int (x3 + 32)] [] (Mod_upper_m _ _ _ ao aa N _ _ _ _ hq48) kc_Mod_260 ⟨by decide, by decide⟩ (Nat.le_of_ble_eq_true rfl) [.int (x3 + 32)] [.int q48.1] rfl rfl d_Mod_hasMember_48 ?_
  refine gw_iload_n hC 3 d_Mod_hasMember_51 rfl rfl ?_
  refine gw_icmp_ne hC 79 d_Mod_hasMember_52 (by decide) (fun hh => ?_) (fun hh => ?_)
  · rw [if_neg hh] at hf
    refine gw_lv [1, 2, 3, 0] rfl ?_
    exact Mod_hasMember_p79 ao aa hC N _ _ _ _ _ _ hf
  · rw [if_pos hh] at hf
    refine gw_lv [1, 2, 3, 0] rfl ?_
    exact Mod_hasMember_p55 ao aa hC N _ _ _ _ _ _ hf
def Mod_hasMember_b37 (N : Nat) (x1 : Int32) (x3 : Int32) (σ : g_S) : Option (Int32 × g_S) := Mod_hasMember_b42 N x1 x3 1 σ
theorem Mod_hasMember_p37 (ao aa : Nat → Nat) {X : g_X} (hC : gC X c_Mod_hasMember R_Mod 5 106 5 (some .boolean)) (N : Nat) (x1 : Int32) (x3 : Int32) (σ : g_S) (r : Int32) (σe : g_S) (hf : Mod_hasMember_b37 N x1 x3 σ = some (r, σe)) : gw X (.inl (some (.int r))) (LM ao aa X.2.2.1 σe) (LM ao aa X.2.2.1 σ) [(0, .ref (ao 0)), (1, .int x1), (3, .int x3)] 37 [] := by
  unfold Mod_hasMember_b37 at hf
  refine gw_iconst hC 1 d_Mod_hasMember_37 (by decide) ?_
  refine gw_goto hC 42 d_Mod_hasMember_38 (by decide) ?_
  exact Mod_hasMember_p42 ao aa hC N _ _ _ _ _ _ hf
def Mod_hasMember_b41 (N : Nat) (x1 : Int32) (x3 : Int32) (σ : g_S) : Option (Int32 × g_S) := Mod_hasMember_b42 N x1 x3 0 σ
theorem Mod_hasMember_p41 (ao aa : Nat → Nat) {X : g_X} (hC : gC X c_Mod_hasMember R_Mod 5 106 5 (some .boolean)) (N : Nat) (x1 : Int32) (x3 : Int32) (σ : g_S) (r : Int32) (σe : g_S) (hf : Mod_hasMember_b41 N x1 x3 σ = some (r, σe)) : gw X (.inl (some (.int r))) (LM ao aa X.2.2.1 σe) (LM ao aa X.2.2.1 σ) [(0, .ref (ao 0)), (1, .int x1), (3, .int x3)] 41 [] := by
  unfold Mod_hasMember_b41 at hf
  refine gw_iconst hC 0 d_Mod_hasMember_41 (by decide) ?_
  exact Mod_hasMember_p42 ao aa hC N _ _ _ _ _ _ hf
def Mod_hasMember_b28 (N : Nat) (x1 : Int32) (x3 : Int32) (σ : g_S) : Option (Int32 × g_S) := (Mod_isMember N x1 x3 σ).bind fun q31 => if q31.1 = 0 then Mod_hasMember_b41 N x1 x3 q31.2 else Mod_hasMember_b37 N x1 x3 q31.2
theorem Mod_hasMember_p28 (ao aa : Nat → Nat) {X : g_X} (hC : gC X c_Mod_hasMember R_Mod 5 106 5 (some .boolean)) (N : Nat) (x1 : Int32) (x3 : Int32) (σ : g_S) (r : Int32) (σe : g_S) (hf : Mod_hasMember_b28 N x1 x3 σ = some (r, σe)) : gw X (.inl (some (.int r))) (LM ao aa X.2.2.1 σe) (LM ao aa X.2.2.1 σ) [(0, .ref (ao 0)), (1, .int x1), (3, .int x3)] 28 [] := by
  unfold Mod_hasMember_b28 at hf
  refine gw_aload_n hC 0 d_Mod_hasMember_28 rfl rfl ?_
  refine gw_iload_n hC 1 d_Mod_hasMember_29 rfl rfl ?_
  refine gw_iload_n hC 2 d_Mod_hasMember_30 rfl rfl ?_
  obtain ⟨q31, hq31, hf⟩ := g_bind hf
  refine gw_callV hC [.int x1, .int x3] [] (Mod_isMember_m _ _ _ ao aa N _ _ _ _ _ hq31) kc_Mod_257 0 (g_lay_obj rfl) rfl rfl ⟨by decide, by decide⟩ (Nat.le_of_ble_eq_true rfl) [.int x3, .int x1, .ref (ao 0)] [.int q31.1] rfl rfl d_Mod_hasMember_31 ?_
  refine gw_if_eq hC 41 d_Mod_hasMember_34 (by decide) (fun hh => ?_) (fun hh => ?_)
  · rw [if_pos hh] at hf
    exact Mod_hasMember_p41 ao aa hC N _ _ _ _ _ hf
  · rw [if_neg hh] at hf
    exact Mod_hasMember_p37 ao aa hC N _ _ _ _ _ hf
def Mod_hasMember_b14 (N : Nat) (x1 : Int32) (x2 : Int32) (σ : g_S) : Option (Int32 × g_S) := (Mod_upper N x2 σ).bind fun q15 => (Mod_isMember N x1 x2 q15.2).bind fun q22 => if q22.1 = 0 then Mod_hasMember_b28 N x1 q15.1 q22.2 else Mod_hasMember_b37 N x1 q15.1 q22.2
theorem Mod_hasMember_p14 (ao aa : Nat → Nat) {X : g_X} (hC : gC X c_Mod_hasMember R_Mod 5 106 5 (some .boolean)) (N : Nat) (x1 : Int32) (x2 : Int32) (σ : g_S) (r : Int32) (σe : g_S) (hf : Mod_hasMember_b14 N x1 x2 σ = some (r, σe)) : gw X (.inl (some (.int r))) (LM ao aa X.2.2.1 σe) (LM ao aa X.2.2.1 σ) [(0, .ref (ao 0)), (1, .int x1), (2, .int x2)] 14 [] := by
  unfold Mod_hasMember_b14 at hf
  refine gw_iload_n hC 2 d_Mod_hasMember_14 rfl rfl ?_
  obtain ⟨q15, hq15, hf⟩ := g_bind hf
  refine gw_callS hC [.int x2] [] (Mod_upper_m _ _ _ ao aa N _ _ _ _ hq15) kc_Mod_260 ⟨by decide, by decide⟩ (Nat.le_of_ble_eq_true rfl) [.int x2] [.int q15.1] rfl rfl d_Mod_hasMember_15 ?_
  refine gw_istore_n hC [(3, .int q15.1), (0, .ref (ao 0)), (1, .int x1), (2, .int x2)] d_Mod_hasMember_18 rfl (by decide) rfl ?_
  refine gw_aload_n hC 1 d_Mod_hasMember_19 rfl rfl ?_
  refine gw_iload_n hC 2 d_Mod_hasMember_20 rfl rfl ?_
  refine gw_iload_n hC 3 d_Mod_hasMember_21 rfl rfl ?_
  obtain ⟨q22, hq22, hf⟩ := g_bind hf
  refine gw_callV hC [.int x1, .int x2] [] (Mod_isMember_m _ _ _ ao aa N _ _ _ _ _ hq22) kc_Mod_257 0 (g_lay_obj rfl) rfl rfl ⟨by decide, by decide⟩ (Nat.le_of_ble_eq_true rfl) [.int x2, .int x1, .ref (ao 0)] [.int q22.1] rfl rfl d_Mod_hasMember_22 ?_
  refine gw_if_ne hC 37 d_Mod_hasMember_25 (by decide) (fun hh => ?_) (fun hh => ?_)
  · rw [if_neg hh] at hf
    refine gw_lv [1, 2, 0] rfl ?_
    exact Mod_hasMember_p37 ao aa hC N _ _ _ _ _ hf
  · rw [if_pos hh] at hf
    refine gw_lv [1, 2, 0] rfl ?_
    exact Mod_hasMember_p28 ao aa hC N _ _ _ _ _ hf
def Mod_hasMember_b7 (N : Nat) (x1 : Int32) (x2 : Int32) (σ : g_S) : Option (Int32 × g_S) := (Mod_isMember N x1 x2 σ).bind fun q10 => if gB q10.1 = true then some (q10.1, q10.2) else none
theorem Mod_hasMember_p7 (ao aa : Nat → Nat) {X : g_X} (hC : gC X c_Mod_hasMember R_Mod 5 106 5 (some .boolean)) (N : Nat) (x1 : Int32) (x2 : Int32) (σ : g_S) (r : Int32) (σe : g_S) (hf : Mod_hasMember_b7 N x1 x2 σ = some (r, σe)) : gw X (.inl (some (.int r))) (LM ao aa X.2.2.1 σe) (LM ao aa X.2.2.1 σ) [(0, .ref (ao 0)), (1, .int x1), (2, .int x2)] 7 [] := by
  unfold Mod_hasMember_b7 at hf
  refine gw_aload_n hC 0 d_Mod_hasMember_7 rfl rfl ?_
  refine gw_iload_n hC 1 d_Mod_hasMember_8 rfl rfl ?_
  refine gw_iload_n hC 2 d_Mod_hasMember_9 rfl rfl ?_
  obtain ⟨q10, hq10, hf⟩ := g_bind hf
  refine gw_callV hC [.int x1, .int x2] [] (Mod_isMember_m _ _ _ ao aa N _ _ _ _ _ hq10) kc_Mod_257 0 (g_lay_obj rfl) rfl rfl ⟨by decide, by decide⟩ (Nat.le_of_ble_eq_true rfl) [.int x2, .int x1, .ref (ao 0)] [.int q10.1] rfl rfl d_Mod_hasMember_10 ?_
  obtain ⟨hg13, hf⟩ := g_guard hf
  cases hf
  exact gw_zret hC hg13 d_Mod_hasMember_13
def Mod_hasMember_b0 (N : Nat) (x1 : Int32) (x2 : Int32) (σ : g_S) : Option (Int32 × g_S) := if (σ.1 3) = 0 then Mod_hasMember_b7 N x1 x2 σ else Mod_hasMember_b14 N x1 x2 σ
theorem Mod_hasMember_p0 (ao aa : Nat → Nat) {X : g_X} (hC : gC X c_Mod_hasMember R_Mod 5 106 5 (some .boolean)) (N : Nat) (x1 : Int32) (x2 : Int32) (σ : g_S) (r : Int32) (σe : g_S) (hf : Mod_hasMember_b0 N x1 x2 σ = some (r, σe)) : gw X (.inl (some (.int r))) (LM ao aa X.2.2.1 σe) (LM ao aa X.2.2.1 σ) [(0, .ref (ao 0)), (1, .int x1), (2, .int x2)] 0 [] := by
  unfold Mod_hasMember_b0 at hf
  refine gw_aload_n hC 0 d_Mod_hasMember_0 rfl rfl ?_
  refine Mg3 hC kf_Mod_229 d_Mod_hasMember_1 (σ.1 3) rfl ?_
  refine gw_if_ne hC 14 d_Mod_hasMember_4 (by decide) (fun hh => ?_) (fun hh => ?_)
  · rw [if_neg hh] at hf
    exact Mod_hasMember_p14 ao aa hC N _ _ _ _ _ hf
  · rw [if_pos hh] at hf
    exact Mod_hasMember_p7 ao aa hC N _ _ _ _ _ hf
def Mod_hasMember (N : Nat) (x1 : Int32) (x2 : Int32) (σ : g_S) : Option (Int32 × g_S) := Mod_hasMember_b0 N x1 x2 σ
theorem Mod_hasMember_m (l : Launch) (D : va_G) (cA : ClassId) (ao aa : Nat → Nat) (N : Nat) (x1 : Int32) (x2 : Int32) (σ : g_S) (r : Int32) (σe : g_S) (hf : Mod_hasMember N x1 x2 σ = some (r, σe)) : Mt l D cA y_Mod_hasMember c_Mod_hasMember 5 (some .boolean) 5 106 [.ref (ao 0), .int x1, .int x2] (LM ao aa cA σ) (some (.int r)) (LM ao aa cA σe) := by
  refine g_met (by decide +kernel) (by simp [lg_sl, Value.category]) (fun X e1 e2 e3 hC => ?_)
  subst e1 e2 e3
  refine gw_lv [0, 1, 2] rfl ?_
  exact Mod_hasMember_p0 ao aa hC N _ _ _ (r) _ hf
def Mod_isSame_b28 (N : Nat) (s0 : Int32) (σ : g_S) : Option (Int32 × g_S) := if gB s0 = true then some (s0, σ) else none
theorem Mod_isSame_p28 (ao aa : Nat → Nat) {X : g_X} (hC : gC X c_Mod_isSame R_Mod 2 42 3 (some .boolean)) (N : Nat) (s0 : Int32) (σ : g_S) (r : Int32) (σe : g_S) (hf : Mod_isSame_b28 N s0 σ = some (r, σe)) : gw X (.inl (some (.int r))) (LM ao aa X.2.2.1 σe) (LM ao aa X.2.2.1 σ) [(0, .ref (ao 0))] 28 [.int s0] := by
  unfold Mod_isSame_b28 at hf
  obtain ⟨hg28, hf⟩ := g_guard hf
  cases hf
  exact gw_zret hC hg28 d_Mod_isSame_28
def Mod_isSame_b23 (N : Nat) (σ : g_S) : Option (Int32 × g_S) := Mod_isSame_b28 N 1 σ
theorem Mod_isSame_p23 (ao aa : Nat → Nat) {X : g_X} (hC : gC X c_Mod_isSame R_Mod 2 42 3 (some .boolean)) (N : Nat) (σ : g_S) (r : Int32) (σe : g_S) (hf : Mod_isSame_b23 N σ = some (r, σe)) : gw X (.inl (some (.int r))) (LM ao aa X.2.2.1 σe) (LM ao aa X.2.2.1 σ) [(0, .ref (ao 0))] 23 [] := by
  unfold Mod_isSame_b23 at hf
  refine gw_iconst hC 1 d_Mod_isSame_23 (by decide) ?_
  refine gw_goto hC 28 d_Mod_isSame_24 (by decide) ?_
  exact Mod_isSame_p28 ao aa hC N _ _ _ _ hf
def Mod_isSame_b27 (N : Nat) (σ : g_S) : Option (Int32 × g_S) := Mod_isSame_b28 N 0 σ
theorem Mod_isSame_p27 (ao aa : Nat → Nat) {X : g_X} (hC : gC X c_Mod_isSame R_Mod 2 42 3 (some .boolean)) (N : Nat) (σ : g_S) (r : Int32) (σe : g_S) (hf : Mod_isSame_b27 N σ = some (r, σe)) : gw X (.inl (some (.int r))) (LM ao aa X.2.2.1 σe) (LM ao aa X.2.2.1 σ) [(0, .ref (ao 0))] 27 [] := by
  unfold Mod_isSame_b27 at hf
  refine gw_iconst hC 0 d_Mod_isSame_27 (by decide) ?_
  exact Mod_isSame_p28 ao aa hC N _ _ _ _ hf
def Mod_isSame_b12 (N : Nat) (x1 : Int32) (x2 : Int32) (σ : g_S) : Option (Int32 × g_S) := (Mod_upper N x1 σ).bind fun q13 => (Mod_upper N x2 q13.2).bind fun q17 => if q13.1 = q17.1 then Mod_isSame_b23 N q17.2 else Mod_isSame_b27 N q17.2
theorem Mod_isSame_p12 (ao aa : Nat → Nat) {X : g_X} (hC : gC X c_Mod_isSame R_Mod 2 42 3 (some .boolean)) (N : Nat) (x1 : Int32) (x2 : Int32) (σ : g_S) (r : Int32) (σe : g_S) (hf : Mod_isSame_b12 N x1 x2 σ = some (r, σe)) : gw X (.inl (some (.int r))) (LM ao aa X.2.2.1 σe) (LM ao aa X.2.2.1 σ) [(0, .ref (ao 0)), (1, .int x1), (2, .int x2)] 12 [] := by
  unfold Mod_isSame_b12 at hf
  refine gw_iload_n hC 1 d_Mod_isSame_12 rfl rfl ?_
  obtain ⟨q13, hq13, hf⟩ := g_bind hf
  refine gw_callS hC [.int x1] [] (Mod_upper_m _ _ _ ao aa N _ _ _ _ hq13) kc_Mod_260 ⟨by decide, by decide⟩ (Nat.le_of_ble_eq_true rfl) [.int x1] [.int q13.1] rfl rfl d_Mod_isSame_13 ?_
  refine gw_iload_n hC 2 d_Mod_isSame_16 rfl rfl ?_
  obtain ⟨q17, hq17, hf⟩ := g_bind hf
  refine gw_callS hC [.int x2] [.int q13.1] (Mod_upper_m _ _ _ ao aa N _ _ _ _ hq17) kc_Mod_260 ⟨by decide, by decide⟩ (Nat.le_of_ble_eq_true rfl) [.int x2, .int q13.1] [.int q17.1, .int q13.1] rfl rfl d_Mod_isSame_17 ?_
  refine gw_icmp_ne hC 27 d_Mod_isSame_20 (by decide) (fun hh => ?_) (fun hh => ?_)
  · rw [if_neg hh] at hf
    refine gw_lv [0] rfl ?_
    exact Mod_isSame_p27 ao aa hC N _ _ _ hf
  · rw [if_pos hh] at hf
    refine gw_lv [0] rfl ?_
    exact Mod_isSame_p23 ao aa hC N _ _ _ hf
def Mod_isSame_b5 (N : Nat) (x1 : Int32) (x2 : Int32) (σ : g_S) : Option (Int32 × g_S) := if (σ.1 3) = 0 then Mod_isSame_b27 N σ else Mod_isSame_b12 N x1 x2 σ
theorem Mod_isSame_p5 (ao aa : Nat → Nat) {X : g_X} (hC : gC X c_Mod_isSame R_Mod 2 42 3 (some .boolean)) (N : Nat) (x1 : Int32) (x2 : Int32) (σ : g_S) (r : Int32) (σe : g_S) (hf : Mod_isSame_b5 N x1 x2 σ = some (r, σe)) : gw X (.inl (some (.int r))) (LM ao aa X.2.2.1 σe) (LM ao aa X.2.2.1 σ) [(0, .ref (ao 0)), (1, .int x1), (2, .int x2)] 5 [] := by
  unfold Mod_isSame_b5 at hf
  refine gw_aload_n hC 0 d_Mod_isSame_5 rfl rfl ?_
  refine Mg3 hC kf_Mod_229 d_Mod_isSame_6 (σ.1 3) rfl ?_
  refine gw_if_eq hC 27 d_Mod_isSame_9 (by decide) (fun hh => ?_) (fun hh => ?_)
  · rw [if_pos hh] at hf
    refine gw_lv [0] rfl ?_
    exact Mod_isSame_p27 ao aa hC N _ _ _ hf
  · rw [if_neg hh] at hf
    exact Mod_isSame_p12 ao aa hC N _ _ _ _ _ hf
def Mod_isSame_b0 (N : Nat) (x1 : Int32) (x2 : Int32) (σ : g_S) : Option (Int32 × g_S) := if x1 = x2 then Mod_isSame_b23 N σ else Mod_isSame_b5 N x1 x2 σ
theorem Mod_isSame_p0 (ao aa : Nat → Nat) {X : g_X} (hC : gC X c_Mod_isSame R_Mod 2 42 3 (some .boolean)) (N : Nat) (x1 : Int32) (x2 : Int32) (σ : g_S) (r : Int32) (σe : g_S) (hf : Mod_isSame_b0 N x1 x2 σ = some (r, σe)) : gw X (.inl (some (.int r))) (LM ao aa X.2.2.1 σe) (LM ao aa X.2.2.1 σ) [(0, .ref (ao 0)), (1, .int x1), (2, .int x2)] 0 [] := by
  unfold Mod_isSame_b0 at hf
  refine gw_iload_n hC 1 d_Mod_isSame_0 rfl rfl ?_
  refine gw_iload_n hC 2 d_Mod_isSame_1 rfl rfl ?_
  refine gw_icmp_eq hC 23 d_Mod_isSame_2 (by decide) (fun hh => ?_) (fun hh => ?_)
  · rw [if_pos hh] at hf
    refine gw_lv [0] rfl ?_
    exact Mod_isSame_p23 ao aa hC N _ _ _ hf
  · rw [if_neg hh] at hf
    exact Mod_isSame_p5 ao aa hC N _ _ _ _ _ hf
def Mod_isSame (N : Nat) (x1 : Int32) (x2 : Int32) (σ : g_S) : Option (Int32 × g_S) := Mod_isSame_b0 N x1 x2 σ
theorem Mod_isSame_m (l : Launch) (D : va_G) (cA : ClassId) (ao aa : Nat → Nat) (N : Nat) (x1 : Int32) (x2 : Int32) (σ : g_S) (r : Int32) (σe : g_S) (hf : Mod_isSame N x1 x2 σ = some (r, σe)) : Mt l D cA y_Mod_isSame c_Mod_isSame 3 (some .boolean) 2 42 [.ref (ao 0), .int x1, .int x2] (LM ao aa cA σ) (some (.int r)) (LM ao aa cA σe) := by
  refine g_met (by decide +kernel) (by simp [lg_sl, Value.category]) (fun X e1 e2 e3 hC => ?_)
  subst e1 e2 e3
  refine gw_lv [0, 1, 2] rfl ?_
  exact Mod_isSame_p0 ao aa hC N _ _ _ (r) _ hf
def Mod_isWordAt_b31 (N : Nat) (s0 : Int32) (σ : g_S) : Option (Int32 × g_S) := if gB s0 = true then some (s0, σ) else none
theorem Mod_isWordAt_p31 (ao aa : Nat → Nat) {X : g_X} (hC : gC X c_Mod_isWordAt R_Mod 3 62 2 (some .boolean)) (N : Nat) (s0 : Int32) (σ : g_S) (r : Int32) (σe : g_S) (hf : Mod_isWordAt_b31 N s0 σ = some (r, σe)) : gw X (.inl (some (.int r))) (LM ao aa X.2.2.1 σe) (LM ao aa X.2.2.1 σ) [(0, .ref (ao 0))] 31 [.int s0] := by
  unfold Mod_isWordAt_b31 at hf
  obtain ⟨hg31, hf⟩ := g_guard hf
  cases hf
  exact gw_zret hC hg31 d_Mod_isWordAt_31
def Mod_isWordAt_b30 (N : Nat) (σ : g_S) : Option (Int32 × g_S) := Mod_isWordAt_b31 N 0 σ
theorem Mod_isWordAt_p30 (ao aa : Nat → Nat) {X : g_X} (hC : gC X c_Mod_isWordAt R_Mod 3 62 2 (some .boolean)) (N : Nat) (σ : g_S) (r : Int32) (σe : g_S) (hf : Mod_isWordAt_b30 N σ = some (r, σe)) : gw X (.inl (some (.int r))) (LM ao aa X.2.2.1 σe) (LM ao aa X.2.2.1 σ) [(0, .ref (ao 0))] 30 [] := by
  unfold Mod_isWordAt_b30 at hf
  refine gw_iconst hC 0 d_Mod_isWordAt_30 (by decide) ?_
  exact Mod_isWordAt_p31 ao aa hC N _ _ _ _ hf
def Mod_isWordAt_b26 (N : Nat) (σ : g_S) : Option (Int32 × g_S) := Mod_isWordAt_b31 N 1 σ
theorem Mod_isWordAt_p26 (ao aa : Nat → Nat) {X : g_X} (hC : gC X c_Mod_isWordAt R_Mod 3 62 2 (some .boolean)) (N : Nat) (σ : g_S) (r : Int32) (σe : g_S) (hf : Mod_isWordAt_b26 N σ = some (r, σe)) : gw X (.inl (some (.int r))) (LM ao aa X.2.2.1 σe) (LM ao aa X.2.2.1 σ) [(0, .ref (ao 0))] 26 [] := by
  unfold Mod_isWordAt_b26 at hf
  refine gw_iconst hC 1 d_Mod_isWordAt_26 (by decide) ?_
  refine gw_goto hC 31 d_Mod_isWordAt_27 (by decide) ?_
  exact Mod_isWordAt_p31 ao aa hC N _ _ _ _ hf
def Mod_isWordAt_b14 (N : Nat) (x1 : Int32) (σ : g_S) : Option (Int32 × g_S) := if gIn x1 600 = true then (Mod_isWord N (σ.2 2 (x1).toNatClampNeg) σ).bind fun q20 => if q20.1 = 0 then Mod_isWordAt_b30 N q20.2 else Mod_isWordAt_b26 N q20.2 else none
theorem Mod_isWordAt_p14 (ao aa : Nat → Nat) {X : g_X} (hC : gC X c_Mod_isWordAt R_Mod 3 62 2 (some .boolean)) (N : Nat) (x1 : Int32) (σ : g_S) (r : Int32) (σe : g_S) (hf : Mod_isWordAt_b14 N x1 σ = some (r, σe)) : gw X (.inl (some (.int r))) (LM ao aa X.2.2.1 σe) (LM ao aa X.2.2.1 σ) [(0, .ref (ao 0)), (1, .int x1)] 14 [] := by
  unfold Mod_isWordAt_b14 at hf
  refine gw_aload_n hC 0 d_Mod_isWordAt_14 rfl rfl ?_
  refine Mr_Mod_text hC kf_Mod_20 d_Mod_isWordAt_15 ?_
  refine gw_iload_n hC 1 d_Mod_isWordAt_18 rfl rfl ?_
  obtain ⟨hg19, hf⟩ := g_guard hf
  refine Mald (j := 2) hC (by decide) hg19 d_Mod_isWordAt_19 (σ.2 2 (x1).toNatClampNeg) rfl ?_
  obtain ⟨q20, hq20, hf⟩ := g_bind hf
  refine gw_callS hC [.int (σ.2 2 (x1).toNatClampNeg)] [] (Mod_isWord_m _ _ _ ao aa N _ _ _ _ hq20) kc_Mod_119 ⟨by decide, by decide⟩ (Nat.le_of_ble_eq_true rfl) [.int (σ.2 2 (x1).toNatClampNeg)] [.int q20.1] rfl rfl d_Mod_isWordAt_20 ?_
  refine gw_if_eq hC 30 d_Mod_isWordAt_23 (by decide) (fun hh => ?_) (fun hh => ?_)
  · rw [if_pos hh] at hf
    refine gw_lv [0] rfl ?_
    exact Mod_isWordAt_p30 ao aa hC N _ _ _ hf
  · rw [if_neg hh] at hf
    refine gw_lv [0] rfl ?_
    exact Mod_isWordAt_p26 ao aa hC N _ _ _ hf
def Mod_isWordAt_b0 (N : Nat) (x1 : Int32) (σ : g_S) : Option (Int32 × g_S) := (Mod_in N x1 0 ((σ.1 7) - 1) σ).bind fun q8 => if q8.1 = 0 then Mod_isWordAt_b30 N q8.2 else Mod_isWordAt_b14 N x1 q8.2
theorem Mod_isWordAt_p0 (ao aa : Nat → Nat) {X : g_X} (hC : gC X c_Mod_isWordAt R_Mod 3 62 2 (some .boolean)) (N : Nat) (x1 : Int32) (σ : g_S) (r : Int32) (σe : g_S) (hf : Mod_isWordAt_b0 N x1 σ = some (r, σe)) : gw X (.inl (some (.int r))) (LM ao aa X.2.2.1 σe) (LM ao aa X.2.2.1 σ) [(0, .ref (ao 0)), (1, .int x1)] 0 [] := by
  unfold Mod_isWordAt_b0 at hf
  refine gw_iload_n hC 1 d_Mod_isWordAt_0 rfl rfl ?_
  refine gw_iconst hC 0 d_Mod_isWordAt_1 (by decide) ?_
  refine gw_aload_n hC 0 d_Mod_isWordAt_2 rfl rfl ?_
  refine Mg7 hC kf_Mod_238 d_Mod_isWordAt_3 (σ.1 7) rfl ?_
  refine gw_iconst hC 1 d_Mod_isWordAt_6 (by decide) ?_
  refine gw_isub hC d_Mod_isWordAt_7 ?_
  obtain ⟨q8, hq8, hf⟩ := g_bind hf
  refine gw_callS hC [.int x1, .int 0, .int ((σ.1 7) - 1)] [] (Mod_in_m _ _ _ ao aa N _ _ _ _ _ _ hq8) kc_Mod_103 ⟨by decide, by decide⟩ (Nat.le_of_ble_eq_true rfl) [.int ((σ.1 7) - 1), .int 0, .int x1] [.int q8.1] rfl rfl d_Mod_isWordAt_8 ?_
  refine gw_if_eq hC 30 d_Mod_isWordAt_11 (by decide) (fun hh => ?_) (fun hh => ?_)
  · rw [if_pos hh] at hf
    refine gw_lv [0] rfl ?_
    exact Mod_isWordAt_p30 ao aa hC N _ _ _ hf
  · rw [if_neg hh] at hf
    exact Mod_isWordAt_p14 ao aa hC N _ _ _ _ hf
def Mod_isWordAt (N : Nat) (x1 : Int32) (σ : g_S) : Option (Int32 × g_S) := Mod_isWordAt_b0 N x1 σ
theorem Mod_isWordAt_m (l : Launch) (D : va_G) (cA : ClassId) (ao aa : Nat → Nat) (N : Nat) (x1 : Int32) (σ : g_S) (r : Int32) (σe : g_S) (hf : Mod_isWordAt N x1 σ = some (r, σe)) : Mt l D cA y_Mod_isWordAt c_Mod_isWordAt 2 (some .boolean) 3 62 [.ref (ao 0), .int x1] (LM ao aa cA σ) (some (.int r)) (LM ao aa cA σe) := by
  refine g_met (by decide +kernel) (by simp [lg_sl, Value.category]) (fun X e1 e2 e3 hC => ?_)
  subst e1 e2 e3
  refine gw_lv [0, 1] rfl ?_
  exact Mod_isWordAt_p0 ao aa hC N _ _ (r) _ hf
def Mod_refers_b90 (N : Nat) (x3 : Int32) (σ : g_S) : Option (Int32 × g_S) := some (1, (gF σ 11 ((σ.1 11) + x3)))
theorem Mod_refers_p90 (ao aa : Nat → Nat) {X : g_X} (hC : gC X c_Mod_refers R_Mod 3 64 5 (some .boolean)) (N : Nat) (x3 : Int32) (σ : g_S) (r : Int32) (σe : g_S) (hf : Mod_refers_b90 N x3 σ = some (r, σe)) : gw X (.inl (some (.int r))) (LM ao aa X.2.2.1 σe) (LM ao aa X.2.2.1 σ) [(0, .ref (ao 0)), (3, .int x3)] 90 [] := by
  unfold Mod_refers_b90 at hf
  refine gw_aload_n hC 0 d_Mod_refers_90 rfl rfl ?_
  refine gw_aload_n hC 0 d_Mod_refers_91 rfl rfl ?_
  refine Mg11 hC kf_Mod_129 d_Mod_refers_92 (σ.1 11) rfl ?_
  refine gw_iload_n hC 1 d_Mod_refers_95 rfl rfl ?_
  refine gw_iadd hC d_Mod_refers_96 ?_
  refine Mp11 hC kf_Mod_129 d_Mod_refers_97 ?_
  refine gw_iconst hC 1 d_Mod_refers_100 (by decide) ?_
  cases hf
  exact gw_zret hC (by decide) d_Mod_refers_101
def Mod_refers_b84 (N : Nat) (k48 : Int32 → Int32 → Int32 → g_S → Option (Int32 × g_S)) (x2 : Int32) (x3 : Int32) (x4 : Int32) (σ : g_S) : Option (Int32 × g_S) := k48 x2 x3 (x4 + 1) σ
theorem Mod_refers_p84 (ao aa : Nat → Nat) {X : g_X} (hC : gC X c_Mod_refers R_Mod 3 64 5 (some .boolean)) (N : Nat) (k48 : Int32 → Int32 → Int32 → g_S → Option (Int32 × g_S)) (hk48 : ∀ (x2 : Int32) (x3 : Int32) (x4 : Int32) (σ : g_S) (r : Int32) (σe : g_S), k48 x2 x3 x4 σ = some (r, σe) → gw X (.inl (some (.int r))) (LM ao aa X.2.2.1 σe) (LM ao aa X.2.2.1 σ) [(0, .ref (ao 0)), (2, .int x2), (3, .int x3), (4, .int x4)] 48 []) (x2 : Int32) (x3 : Int32) (x4 : Int32) (σ : g_S) (r : Int32) (σe : g_S) (hf : Mod_refers_b84 N k48 x2 x3 x4 σ = some (r, σe)) : gw X (.inl (some (.int r))) (LM ao aa X.2.2.1 σe) (LM ao aa X.2.2.1 σ) [(0, .ref (ao 0)), (2, .int x2), (3, .int x3), (4, .int x4)] 84 [] := by
  unfold Mod_refers_b84 at hf
  refine gw_iinc hC (x4 + 1) 3 [(4, .int (x4 + 1)), (0, .ref (ao 0)), (2, .int x2), (3, .int x3)] d_Mod_refers_84 rfl rfl (by decide) rfl ?_
  refine gw_goto hC 48 d_Mod_refers_87 (by decide) ?_
  refine gw_lv [1, 2, 3, 0] rfl ?_
  exact hk48 _ _ _ _ _ _ hf
def Mod_refers_b82 (N : Nat) (σ : g_S) : Option (Int32 × g_S) := some (0, σ)
theorem Mod_refers_p82 (ao aa : Nat → Nat) {X : g_X} (hC : gC X c_Mod_refers R_Mod 3 64 5 (some .boolean)) (N : Nat) (σ : g_S) (r : Int32) (σe : g_S) (hf : Mod_refers_b82 N σ = some (r, σe)) : gw X (.inl (some (.int r))) (LM ao aa X.2.2.1 σe) (LM ao aa X.2.2.1 σ) [(0, .ref (ao 0))] 82 [] := by
  unfold Mod_refers_b82 at hf
  refine gw_iconst hC 0 d_Mod_refers_82 (by decide) ?_
  cases hf
  exact gw_zret hC (by decide) d_Mod_refers_83
def Mod_refers_b54 (N : Nat) (k48 : Int32 → Int32 → Int32 → g_S → Option (Int32 × g_S)) (x2 : Int32) (x3 : Int32) (x4 : Int32) (σ : g_S) : Option (Int32 × g_S) := if gIn (x2 + x4) 600 = true then if gIn ((σ.1 11) + x4) 600 = true then (Mod_isSame N (σ.2 2 ((x2 + x4)).toNatClampNeg) (σ.2 2 (((σ.1 11) + x4)).toNatClampNeg) σ).bind fun q76 => if q76.1 = 0 then Mod_refers_b82 N q76.2 else Mod_refers_b84 N k48 x2 x3 x4 q76.2 else none else none
theorem Mod_refers_p54 (ao aa : Nat → Nat) {X : g_X} (hC : gC X c_Mod_refers R_Mod 3 64 5 (some .boolean)) (N : Nat) (k48 : Int32 → Int32 → Int32 → g_S → Option (Int32 × g_S)) (hk48 : ∀ (x2 : Int32) (x3 : Int32) (x4 : Int32) (σ : g_S) (r : Int32) (σe : g_S), k48 x2 x3 x4 σ = some (r, σe) → gw X (.inl (some (.int r))) (LM ao aa X.2.2.1 σe) (LM ao aa X.2.2.1 σ) [(0, .ref (ao 0)), (2, .int x2), (3, .int x3), (4, .int x4)] 48 []) (x2 : Int32) (x3 : Int32) (x4 : Int32) (σ : g_S) (r : Int32) (σe : g_S) (hf : Mod_refers_b54 N k48 x2 x3 x4 σ = some (r, σe)) : gw X (.inl (some (.int r))) (LM ao aa X.2.2.1 σe) (LM ao aa X.2.2.1 σ) [(0, .ref (ao 0)), (2, .int x2), (3, .int x3), (4, .int x4)] 54 [] := by
  unfold Mod_refers_b54 at hf
  refine gw_aload_n hC 0 d_Mod_refers_54 rfl rfl ?_
  refine gw_aload_n hC 0 d_Mod_refers_55 rfl rfl ?_
  refine Mr_Mod_text hC kf_Mod_20 d_Mod_refers_56 ?_
  refine gw_iload_n hC 1 d_Mod_refers_59 rfl rfl ?_
  refine gw_iload hC 3 d_Mod_refers_60 rfl ?_
  refine gw_iadd hC d_Mod_refers_62 ?_
  obtain ⟨hg63, hf⟩ := g_guard hf
  refine Mald (j := 2) hC (by decide) hg63 d_Mod_refers_63 (σ.2 2 ((x2 + x4)).toNatClampNeg) rfl ?_
  refine gw_aload_n hC 0 d_Mod_refers_64 rfl rfl ?_
  refine Mr_Mod_text hC kf_Mod_20 d_Mod_refers_65 ?_
  refine gw_aload_n hC 0 d_Mod_refers_68 rfl rfl ?_
  refine Mg11 hC kf_Mod_129 d_Mod_refers_69 (σ.1 11) rfl ?_
  refine gw_iload hC 3 d_Mod_refers_72 rfl ?_
  refine gw_iadd hC d_Mod_refers_74 ?_
  obtain ⟨hg75, hf⟩ := g_guard hf
  refine Mald (j := 2) hC (by decide) hg75 d_Mod_refers_75 (σ.2 2 (((σ.1 11) + x4)).toNatClampNeg) rfl ?_
  obtain ⟨q76, hq76, hf⟩ := g_bind hf
  refine gw_callV hC [.int (σ.2 2 ((x2 + x4)).toNatClampNeg), .int (σ.2 2 (((σ.1 11) + x4)).toNatClampNeg)] [] (Mod_isSame_m _ _ _ ao aa N _ _ _ _ _ hq76) kc_Mod_269 0 (g_lay_obj rfl) rfl rfl ⟨by decide, by decide⟩ (Nat.le_of_ble_eq_true rfl) [.int (σ.2 2 (((σ.1 11) + x4)).toNatClampNeg), .int (σ.2 2 ((x2 + x4)).toNatClampNeg), .ref (ao 0)] [.int q76.1] rfl rfl d_Mod_refers_76 ?_
  refine gw_if_ne hC 84 d_Mod_refers_79 (by decide) (fun hh => ?_) (fun hh => ?_)
  · rw [if_neg hh] at hf
    exact Mod_refers_p84 ao aa hC N _ hk48 _ _ _ _ _ _ hf
  · rw [if_pos hh] at hf
    refine gw_lv [0] rfl ?_
    exact Mod_refers_p82 ao aa hC N _ _ _ hf
def Mod_refers_b48 (N : Nat) (k48 : Int32 → Int32 → Int32 → g_S → Option (Int32 × g_S)) (x2 : Int32) (x3 : Int32) (x4 : Int32) (σ : g_S) : Option (Int32 × g_S) := if x3 ≤ x4 then Mod_refers_b90 N x3 σ else Mod_refers_b54 N k48 x2 x3 x4 σ
theorem Mod_refers_p48 (ao aa : Nat → Nat) {X : g_X} (hC : gC X c_Mod_refers R_Mod 3 64 5 (some .boolean)) (N : Nat) (k48 : Int32 → Int32 → Int32 → g_S → Option (Int32 × g_S)) (hk48 : ∀ (x2 : Int32) (x3 : Int32) (x4 : Int32) (σ : g_S) (r : Int32) (σe : g_S), k48 x2 x3 x4 σ = some (r, σe) → gw X (.inl (some (.int r))) (LM ao aa X.2.2.1 σe) (LM ao aa X.2.2.1 σ) [(0, .ref (ao 0)), (2, .int x2), (3, .int x3), (4, .int x4)] 48 []) (x2 : Int32) (x3 : Int32) (x4 : Int32) (σ : g_S) (r : Int32) (σe : g_S) (hf : Mod_refers_b48 N k48 x2 x3 x4 σ = some (r, σe)) : gw X (.inl (some (.int r))) (LM ao aa X.2.2.1 σe) (LM ao aa X.2.2.1 σ) [(0, .ref (ao 0)), (2, .int x2), (3, .int x3), (4, .int x4)] 48 [] := by
  unfold Mod_refers_b48 at hf
  refine gw_iload hC 3 d_Mod_refers_48 rfl ?_
  refine gw_iload_n hC 2 d_Mod_refers_50 rfl rfl ?_
  refine gw_icmp_ge hC 90 d_Mod_refers_51 (by decide) (fun hh => ?_) (fun hh => ?_)
  · rw [if_pos hh] at hf
    refine gw_lv [0, 2] rfl ?_
    exact Mod_refers_p90 ao aa hC N _ _ _ _ hf
  · rw [if_neg hh] at hf
    exact Mod_refers_p54 ao aa hC N _ hk48 _ _ _ _ _ _ hf
def Mod_refers_l48 (N : Nat) : Nat → Int32 → Int32 → Int32 → g_S → Option (Int32 × g_S)
  | 0 => fun _ _ _ _ => none
  | n + 1 => fun x2 x3 x4 σ => Mod_refers_b48 N (Mod_refers_l48 N n) x2 x3 x4 σ
theorem Mod_refers_q48 (ao aa : Nat → Nat) {X : g_X} (hC : gC X c_Mod_refers R_Mod 3 64 5 (some .boolean)) (N : Nat) (n : Nat) : ∀ (x2 : Int32) (x3 : Int32) (x4 : Int32) (σ : g_S) (r : Int32) (σe : g_S), Mod_refers_l48 N n x2 x3 x4 σ = some (r, σe) → gw X (.inl (some (.int r))) (LM ao aa X.2.2.1 σe) (LM ao aa X.2.2.1 σ) [(0, .ref (ao 0)), (2, .int x2), (3, .int x3), (4, .int x4)] 48 [] := by
  induction n with
  | zero => intro x2 x3 x4 σ r σe hf; cases hf
  | succ n ih => intro x2 x3 x4 σ r σe hf; exact Mod_refers_p48 ao aa hC N _ (fun x2 x3 x4 σ r2 σ2 h2 => ih x2 x3 x4 σ r2 σ2 h2) x2 x3 x4 σ r σe hf
def Mod_refers_b45 (N : Nat) (x2 : Int32) (x3 : Int32) (σ : g_S) : Option (Int32 × g_S) := Mod_refers_l48 N N x2 x3 0 σ
theorem Mod_refers_p45 (ao aa : Nat → Nat) {X : g_X} (hC : gC X c_Mod_refers R_Mod 3 64 5 (some .boolean)) (N : Nat) (x2 : Int32) (x3 : Int32) (σ : g_S) (r : Int32) (σe : g_S) (hf : Mod_refers_b45 N x2 x3 σ = some (r, σe)) : gw X (.inl (some (.int r))) (LM ao aa X.2.2.1 σe) (LM ao aa X.2.2.1 σ) [(0, .ref (ao 0)), (2, .int x2), (3, .int x3)] 45 [] := by
  unfold Mod_refers_b45 at hf
  refine gw_iconst hC 0 d_Mod_refers_45 (by decide) ?_
  refine gw_istore hC [(4, .int 0), (0, .ref (ao 0)), (2, .int x2), (3, .int x3)] d_Mod_refers_46 (by decide) rfl ?_
  refine gw_lv [1, 2, 3, 0] rfl ?_
  exact Mod_refers_q48 ao aa hC N N _ _ _ _ _ _ hf
def Mod_refers_b43 (N : Nat) (σ : g_S) : Option (Int32 × g_S) := some (0, σ)
theorem Mod_refers_p43 (ao aa : Nat → Nat) {X : g_X} (hC : gC X c_Mod_refers R_Mod 3 64 5 (some .boolean)) (N : Nat) (σ : g_S) (r : Int32) (σe : g_S) (hf : Mod_refers_b43 N σ = some (r, σe)) : gw X (.inl (some (.int r))) (LM ao aa X.2.2.1 σe) (LM ao aa X.2.2.1 σ) [(0, .ref (ao 0))] 43 [] := by
  unfold Mod_refers_b43 at hf
  refine gw_iconst hC 0 d_Mod_refers_43 (by decide) ?_
  cases hf
  exact gw_zret hC (by decide) d_Mod_refers_44
def Mod_refers_b29 (N : Nat) (x2 : Int32) (s0 : Int32) (σ : g_S) : Option (Int32 × g_S) := if ((σ.1 11) + s0) ≤ (σ.1 7) then Mod_refers_b45 N x2 s0 σ else Mod_refers_b43 N σ
theorem Mod_refers_p29 (ao aa : Nat → Nat) {X : g_X} (hC : gC X c_Mod_refers R_Mod 3 64 5 (some .boolean)) (N : Nat) (x2 : Int32) (s0 : Int32) (σ : g_S) (r : Int32) (σe : g_S) (hf : Mod_refers_b29 N x2 s0 σ = some (r, σe)) : gw X (.inl (some (.int r))) (LM ao aa X.2.2.1 σe) (LM ao aa X.2.2.1 σ) [(0, .ref (ao 0)), (2, .int x2)] 29 [.int s0] := by
  unfold Mod_refers_b29 at hf
  refine gw_istore_n hC [(3, .int s0), (0, .ref (ao 0)), (2, .int x2)] d_Mod_refers_29 rfl (by decide) rfl ?_
  refine gw_aload_n hC 1 d_Mod_refers_30 rfl rfl ?_
  refine Mg11 hC kf_Mod_129 d_Mod_refers_31 (σ.1 11) rfl ?_
  refine gw_iload_n hC 0 d_Mod_refers_34 rfl rfl ?_
  refine gw_iadd hC d_Mod_refers_35 ?_
  refine gw_aload_n hC 1 d_Mod_refers_36 rfl rfl ?_
  refine Mg7 hC kf_Mod_238 d_Mod_refers_37 (σ.1 7) rfl ?_
  refine gw_icmp_le hC 45 d_Mod_refers_40 (by decide) (fun hh => ?_) (fun hh => ?_)
  · rw [if_pos hh] at hf
    refine gw_lv [1, 2, 0] rfl ?_
    exact Mod_refers_p45 ao aa hC N _ _ _ _ _ hf
  · rw [if_neg hh] at hf
    refine gw_lv [1] rfl ?_
    exact Mod_refers_p43 ao aa hC N _ _ _ hf
def Mod_refers_b17 (N : Nat) (x1 : Int32) (x2 : Int32) (σ : g_S) : Option (Int32 × g_S) := if gIn ((2 * x1) + 1) 42 = true then Mod_refers_b29 N x2 ((σ.2 17 (((2 * x1) + 1)).toNatClampNeg) - x2) σ else none
theorem Mod_refers_p17 (ao aa : Nat → Nat) {X : g_X} (hC : gC X c_Mod_refers R_Mod 3 64 5 (some .boolean)) (N : Nat) (x1 : Int32) (x2 : Int32) (σ : g_S) (r : Int32) (σe : g_S) (hf : Mod_refers_b17 N x1 x2 σ = some (r, σe)) : gw X (.inl (some (.int r))) (LM ao aa X.2.2.1 σe) (LM ao aa X.2.2.1 σ) [(0, .ref (ao 0)), (1, .int x1), (2, .int x2)] 17 [] := by
  unfold Mod_refers_b17 at hf
  refine gw_aload_n hC 0 d_Mod_refers_17 rfl rfl ?_
  refine Mr_Mod_group hC kf_Mod_65 d_Mod_refers_18 ?_
  refine gw_iconst hC 2 d_Mod_refers_21 (by decide) ?_
  refine gw_iload_n hC 1 d_Mod_refers_22 rfl rfl ?_
  refine gw_imul hC d_Mod_refers_23 ?_
  refine gw_iconst hC 1 d_Mod_refers_24 (by decide) ?_
  refine gw_iadd hC d_Mod_refers_25 ?_
  obtain ⟨hg26, hf⟩ := g_guard hf
  refine Mald (j := 17) hC (by decide) hg26 d_Mod_refers_26 (σ.2 17 (((2 * x1) + 1)).toNatClampNeg) rfl ?_
  refine gw_iload_n hC 2 d_Mod_refers_27 rfl rfl ?_
  refine gw_isub hC d_Mod_refers_28 ?_
  refine gw_lv [0, 2] rfl ?_
  exact Mod_refers_p29 ao aa hC N _ _ _ _ _ hf
def Mod_refers_b13 (N : Nat) (x2 : Int32) (σ : g_S) : Option (Int32 × g_S) := Mod_refers_b29 N x2 0 σ
theorem Mod_refers_p13 (ao aa : Nat → Nat) {X : g_X} (hC : gC X c_Mod_refers R_Mod 3 64 5 (some .boolean)) (N : Nat) (x2 : Int32) (σ : g_S) (r : Int32) (σe : g_S) (hf : Mod_refers_b13 N x2 σ = some (r, σe)) : gw X (.inl (some (.int r))) (LM ao aa X.2.2.1 σe) (LM ao aa X.2.2.1 σ) [(0, .ref (ao 0)), (2, .int x2)] 13 [] := by
  unfold Mod_refers_b13 at hf
  refine gw_iconst hC 0 d_Mod_refers_13 (by decide) ?_
  refine gw_goto hC 29 d_Mod_refers_14 (by decide) ?_
  exact Mod_refers_p29 ao aa hC N _ _ _ _ _ hf
def Mod_refers_b0 (N : Nat) (x1 : Int32) (σ : g_S) : Option (Int32 × g_S) := if gIn (2 * x1) 42 = true then if 0 ≤ (σ.2 17 ((2 * x1)).toNatClampNeg) then Mod_refers_b17 N x1 (σ.2 17 ((2 * x1)).toNatClampNeg) σ else Mod_refers_b13 N (σ.2 17 ((2 * x1)).toNatClampNeg) σ else none
theorem Mod_refers_p0 (ao aa : Nat → Nat) {X : g_X} (hC : gC X c_Mod_refers R_Mod 3 64 5 (some .boolean)) (N : Nat) (x1 : Int32) (σ : g_S) (r : Int32) (σe : g_S) (hf : Mod_refers_b0 N x1 σ = some (r, σe)) : gw X (.inl (some (.int r))) (LM ao aa X.2.2.1 σe) (LM ao aa X.2.2.1 σ) [(0, .ref (ao 0)), (1, .int x1)] 0 [] := by
  unfold Mod_refers_b0 at hf
  refine gw_aload_n hC 0 d_Mod_refers_0 rfl rfl ?_
  refine Mr_Mod_group hC kf_Mod_65 d_Mod_refers_1 ?_
  refine gw_iconst hC 2 d_Mod_refers_4 (by decide) ?_
  refine gw_iload_n hC 1 d_Mod_refers_5 rfl rfl ?_
  refine gw_imul hC d_Mod_refers_6 ?_
  obtain ⟨hg7, hf⟩ := g_guard hf
  refine Mald (j := 17) hC (by decide) hg7 d_Mod_refers_7 (σ.2 17 ((2 * x1)).toNatClampNeg) rfl ?_
  refine gw_istore_n hC [(2, .int (σ.2 17 ((2 * x1)).toNatClampNeg)), (0, .ref (ao 0)), (1, .int x1)] d_Mod_refers_8 rfl (by decide) rfl ?_
  refine gw_iload_n hC 0 d_Mod_refers_9 rfl rfl ?_
  refine gw_if_ge hC 17 d_Mod_refers_10 (by decide) (fun hh => ?_) (fun hh => ?_)
  · rw [if_pos hh] at hf
    refine gw_lv [1, 2, 0] rfl ?_
    exact Mod_refers_p17 ao aa hC N _ _ _ _ _ hf
  · rw [if_neg hh] at hf
    refine gw_lv [1, 0] rfl ?_
    exact Mod_refers_p13 ao aa hC N _ _ _ _ hf
def Mod_refers (N : Nat) (x1 : Int32) (σ : g_S) : Option (Int32 × g_S) := Mod_refers_b0 N x1 σ
theorem Mod_refers_m (l : Launch) (D : va_G) (cA : ClassId) (ao aa : Nat → Nat) (N : Nat) (x1 : Int32) (σ : g_S) (r : Int32) (σe : g_S) (hf : Mod_refers N x1 σ = some (r, σe)) : Mt l D cA y_Mod_refers c_Mod_refers 5 (some .boolean) 3 64 [.ref (ao 0), .int x1] (LM ao aa cA σ) (some (.int r)) (LM ao aa cA σe) := by
  refine g_met (by decide +kernel) (by simp [lg_sl, Value.category]) (fun X e1 e2 e3 hC => ?_)
  subst e1 e2 e3
  refine gw_lv [0, 1] rfl ?_
  exact Mod_refers_p0 ao aa hC N _ _ (r) _ hf
