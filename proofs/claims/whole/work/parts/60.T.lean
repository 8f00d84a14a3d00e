abbrev c_Desk_put : ByteArray := prog_1_method_2_code
def y_Desk_put : MethodName := ⟨R_Desk, "put", "(JI)I"⟩
abbrev c_Desk_group : ByteArray := prog_1_method_8_code
def y_Desk_group : MethodName := ⟨R_Desk, "group", "(IZ)I"⟩
abbrev c_Desk_checkTry : ByteArray := prog_1_method_10_code
def y_Desk_checkTry : MethodName := ⟨R_Desk, "checkTry", "(II)V"⟩
abbrev c_Desk_match : ByteArray := prog_1_method_6_code
def y_Desk_match : MethodName := ⟨R_Desk, "match", "(II)I"⟩
abbrev c_Desk_find : ByteArray := prog_1_method_7_code
def y_Desk_find : MethodName := ⟨R_Desk, "find", "(II)I"⟩
abbrev c_Desk_pattern : ByteArray := prog_1_method_3_code
def y_Desk_pattern : MethodName := ⟨R_Desk, "pattern", "(ZZ)I"⟩
theorem kx_cl_42 : Cond.classLink R_Desk 42 "java/lang/IllegalArgumentException" ∈ g_TB := g_mem (List.mem_append_right _ (List.mem_append_right _ (List.mem_append_left _ (List.mem_of_getElem? (i := 45) (by decide +kernel))))) rfl
theorem kx_in_I : Cond.initialized "java/lang/IllegalArgumentException" ∈ g_TB := g_mem (List.mem_append_right _ (List.mem_append_left _ (List.mem_of_getElem? (i := 9) (by decide +kernel)))) rfl
theorem kx_ib_I : Cond.instantiable "java/lang/IllegalArgumentException" 6 ∈ g_TB := g_mem (List.mem_append_right _ (List.mem_append_right _ (List.mem_append_left _ (List.mem_of_getElem? (i := 46) (by decide +kernel))))) rfl
theorem kn_Desk_57 : Cond.constant R_Desk 57 65535 ∈ g_TB := g_mem (List.mem_append_right _ (List.mem_append_right _ (List.mem_append_left _ (List.mem_of_getElem? (i := 128) (by decide +kernel))))) rfl
theorem kc_Desk_58 : g_okS R_Desk 58 y_Rows_write c_Rows_write 3 none 3 := ⟨g_mem (List.mem_append_right _ (List.mem_append_right _ (List.mem_append_left _ (List.mem_of_getElem? (i := 31) rfl)))) rfl, g_mem (List.mem_append_right _ (List.mem_append_left _ (List.mem_of_getElem? (i := 11) (by decide +kernel)))) rfl, g_mem (List.mem_append_right _ (List.mem_append_right _ (List.mem_append_left _ (List.mem_of_getElem? (i := 129) (by decide +kernel))))) rfl, g_mem (List.mem_append_right _ (List.mem_append_right _ (List.mem_append_left _ (List.mem_of_getElem? (i := 30) (by decide +kernel))))) rfl, by decide +kernel, by decide +kernel, by decide +kernel⟩
theorem kx_cl_52 : Cond.classLink R_Desk 52 "java/lang/IllegalStateException" ∈ g_TB := g_mem (List.mem_append_right _ (List.mem_append_right _ (List.mem_append_left _ (List.mem_of_getElem? (i := 112) (by decide +kernel))))) rfl
theorem kx_in_S : Cond.initialized "java/lang/IllegalStateException" ∈ g_TB := g_mem (List.mem_append_right _ (List.mem_append_left _ (List.mem_of_getElem? (i := 10) (by decide +kernel)))) rfl
theorem kx_ib_S : Cond.instantiable "java/lang/IllegalStateException" 6 ∈ g_TB := g_mem (List.mem_append_right _ (List.mem_append_right _ (List.mem_append_left _ (List.mem_of_getElem? (i := 113) (by decide +kernel))))) rfl
theorem kc_Desk_114 : g_okV R_Desk 114 y_Machine_groupBegin c_Machine_groupBegin 2 (some .int) 1 := ⟨g_mem (List.mem_append_right _ (List.mem_append_right _ (List.mem_append_right _ (List.mem_append_left _ (List.mem_of_getElem? (i := 185) rfl))))) rfl, g_mem (List.mem_append_right _ (List.mem_append_left _ (List.mem_of_getElem? (i := 4) (by decide +kernel)))) rfl, g_mem (List.mem_append_right _ (List.mem_append_right _ (List.mem_append_right _ (List.mem_append_left _ (List.mem_of_getElem? (i := 186) (by decide +kernel)))))) rfl, g_mem (List.mem_append_right _ (List.mem_append_right _ (List.mem_append_right _ (List.mem_append_left _ (List.mem_of_getElem? (i := 183) (by decide +kernel)))))) rfl, g_mem (List.mem_append_right _ (List.mem_append_right _ (List.mem_append_right _ (List.mem_append_left _ (List.mem_of_getElem? (i := 184) (by decide +kernel)))))) rfl, by decide +kernel, by decide +kernel, by decide +kernel⟩
theorem kc_Desk_111 : g_okV R_Desk 111 y_Machine_groupEnd c_Machine_groupEnd 2 (some .int) 1 := ⟨g_mem (List.mem_append_right _ (List.mem_append_right _ (List.mem_append_right _ (List.mem_append_left _ (List.mem_of_getElem? (i := 181) rfl))))) rfl, g_mem (List.mem_append_right _ (List.mem_append_left _ (List.mem_of_getElem? (i := 4) (by decide +kernel)))) rfl, g_mem (List.mem_append_right _ (List.mem_append_right _ (List.mem_append_right _ (List.mem_append_left _ (List.mem_of_getElem? (i := 178) (by decide +kernel)))))) rfl, g_mem (List.mem_append_right _ (List.mem_append_right _ (List.mem_append_right _ (List.mem_append_left _ (List.mem_of_getElem? (i := 179) (by decide +kernel)))))) rfl, g_mem (List.mem_append_right _ (List.mem_append_right _ (List.mem_append_right _ (List.mem_append_left _ (List.mem_of_getElem? (i := 180) (by decide +kernel)))))) rfl, by decide +kernel, by decide +kernel, by decide +kernel⟩
theorem kf_Desk_16 : Cond.fieldLink R_Desk 16 "PatternDesk" "program" "LPatternDesk$Program;" ∈ g_TB := g_mem (List.mem_append_right _ (List.mem_append_left _ (List.mem_of_getElem? (i := 230) (by decide +kernel)))) rfl
theorem kf_Desk_83 : Cond.fieldLink R_Desk 83 "PatternDesk$Program" "groups" "I" ∈ g_TB := g_mem (List.mem_append_right _ (List.mem_append_left _ (List.mem_of_getElem? (i := 70) (by decide +kernel)))) rfl
theorem kf_Desk_72 : Cond.fieldLink R_Desk 72 "PatternDesk" "hasPattern" "Z" ∈ g_TB := g_mem (List.mem_append_right _ (List.mem_append_left _ (List.mem_of_getElem? (i := 235) (by decide +kernel)))) rfl
theorem kf_Desk_104 : Cond.fieldLink R_Desk 104 "PatternDesk$Machine" "length" "I" ∈ g_TB := g_mem (List.mem_append_right _ (List.mem_append_left _ (List.mem_of_getElem? (i := 195) (by decide +kernel)))) rfl
theorem kc_Desk_90 : g_okV R_Desk 90 y_Desk_checkTry c_Desk_checkTry 3 none 2 := ⟨g_mem (List.mem_append_right _ (List.mem_append_right _ (List.mem_append_right _ (List.mem_append_left _ (List.mem_of_getElem? (i := 61) rfl))))) rfl, g_mem (List.mem_append_right _ (List.mem_append_left _ (List.mem_of_getElem? (i := 1) (by decide +kernel)))) rfl, g_mem (List.mem_append_right _ (List.mem_append_right _ (List.mem_append_right _ (List.mem_append_left _ (List.mem_of_getElem? (i := 58) (by decide +kernel)))))) rfl, g_mem (List.mem_append_right _ (List.mem_append_right _ (List.mem_append_right _ (List.mem_append_left _ (List.mem_of_getElem? (i := 60) (by decide +kernel)))))) rfl, g_mem (List.mem_append_left _ (List.mem_of_getElem? (i := 28) (by decide +kernel))) rfl, by decide +kernel, by decide +kernel, by decide +kernel⟩
theorem kc_Desk_94 : g_okV R_Desk 94 y_Machine_refuel c_Machine_refuel 2 none 1 := ⟨g_mem (List.mem_append_right _ (List.mem_append_right _ (List.mem_append_right _ (List.mem_append_left _ (List.mem_of_getElem? (i := 68) rfl))))) rfl, g_mem (List.mem_append_right _ (List.mem_append_left _ (List.mem_of_getElem? (i := 4) (by decide +kernel)))) rfl, g_mem (List.mem_append_right _ (List.mem_append_right _ (List.mem_append_right _ (List.mem_append_left _ (List.mem_of_getElem? (i := 65) (by decide +kernel)))))) rfl, g_mem (List.mem_append_right _ (List.mem_append_right _ (List.mem_append_right _ (List.mem_append_left _ (List.mem_of_getElem? (i := 66) (by decide +kernel)))))) rfl, g_mem (List.mem_append_right _ (List.mem_append_right _ (List.mem_append_right _ (List.mem_append_left _ (List.mem_of_getElem? (i := 67) (by decide +kernel)))))) rfl, by decide +kernel, by decide +kernel, by decide +kernel⟩
theorem kc_Desk_98 : g_okV R_Desk 98 y_Machine_tryAt c_Machine_tryAt 4 (some .int) 1 := ⟨g_mem (List.mem_append_right _ (List.mem_append_right _ (List.mem_append_right _ (List.mem_append_left _ (List.mem_of_getElem? (i := 72) rfl))))) rfl, g_mem (List.mem_append_right _ (List.mem_append_left _ (List.mem_of_getElem? (i := 4) (by decide +kernel)))) rfl, g_mem (List.mem_append_right _ (List.mem_append_right _ (List.mem_append_right _ (List.mem_append_left _ (List.mem_of_getElem? (i := 69) (by decide +kernel)))))) rfl, g_mem (List.mem_append_right _ (List.mem_append_right _ (List.mem_append_right _ (List.mem_append_left _ (List.mem_of_getElem? (i := 70) (by decide +kernel)))))) rfl, g_mem (List.mem_append_right _ (List.mem_append_right _ (List.mem_append_right _ (List.mem_append_left _ (List.mem_of_getElem? (i := 71) (by decide +kernel)))))) rfl, by decide +kernel, by decide +kernel, by decide +kernel⟩
theorem kc_Desk_101 : g_okV R_Desk 101 y_Desk_settled c_Desk_settled 2 (some .int) 1 := ⟨g_mem (List.mem_append_right _ (List.mem_append_right _ (List.mem_append_right _ (List.mem_append_left _ (List.mem_of_getElem? (i := 161) rfl))))) rfl, g_mem (List.mem_append_right _ (List.mem_append_left _ (List.mem_of_getElem? (i := 1) (by decide +kernel)))) rfl, g_mem (List.mem_append_right _ (List.mem_append_right _ (List.mem_append_right _ (List.mem_append_left _ (List.mem_of_getElem? (i := 158) (by decide +kernel)))))) rfl, g_mem (List.mem_append_right _ (List.mem_append_right _ (List.mem_append_right _ (List.mem_append_left _ (List.mem_of_getElem? (i := 160) (by decide +kernel)))))) rfl, g_mem (List.mem_append_left _ (List.mem_of_getElem? (i := 44) (by decide +kernel))) rfl, by decide +kernel, by decide +kernel, by decide +kernel⟩
theorem kf_Desk_77 : Cond.fieldLink R_Desk 77 "PatternDesk$Program" "ignoring" "Z" ∈ g_TB := g_mem (List.mem_append_right _ (List.mem_append_left _ (List.mem_of_getElem? (i := 72) (by decide +kernel)))) rfl
theorem kf_Desk_80 : Cond.fieldLink R_Desk 80 "PatternDesk$Program" "lines" "Z" ∈ g_TB := g_mem (List.mem_append_right _ (List.mem_append_left _ (List.mem_of_getElem? (i := 74) (by decide +kernel)))) rfl
theorem kf_Desk_25 : Cond.fieldLink R_Desk 25 "PatternDesk" "reader" "LPatternDesk$Reader;" ∈ g_TB := g_mem (List.mem_append_right _ (List.mem_append_left _ (List.mem_of_getElem? (i := 231) (by decide +kernel)))) rfl
theorem kc_Desk_68 : g_okV R_Desk 68 y_Reader_readPattern c_Reader_readPattern 3 (some .int) 1 := ⟨g_mem (List.mem_append_right _ (List.mem_append_right _ (List.mem_append_left _ (List.mem_of_getElem? (i := 140) rfl)))) rfl, g_mem (List.mem_append_right _ (List.mem_append_left _ (List.mem_of_getElem? (i := 3) (by decide +kernel)))) rfl, g_mem (List.mem_append_right _ (List.mem_append_right _ (List.mem_append_left _ (List.mem_of_getElem? (i := 137) (by decide +kernel))))) rfl, g_mem (List.mem_append_right _ (List.mem_append_right _ (List.mem_append_left _ (List.mem_of_getElem? (i := 138) (by decide +kernel))))) rfl, g_mem (List.mem_append_right _ (List.mem_append_right _ (List.mem_append_left _ (List.mem_of_getElem? (i := 139) (by decide +kernel))))) rfl, by decide +kernel, by decide +kernel, by decide +kernel⟩
theorem d_Desk_put_0 : decode c_Desk_put 0 = .ok (.iload_n 3, 1) := by decide +kernel
theorem d_Desk_put_1 : decode c_Desk_put 1 = .ok (.iconst 1, 1) := by decide +kernel
theorem d_Desk_put_2 : decode c_Desk_put 2 = .ok (.if_icmp .lt 8, 3) := by decide +kernel
theorem d_Desk_put_5 : decode c_Desk_put 5 = .ok (.iload_n 3, 1) := by decide +kernel
theorem d_Desk_put_6 : decode c_Desk_put 6 = .ok (.iconst 4, 1) := by decide +kernel
theorem d_Desk_put_7 : decode c_Desk_put 7 = .ok (.if_icmp .le 13, 3) := by decide +kernel
theorem d_Desk_put_10 : decode c_Desk_put 10 = .ok (.new 42, 3) := by decide +kernel
theorem d_Desk_put_13 : decode c_Desk_put 13 = .ok (.dup, 1) := by decide +kernel
theorem d_Desk_put_14 : decode c_Desk_put 14 = .ok (.ldc 44, 2) := by decide +kernel
theorem d_Desk_put_16 : decode c_Desk_put 16 = .ok (.invokespecial 46, 3) := by decide +kernel
theorem d_Desk_put_19 : decode c_Desk_put 19 = .ok (.athrow, 1) := by decide +kernel
theorem d_Desk_put_20 : decode c_Desk_put 20 = .ok (.aload_n 0, 1) := by decide +kernel
theorem d_Desk_put_21 : decode c_Desk_put 21 = .ok (.getfield 49, 3) := by decide +kernel
theorem d_Desk_put_24 : decode c_Desk_put 24 = .ok (.iload_n 3, 1) := by decide +kernel
theorem d_Desk_put_25 : decode c_Desk_put 25 = .ok (.iadd, 1) := by decide +kernel
theorem d_Desk_put_26 : decode c_Desk_put 26 = .ok (.sipush 600, 3) := by decide +kernel
theorem d_Desk_put_29 : decode c_Desk_put 29 = .ok (.if_icmp .le 13, 3) := by decide +kernel
theorem d_Desk_put_32 : decode c_Desk_put 32 = .ok (.new 52, 3) := by decide +kernel
theorem d_Desk_put_35 : decode c_Desk_put 35 = .ok (.dup, 1) := by decide +kernel
theorem d_Desk_put_36 : decode c_Desk_put 36 = .ok (.ldc 54, 2) := by decide +kernel
theorem d_Desk_put_38 : decode c_Desk_put 38 = .ok (.invokespecial 56, 3) := by decide +kernel
theorem d_Desk_put_41 : decode c_Desk_put 41 = .ok (.athrow, 1) := by decide +kernel
theorem d_Desk_put_42 : decode c_Desk_put 42 = .ok (.iload_n 3, 1) := by decide +kernel
theorem d_Desk_put_43 : decode c_Desk_put 43 = .ok (.iconst 1, 1) := by decide +kernel
theorem d_Desk_put_44 : decode c_Desk_put 44 = .ok (.isub, 1) := by decide +kernel
theorem d_Desk_put_45 : decode c_Desk_put 45 = .ok (.istore 4, 2) := by decide +kernel
theorem d_Desk_put_47 : decode c_Desk_put 47 = .ok (.iload 4, 2) := by decide +kernel
theorem d_Desk_put_49 : decode c_Desk_put 49 = .ok (.ifCond .lt 45, 3) := by decide +kernel
theorem d_Desk_put_52 : decode c_Desk_put 52 = .ok (.lload_n 1, 1) := by decide +kernel
theorem d_Desk_put_53 : decode c_Desk_put 53 = .ok (.bipush 16, 2) := by decide +kernel
theorem d_Desk_put_55 : decode c_Desk_put 55 = .ok (.iload 4, 2) := by decide +kernel
theorem d_Desk_put_57 : decode c_Desk_put 57 = .ok (.imul, 1) := by decide +kernel
theorem d_Desk_put_58 : decode c_Desk_put 58 = .ok (.lushr, 1) := by decide +kernel
theorem d_Desk_put_59 : decode c_Desk_put 59 = .ok (.l2i, 1) := by decide +kernel
theorem d_Desk_put_60 : decode c_Desk_put 60 = .ok (.ldc 57, 2) := by decide +kernel
theorem d_Desk_put_62 : decode c_Desk_put 62 = .ok (.iand, 1) := by decide +kernel
theorem d_Desk_put_63 : decode c_Desk_put 63 = .ok (.istore 5, 2) := by decide +kernel
theorem d_Desk_put_65 : decode c_Desk_put 65 = .ok (.aload_n 0, 1) := by decide +kernel
theorem d_Desk_put_66 : decode c_Desk_put 66 = .ok (.getfield 9, 3) := by decide +kernel
theorem d_Desk_put_69 : decode c_Desk_put 69 = .ok (.aload_n 0, 1) := by decide +kernel
theorem d_Desk_put_70 : decode c_Desk_put 70 = .ok (.getfield 49, 3) := by decide +kernel
theorem d_Desk_put_73 : decode c_Desk_put 73 = .ok (.iload 5, 2) := by decide +kernel
theorem d_Desk_put_75 : decode c_Desk_put 75 = .ok (.invokestatic 58, 3) := by decide +kernel
theorem d_Desk_put_78 : decode c_Desk_put 78 = .ok (.aload_n 0, 1) := by decide +kernel
theorem d_Desk_put_79 : decode c_Desk_put 79 = .ok (.dup, 1) := by decide +kernel
theorem d_Desk_put_80 : decode c_Desk_put 80 = .ok (.getfield 49, 3) := by decide +kernel
theorem d_Desk_put_83 : decode c_Desk_put 83 = .ok (.iconst 1, 1) := by decide +kernel
theorem d_Desk_put_84 : decode c_Desk_put 84 = .ok (.iadd, 1) := by decide +kernel
theorem d_Desk_put_85 : decode c_Desk_put 85 = .ok (.putfield 49, 3) := by decide +kernel
theorem d_Desk_put_88 : decode c_Desk_put 88 = .ok (.iinc 4 (-1), 3) := by decide +kernel
theorem d_Desk_put_91 : decode c_Desk_put 91 = .ok (.goto (-44), 3) := by decide +kernel
theorem d_Desk_put_94 : decode c_Desk_put 94 = .ok (.aload_n 0, 1) := by decide +kernel
theorem d_Desk_put_95 : decode c_Desk_put 95 = .ok (.getfield 49, 3) := by decide +kernel
theorem d_Desk_put_98 : decode c_Desk_put 98 = .ok (.ireturn, 1) := by decide +kernel
theorem d_Desk_group_0 : decode c_Desk_group 0 = .ok (.aload_n 0, 1) := by decide +kernel
theorem d_Desk_group_1 : decode c_Desk_group 1 = .ok (.getfield 64, 3) := by decide +kernel
theorem d_Desk_group_4 : decode c_Desk_group 4 = .ok (.ifCond .ne 13, 3) := by decide +kernel
theorem d_Desk_group_7 : decode c_Desk_group 7 = .ok (.new 52, 3) := by decide +kernel
theorem d_Desk_group_10 : decode c_Desk_group 10 = .ok (.dup, 1) := by decide +kernel
theorem d_Desk_group_11 : decode c_Desk_group 11 = .ok (.ldc 107, 2) := by decide +kernel
theorem d_Desk_group_13 : decode c_Desk_group 13 = .ok (.invokespecial 56, 3) := by decide +kernel
theorem d_Desk_group_16 : decode c_Desk_group 16 = .ok (.athrow, 1) := by decide +kernel
theorem d_Desk_group_17 : decode c_Desk_group 17 = .ok (.iload_n 1, 1) := by decide +kernel
theorem d_Desk_group_18 : decode c_Desk_group 18 = .ok (.ifCond .lt 14, 3) := by decide +kernel
theorem d_Desk_group_21 : decode c_Desk_group 21 = .ok (.iload_n 1, 1) := by decide +kernel
theorem d_Desk_group_22 : decode c_Desk_group 22 = .ok (.aload_n 0, 1) := by decide +kernel
theorem d_Desk_group_23 : decode c_Desk_group 23 = .ok (.getfield 16, 3) := by decide +kernel
theorem d_Desk_group_26 : decode c_Desk_group 26 = .ok (.getfield 83, 3) := by decide +kernel
theorem d_Desk_group_29 : decode c_Desk_group 29 = .ok (.if_icmp .le 13, 3) := by decide +kernel
theorem d_Desk_group_32 : decode c_Desk_group 32 = .ok (.new 42, 3) := by decide +kernel
theorem d_Desk_group_35 : decode c_Desk_group 35 = .ok (.dup, 1) := by decide +kernel
theorem d_Desk_group_36 : decode c_Desk_group 36 = .ok (.ldc 109, 2) := by decide +kernel
theorem d_Desk_group_38 : decode c_Desk_group 38 = .ok (.invokespecial 46, 3) := by decide +kernel
theorem d_Desk_group_41 : decode c_Desk_group 41 = .ok (.athrow, 1) := by decide +kernel
theorem d_Desk_group_42 : decode c_Desk_group 42 = .ok (.iload_n 2, 1) := by decide +kernel
theorem d_Desk_group_43 : decode c_Desk_group 43 = .ok (.ifCond .eq 14, 3) := by decide +kernel
theorem d_Desk_group_46 : decode c_Desk_group 46 = .ok (.aload_n 0, 1) := by decide +kernel
theorem d_Desk_group_47 : decode c_Desk_group 47 = .ok (.getfield 34, 3) := by decide +kernel
theorem d_Desk_group_50 : decode c_Desk_group 50 = .ok (.iload_n 1, 1) := by decide +kernel
theorem d_Desk_group_51 : decode c_Desk_group 51 = .ok (.invokevirtual 111, 3) := by decide +kernel
theorem d_Desk_group_54 : decode c_Desk_group 54 = .ok (.goto 11, 3) := by decide +kernel
theorem d_Desk_group_57 : decode c_Desk_group 57 = .ok (.aload_n 0, 1) := by decide +kernel
theorem d_Desk_group_58 : decode c_Desk_group 58 = .ok (.getfield 34, 3) := by decide +kernel
theorem d_Desk_group_61 : decode c_Desk_group 61 = .ok (.iload_n 1, 1) := by decide +kernel
theorem d_Desk_group_62 : decode c_Desk_group 62 = .ok (.invokevirtual 114, 3) := by decide +kernel
theorem d_Desk_group_65 : decode c_Desk_group 65 = .ok (.ireturn, 1) := by decide +kernel
theorem d_Desk_checkTry_0 : decode c_Desk_checkTry 0 = .ok (.iload_n 1, 1) := by decide +kernel
theorem d_Desk_checkTry_1 : decode c_Desk_checkTry 1 = .ok (.ifCond .lt 14, 3) := by decide +kernel
theorem d_Desk_checkTry_4 : decode c_Desk_checkTry 4 = .ok (.iload_n 1, 1) := by decide +kernel
theorem d_Desk_checkTry_5 : decode c_Desk_checkTry 5 = .ok (.aload_n 0, 1) := by decide +kernel
theorem d_Desk_checkTry_6 : decode c_Desk_checkTry 6 = .ok (.getfield 34, 3) := by decide +kernel
theorem d_Desk_checkTry_9 : decode c_Desk_checkTry 9 = .ok (.getfield 104, 3) := by decide +kernel
theorem d_Desk_checkTry_12 : decode c_Desk_checkTry 12 = .ok (.if_icmp .le 13, 3) := by decide +kernel
theorem d_Desk_checkTry_15 : decode c_Desk_checkTry 15 = .ok (.new 42, 3) := by decide +kernel
theorem d_Desk_checkTry_18 : decode c_Desk_checkTry 18 = .ok (.dup, 1) := by decide +kernel
theorem d_Desk_checkTry_19 : decode c_Desk_checkTry 19 = .ok (.ldc 120, 2) := by decide +kernel
theorem d_Desk_checkTry_21 : decode c_Desk_checkTry 21 = .ok (.invokespecial 46, 3) := by decide +kernel
theorem d_Desk_checkTry_24 : decode c_Desk_checkTry 24 = .ok (.athrow, 1) := by decide +kernel
theorem d_Desk_checkTry_25 : decode c_Desk_checkTry 25 = .ok (.iload_n 2, 1) := by decide +kernel
theorem d_Desk_checkTry_26 : decode c_Desk_checkTry 26 = .ok (.iconst 1, 1) := by decide +kernel
theorem d_Desk_checkTry_27 : decode c_Desk_checkTry 27 = .ok (.if_icmp .lt 10, 3) := by decide +kernel
theorem d_Desk_checkTry_30 : decode c_Desk_checkTry 30 = .ok (.iload_n 2, 1) := by decide +kernel
theorem d_Desk_checkTry_31 : decode c_Desk_checkTry 31 = .ok (.sipush 10000, 3) := by decide +kernel
theorem d_Desk_checkTry_34 : decode c_Desk_checkTry 34 = .ok (.if_icmp .le 13, 3) := by decide +kernel
theorem d_Desk_checkTry_37 : decode c_Desk_checkTry 37 = .ok (.new 42, 3) := by decide +kernel
theorem d_Desk_checkTry_40 : decode c_Desk_checkTry 40 = .ok (.dup, 1) := by decide +kernel
theorem d_Desk_checkTry_41 : decode c_Desk_checkTry 41 = .ok (.ldc 122, 2) := by decide +kernel
theorem d_Desk_checkTry_43 : decode c_Desk_checkTry 43 = .ok (.invokespecial 46, 3) := by decide +kernel
theorem d_Desk_checkTry_46 : decode c_Desk_checkTry 46 = .ok (.athrow, 1) := by decide +kernel
theorem d_Desk_checkTry_47 : decode c_Desk_checkTry 47 = .ok (.aload_n 0, 1) := by decide +kernel
theorem d_Desk_checkTry_48 : decode c_Desk_checkTry 48 = .ok (.getfield 72, 3) := by decide +kernel
theorem d_Desk_checkTry_51 : decode c_Desk_checkTry 51 = .ok (.ifCond .ne 13, 3) := by decide +kernel
theorem d_Desk_checkTry_54 : decode c_Desk_checkTry 54 = .ok (.new 52, 3) := by decide +kernel
theorem d_Desk_checkTry_57 : decode c_Desk_checkTry 57 = .ok (.dup, 1) := by decide +kernel
theorem d_Desk_checkTry_58 : decode c_Desk_checkTry 58 = .ok (.ldc 124, 2) := by decide +kernel
theorem d_Desk_checkTry_60 : decode c_Desk_checkTry 60 = .ok (.invokespecial 56, 3) := by decide +kernel
theorem d_Desk_checkTry_63 : decode c_Desk_checkTry 63 = .ok (.athrow, 1) := by decide +kernel
theorem d_Desk_checkTry_64 : decode c_Desk_checkTry 64 = .ok (.return_, 1) := by decide +kernel
theorem d_Desk_match_0 : decode c_Desk_match 0 = .ok (.aload_n 0, 1) := by decide +kernel
theorem d_Desk_match_1 : decode c_Desk_match 1 = .ok (.iload_n 1, 1) := by decide +kernel
theorem d_Desk_match_2 : decode c_Desk_match 2 = .ok (.iload_n 2, 1) := by decide +kernel
theorem d_Desk_match_3 : decode c_Desk_match 3 = .ok (.invokevirtual 90, 3) := by decide +kernel
theorem d_Desk_match_6 : decode c_Desk_match 6 = .ok (.aload_n 0, 1) := by decide +kernel
theorem d_Desk_match_7 : decode c_Desk_match 7 = .ok (.getfield 34, 3) := by decide +kernel
theorem d_Desk_match_10 : decode c_Desk_match 10 = .ok (.iload_n 2, 1) := by decide +kernel
theorem d_Desk_match_11 : decode c_Desk_match 11 = .ok (.invokevirtual 94, 3) := by decide +kernel
theorem d_Desk_match_14 : decode c_Desk_match 14 = .ok (.aload_n 0, 1) := by decide +kernel
theorem d_Desk_match_15 : decode c_Desk_match 15 = .ok (.aload_n 0, 1) := by decide +kernel
theorem d_Desk_match_16 : decode c_Desk_match 16 = .ok (.getfield 34, 3) := by decide +kernel
theorem d_Desk_match_19 : decode c_Desk_match 19 = .ok (.iload_n 1, 1) := by decide +kernel
theorem d_Desk_match_20 : decode c_Desk_match 20 = .ok (.invokevirtual 98, 3) := by decide +kernel
theorem d_Desk_match_23 : decode c_Desk_match 23 = .ok (.invokevirtual 101, 3) := by decide +kernel
theorem d_Desk_match_26 : decode c_Desk_match 26 = .ok (.ireturn, 1) := by decide +kernel
theorem d_Desk_find_0 : decode c_Desk_find 0 = .ok (.aload_n 0, 1) := by decide +kernel
theorem d_Desk_find_1 : decode c_Desk_find 1 = .ok (.iload_n 1, 1) := by decide +kernel
theorem d_Desk_find_2 : decode c_Desk_find 2 = .ok (.iload_n 2, 1) := by decide +kernel
theorem d_Desk_find_3 : decode c_Desk_find 3 = .ok (.invokevirtual 90, 3) := by decide +kernel
theorem d_Desk_find_6 : decode c_Desk_find 6 = .ok (.aload_n 0, 1) := by decide +kernel
theorem d_Desk_find_7 : decode c_Desk_find 7 = .ok (.getfield 34, 3) := by decide +kernel
theorem d_Desk_find_10 : decode c_Desk_find 10 = .ok (.iload_n 2, 1) := by decide +kernel
theorem d_Desk_find_11 : decode c_Desk_find 11 = .ok (.invokevirtual 94, 3) := by decide +kernel
theorem d_Desk_find_14 : decode c_Desk_find 14 = .ok (.iconst 0, 1) := by decide +kernel
theorem d_Desk_find_15 : decode c_Desk_find 15 = .ok (.istore_n 3, 1) := by decide +kernel
theorem d_Desk_find_16 : decode c_Desk_find 16 = .ok (.iload_n 1, 1) := by decide +kernel
theorem d_Desk_find_17 : decode c_Desk_find 17 = .ok (.istore 4, 2) := by decide +kernel
theorem d_Desk_find_19 : decode c_Desk_find 19 = .ok (.iload 4, 2) := by decide +kernel
theorem d_Desk_find_21 : decode c_Desk_find 21 = .ok (.aload_n 0, 1) := by decide +kernel
theorem d_Desk_find_22 : decode c_Desk_find 22 = .ok (.getfield 34, 3) := by decide +kernel
theorem d_Desk_find_25 : decode c_Desk_find 25 = .ok (.getfield 104, 3) := by decide +kernel
theorem d_Desk_find_28 : decode c_Desk_find 28 = .ok (.if_icmp .gt 23, 3) := by decide +kernel
theorem d_Desk_find_31 : decode c_Desk_find 31 = .ok (.iload_n 3, 1) := by decide +kernel
theorem d_Desk_find_32 : decode c_Desk_find 32 = .ok (.ifCond .ne 19, 3) := by decide +kernel
theorem d_Desk_find_35 : decode c_Desk_find 35 = .ok (.aload_n 0, 1) := by decide +kernel
theorem d_Desk_find_36 : decode c_Desk_find 36 = .ok (.getfield 34, 3) := by decide +kernel
theorem d_Desk_find_39 : decode c_Desk_find 39 = .ok (.iload 4, 2) := by decide +kernel
theorem d_Desk_find_41 : decode c_Desk_find 41 = .ok (.invokevirtual 98, 3) := by decide +kernel
theorem d_Desk_find_44 : decode c_Desk_find 44 = .ok (.istore_n 3, 1) := by decide +kernel
theorem d_Desk_find_45 : decode c_Desk_find 45 = .ok (.iinc 4 1, 3) := by decide +kernel
theorem d_Desk_find_48 : decode c_Desk_find 48 = .ok (.goto (-29), 3) := by decide +kernel
theorem d_Desk_find_51 : decode c_Desk_find 51 = .ok (.aload_n 0, 1) := by decide +kernel
theorem d_Desk_find_52 : decode c_Desk_find 52 = .ok (.iload_n 3, 1) := by decide +kernel
theorem d_Desk_find_53 : decode c_Desk_find 53 = .ok (.invokevirtual 101, 3) := by decide +kernel
theorem d_Desk_find_56 : decode c_Desk_find 56 = .ok (.ireturn, 1) := by decide +kernel
theorem d_Desk_pattern_0 : decode c_Desk_pattern 0 = .ok (.aload_n 0, 1) := by decide +kernel
theorem d_Desk_pattern_1 : decode c_Desk_pattern 1 = .ok (.getfield 49, 3) := by decide +kernel
theorem d_Desk_pattern_4 : decode c_Desk_pattern 4 = .ok (.istore_n 3, 1) := by decide +kernel
theorem d_Desk_pattern_5 : decode c_Desk_pattern 5 = .ok (.aload_n 0, 1) := by decide +kernel
theorem d_Desk_pattern_6 : decode c_Desk_pattern 6 = .ok (.iconst 0, 1) := by decide +kernel
theorem d_Desk_pattern_7 : decode c_Desk_pattern 7 = .ok (.putfield 49, 3) := by decide +kernel
theorem d_Desk_pattern_10 : decode c_Desk_pattern 10 = .ok (.aload_n 0, 1) := by decide +kernel
theorem d_Desk_pattern_11 : decode c_Desk_pattern 11 = .ok (.iconst 0, 1) := by decide +kernel
theorem d_Desk_pattern_12 : decode c_Desk_pattern 12 = .ok (.putfield 64, 3) := by decide +kernel
theorem d_Desk_pattern_15 : decode c_Desk_pattern 15 = .ok (.aload_n 0, 1) := by decide +kernel
theorem d_Desk_pattern_16 : decode c_Desk_pattern 16 = .ok (.iload_n 3, 1) := by decide +kernel
theorem d_Desk_pattern_17 : decode c_Desk_pattern 17 = .ok (.sipush 200, 3) := by decide +kernel
theorem d_Desk_pattern_20 : decode c_Desk_pattern 20 = .ok (.if_icmp .le 9, 3) := by decide +kernel
theorem d_Desk_pattern_23 : decode c_Desk_pattern 23 = .ok (.sipush 200, 3) := by decide +kernel
theorem d_Desk_pattern_26 : decode c_Desk_pattern 26 = .ok (.goto 11, 3) := by decide +kernel
theorem d_Desk_pattern_29 : decode c_Desk_pattern 29 = .ok (.aload_n 0, 1) := by decide +kernel
theorem d_Desk_pattern_30 : decode c_Desk_pattern 30 = .ok (.getfield 25, 3) := by decide +kernel
theorem d_Desk_pattern_33 : decode c_Desk_pattern 33 = .ok (.iload_n 3, 1) := by decide +kernel
theorem d_Desk_pattern_34 : decode c_Desk_pattern 34 = .ok (.invokevirtual 68, 3) := by decide +kernel
theorem d_Desk_pattern_37 : decode c_Desk_pattern 37 = .ok (.putfield 38, 3) := by decide +kernel
theorem d_Desk_pattern_40 : decode c_Desk_pattern 40 = .ok (.aload_n 0, 1) := by decide +kernel
theorem d_Desk_pattern_41 : decode c_Desk_pattern 41 = .ok (.aload_n 0, 1) := by decide +kernel
theorem d_Desk_pattern_42 : decode c_Desk_pattern 42 = .ok (.getfield 38, 3) := by decide +kernel
theorem d_Desk_pattern_45 : decode c_Desk_pattern 45 = .ok (.ifCond .ge 7, 3) := by decide +kernel
theorem d_Desk_pattern_48 : decode c_Desk_pattern 48 = .ok (.iconst 1, 1) := by decide +kernel
theorem d_Desk_pattern_49 : decode c_Desk_pattern 49 = .ok (.goto 4, 3) := by decide +kernel
theorem d_Desk_pattern_52 : decode c_Desk_pattern 52 = .ok (.iconst 0, 1) := by decide +kernel
theorem d_Desk_pattern_53 : decode c_Desk_pattern 53 = .ok (.putfield 72, 3) := by decide +kernel
theorem d_Desk_pattern_56 : decode c_Desk_pattern 56 = .ok (.aload_n 0, 1) := by decide +kernel
theorem d_Desk_pattern_57 : decode c_Desk_pattern 57 = .ok (.getfield 72, 3) := by decide +kernel
theorem d_Desk_pattern_60 : decode c_Desk_pattern 60 = .ok (.ifCond .ne 13, 3) := by decide +kernel
theorem d_Desk_pattern_63 : decode c_Desk_pattern 63 = .ok (.new 42, 3) := by decide +kernel
theorem d_Desk_pattern_66 : decode c_Desk_pattern 66 = .ok (.dup, 1) := by decide +kernel
theorem d_Desk_pattern_67 : decode c_Desk_pattern 67 = .ok (.ldc 75, 2) := by decide +kernel
theorem d_Desk_pattern_69 : decode c_Desk_pattern 69 = .ok (.invokespecial 46, 3) := by decide +kernel
theorem d_Desk_pattern_72 : decode c_Desk_pattern 72 = .ok (.athrow, 1) := by decide +kernel
theorem d_Desk_pattern_73 : decode c_Desk_pattern 73 = .ok (.aload_n 0, 1) := by decide +kernel
theorem d_Desk_pattern_74 : decode c_Desk_pattern 74 = .ok (.getfield 16, 3) := by decide +kernel
theorem d_Desk_pattern_77 : decode c_Desk_pattern 77 = .ok (.iload_n 1, 1) := by decide +kernel
theorem d_Desk_pattern_78 : decode c_Desk_pattern 78 = .ok (.putfield 77, 3) := by decide +kernel
theorem d_Desk_pattern_81 : decode c_Desk_pattern 81 = .ok (.aload_n 0, 1) := by decide +kernel
theorem d_Desk_pattern_82 : decode c_Desk_pattern 82 = .ok (.getfield 16, 3) := by decide +kernel
theorem d_Desk_pattern_85 : decode c_Desk_pattern 85 = .ok (.iload_n 2, 1) := by decide +kernel
theorem d_Desk_pattern_86 : decode c_Desk_pattern 86 = .ok (.putfield 80, 3) := by decide +kernel
theorem d_Desk_pattern_89 : decode c_Desk_pattern 89 = .ok (.aload_n 0, 1) := by decide +kernel
theorem d_Desk_pattern_90 : decode c_Desk_pattern 90 = .ok (.getfield 16, 3) := by decide +kernel
theorem d_Desk_pattern_93 : decode c_Desk_pattern 93 = .ok (.getfield 83, 3) := by decide +kernel
theorem d_Desk_pattern_96 : decode c_Desk_pattern 96 = .ok (.ireturn, 1) := by decide +kernel
def Desk_put_b10 (N : Nat) (σ : g_S) : Option (g_R × g_S) := some (.inr false, σ)
theorem Desk_put_p10 (ao aa : Nat → Nat) {X : g_X} (hC : gC X c_Desk_put R_Desk 6 90 6 (some .int)) (N : Nat) (σ : g_S) (r : g_R) (σe : g_S) (hT : g_isT r = true → g_T X) (hf : Desk_put_b10 N σ = some (r, σe)) : gw X (g_oi r) (LC ao aa X.2.2.1 σe) (LC ao aa X.2.2.1 σ) [(0, .ref (ao 0))] 10 [] := by
  unfold Desk_put_b10 at hf
  cases hf
  exact gw_throw (text := "n is not 1 .. 4") hC (hT rfl) kx_cl_42 kx_in_I kx_ib_I (by decide +kernel) g_atI (by decide +kernel) ⟨by decide, by decide⟩ d_Desk_put_10 d_Desk_put_13 d_Desk_put_14 d_Desk_put_16 d_Desk_put_19
def Desk_put_b94 (N : Nat) (σ : g_S) : Option (g_R × g_S) := some (.inl (σ.1 0), σ)
theorem Desk_put_p94 (ao aa : Nat → Nat) {X : g_X} (hC : gC X c_Desk_put R_Desk 6 90 6 (some .int)) (N : Nat) (σ : g_S) (r : g_R) (σe : g_S) (hT : g_isT r = true → g_T X) (hf : Desk_put_b94 N σ = some (r, σe)) : gw X (g_oi r) (LC ao aa X.2.2.1 σe) (LC ao aa X.2.2.1 σ) [(0, .ref (ao 0))] 94 [] := by
  unfold Desk_put_b94 at hf
  refine gw_aload_n hC 0 d_Desk_put_94 rfl rfl ?_
  refine Cg0 hC kf_Desk_49 d_Desk_put_95 (σ.1 0) rfl ?_
  cases hf
  exact gw_iret hC d_Desk_put_98
def Desk_put_b52 (N : Nat) (k47 : Int64 → Int32 → g_S → Option (g_R × g_S)) (x1 : Int64) (x4 : Int32) (σ : g_S) : Option (g_R × g_S) := (Rows_write N 0 (σ.1 0) ((((x1).toUInt64 >>> (((16 * x4) : Int32).toInt64.toUInt64 &&& Int64.toUInt64 63)).toInt64).toInt32 &&& 65535) σ).bind fun q75 => k47 x1 (x4 + (-1)) (gF q75.2 0 ((q75.2.1 0) + 1))
theorem Desk_put_p52 (ao aa : Nat → Nat) {X : g_X} (hC : gC X c_Desk_put R_Desk 6 90 6 (some .int)) (N : Nat) (k47 : Int64 → Int32 → g_S → Option (g_R × g_S)) (hk47 : ∀ (x1 : Int64) (x4 : Int32) (σ : g_S) (r : g_R) (σe : g_S), (g_isT r = true → g_T X) → k47 x1 x4 σ = some (r, σe) → gw X (g_oi r) (LC ao aa X.2.2.1 σe) (LC ao aa X.2.2.1 σ) [(0, .ref (ao 0)), (1, .long x1), (4, .int x4)] 47 []) (x1 : Int64) (x4 : Int32) (σ : g_S) (r : g_R) (σe : g_S) (hT : g_isT r = true → g_T X) (hf : Desk_put_b52 N k47 x1 x4 σ = some (r, σe)) : gw X (g_oi r) (LC ao aa X.2.2.1 σe) (LC ao aa X.2.2.1 σ) [(0, .ref (ao 0)), (1, .long x1), (4, .int x4)] 52 [] := by
  unfold Desk_put_b52 at hf
  refine gw_lload_n hC 1 d_Desk_put_52 rfl rfl ?_
  refine gw_bipush hC 16 d_Desk_put_53 (by decide) ?_
  refine gw_iload hC 2 d_Desk_put_55 rfl ?_
  refine gw_imul hC d_Desk_put_57 ?_
  refine gw_lushr hC d_Desk_put_58 ?_
  refine gw_l2i hC d_Desk_put_59 ?_
  refine gw_ldc hC 65535 kn_Desk_57 d_Desk_put_60 ?_
  refine gw_iand hC d_Desk_put_62 ?_
  refine gw_istore hC [(5, .int ((((x1).toUInt64 >>> (((16 * x4) : Int32).toInt64.toUInt64 &&& Int64.toUInt64 63)).toInt64).toInt32 &&& 65535)), (0, .ref (ao 0)), (1, .long x1), (4, .int x4)] d_Desk_put_63 (by decide) rfl ?_
  refine gw_aload_n hC 1 d_Desk_put_65 rfl rfl ?_
  refine Cr_Desk_told hC kf_Desk_9 d_Desk_put_66 ?_
  refine gw_aload_n hC 1 d_Desk_put_69 rfl rfl ?_
  refine Cg0 hC kf_Desk_49 d_Desk_put_70 (σ.1 0) rfl ?_
  refine gw_iload hC 0 d_Desk_put_73 rfl ?_
  obtain ⟨q75, hq75, hf⟩ := g_bind hf
  refine gw_callS hC [.ref (aa 0), .int (σ.1 0), .int ((((x1).toUInt64 >>> (((16 * x4) : Int32).toInt64.toUInt64 &&& Int64.toUInt64 63)).toInt64).toInt32 &&& 65535)] [] (Rows_write_m _ _ _ ao aa N _ _ _ _ _ _ hq75) kc_Desk_58 ⟨by decide, by decide⟩ (Nat.le_of_ble_eq_true rfl) [.int ((((x1).toUInt64 >>> (((16 * x4) : Int32).toInt64.toUInt64 &&& Int64.toUInt64 63)).toInt64).toInt32 &&& 65535), .int (σ.1 0), .ref (aa 0)] [] rfl rfl d_Desk_put_75 ?_
  refine gw_aload_n hC 1 d_Desk_put_78 rfl rfl ?_
  refine gw_dup hC d_Desk_put_79 rfl ?_
  refine Cg0 hC kf_Desk_49 d_Desk_put_80 (q75.2.1 0) rfl ?_
  refine gw_iconst hC 1 d_Desk_put_83 (by decide) ?_
  refine gw_iadd hC d_Desk_put_84 ?_
  refine Cp0 hC kf_Desk_49 d_Desk_put_85 ?_
  refine gw_iinc hC (x4 + (-1)) 3 [(4, .int (x4 + (-1))), (5, .int ((((x1).toUInt64 >>> (((16 * x4) : Int32).toInt64.toUInt64 &&& Int64.toUInt64 63)).toInt64).toInt32 &&& 65535)), (0, .ref (ao 0)), (1, .long x1)] d_Desk_put_88 rfl rfl (by decide) rfl ?_
  refine gw_goto hC 47 d_Desk_put_91 (by decide) ?_
  refine gw_lv [2, 3, 0] rfl ?_
  exact hk47 _ _ _ _ _ hT hf
def Desk_put_b47 (N : Nat) (k47 : Int64 → Int32 → g_S → Option (g_R × g_S)) (x1 : Int64) (x4 : Int32) (σ : g_S) : Option (g_R × g_S) := if x4 < 0 then Desk_put_b94 N σ else Desk_put_b52 N k47 x1 x4 σ
theorem Desk_put_p47 (ao aa : Nat → Nat) {X : g_X} (hC : gC X c_Desk_put R_Desk 6 90 6 (some .int)) (N : Nat) (k47 : Int64 → Int32 → g_S → Option (g_R × g_S)) (hk47 : ∀ (x1 : Int64) (x4 : Int32) (σ : g_S) (r : g_R) (σe : g_S), (g_isT r = true → g_T X) → k47 x1 x4 σ = some (r, σe) → gw X (g_oi r) (LC ao aa X.2.2.1 σe) (LC ao aa X.2.2.1 σ) [(0, .ref (ao 0)), (1, .long x1), (4, .int x4)] 47 []) (x1 : Int64) (x4 : Int32) (σ : g_S) (r : g_R) (σe : g_S) (hT : g_isT r = true → g_T X) (hf : Desk_put_b47 N k47 x1 x4 σ = some (r, σe)) : gw X (g_oi r) (LC ao aa X.2.2.1 σe) (LC ao aa X.2.2.1 σ) [(0, .ref (ao 0)), (1, .long x1), (4, .int x4)] 47 [] := by
  unfold Desk_put_b47 at hf
  refine gw_iload hC 2 d_Desk_put_47 rfl ?_
  refine gw_if_lt hC 94 d_Desk_put_49 (by decide) (fun hh => ?_) (fun hh => ?_)
  · rw [if_pos hh] at hf
    refine gw_lv [0] rfl ?_
    exact Desk_put_p94 ao aa hC N _ _ _ hT hf
  · rw [if_neg hh] at hf
    exact Desk_put_p52 ao aa hC N _ hk47 _ _ _ _ _ hT hf
def Desk_put_l47 (N : Nat) : Nat → Int64 → Int32 → g_S → Option (g_R × g_S)
  | 0 => fun _ _ _ => none
  | n + 1 => fun x1 x4 σ => Desk_put_b47 N (Desk_put_l47 N n) x1 x4 σ
theorem Desk_put_q47 (ao aa : Nat → Nat) {X : g_X} (hC : gC X c_Desk_put R_Desk 6 90 6 (some .int)) (N : Nat) (n : Nat) : ∀ (x1 : Int64) (x4 : Int32) (σ : g_S) (r : g_R) (σe : g_S), (g_isT r = true → g_T X) → Desk_put_l47 N n x1 x4 σ = some (r, σe) → gw X (g_oi r) (LC ao aa X.2.2.1 σe) (LC ao aa X.2.2.1 σ) [(0, .ref (ao 0)), (1, .long x1), (4, .int x4)] 47 [] := by
  induction n with
  | zero => intro x1 x4 σ r σe hT hf; cases hf
  | succ n ih => intro x1 x4 σ r σe hT hf; exact Desk_put_p47 ao aa hC N _ (fun x1 x4 σ r2 σ2 ht2 h2 => ih x1 x4 σ r2 σ2 ht2 h2) x1 x4 σ r σe hT hf
def Desk_put_b42 (N : Nat) (x1 : Int64) (x3 : Int32) (σ : g_S) : Option (g_R × g_S) := Desk_put_l47 N N x1 (x3 - 1) σ
theorem Desk_put_p42 (ao aa : Nat → Nat) {X : g_X} (hC : gC X c_Desk_put R_Desk 6 90 6 (some .int)) (N : Nat) (x1 : Int64) (x3 : Int32) (σ : g_S) (r : g_R) (σe : g_S) (hT : g_isT r = true → g_T X) (hf : Desk_put_b42 N x1 x3 σ = some (r, σe)) : gw X (g_oi r) (LC ao aa X.2.2.1 σe) (LC ao aa X.2.2.1 σ) [(0, .ref (ao 0)), (1, .long x1), (3, .int x3)] 42 [] := by
  unfold Desk_put_b42 at hf
  refine gw_iload_n hC 2 d_Desk_put_42 rfl rfl ?_
  refine gw_iconst hC 1 d_Desk_put_43 (by decide) ?_
  refine gw_isub hC d_Desk_put_44 ?_
  refine gw_istore hC [(4, .int (x3 - 1)), (0, .ref (ao 0)), (1, .long x1), (3, .int x3)] d_Desk_put_45 (by decide) rfl ?_
  refine gw_lv [1, 2, 0] rfl ?_
  exact Desk_put_q47 ao aa hC N N _ _ _ _ _ hT hf
def Desk_put_b32 (N : Nat) (σ : g_S) : Option (g_R × g_S) := some (.inr true, σ)
theorem Desk_put_p32 (ao aa : Nat → Nat) {X : g_X} (hC : gC X c_Desk_put R_Desk 6 90 6 (some .int)) (N : Nat) (σ : g_S) (r : g_R) (σe : g_S) (hT : g_isT r = true → g_T X) (hf : Desk_put_b32 N σ = some (r, σe)) : gw X (g_oi r) (LC ao aa X.2.2.1 σe) (LC ao aa X.2.2.1 σ) [(0, .ref (ao 0))] 32 [] := by
  unfold Desk_put_b32 at hf
  cases hf
  exact gw_throw (text := "there would be more than 600 units") hC (hT rfl) kx_cl_52 kx_in_S kx_ib_S (by decide +kernel) g_atS (by decide +kernel) ⟨by decide, by decide⟩ d_Desk_put_32 d_Desk_put_35 d_Desk_put_36 d_Desk_put_38 d_Desk_put_41
def Desk_put_b20 (N : Nat) (x1 : Int64) (x3 : Int32) (σ : g_S) : Option (g_R × g_S) := if ((σ.1 0) + x3) ≤ 600 then Desk_put_b42 N x1 x3 σ else Desk_put_b32 N σ
theorem Desk_put_p20 (ao aa : Nat → Nat) {X : g_X} (hC : gC X c_Desk_put R_Desk 6 90 6 (some .int)) (N : Nat) (x1 : Int64) (x3 : Int32) (σ : g_S) (r : g_R) (σe : g_S) (hT : g_isT r = true → g_T X) (hf : Desk_put_b20 N x1 x3 σ = some (r, σe)) : gw X (g_oi r) (LC ao aa X.2.2.1 σe) (LC ao aa X.2.2.1 σ) [(0, .ref (ao 0)), (1, .long x1), (3, .int x3)] 20 [] := by
  unfold Desk_put_b20 at hf
  refine gw_aload_n hC 0 d_Desk_put_20 rfl rfl ?_
  refine Cg0 hC kf_Desk_49 d_Desk_put_21 (σ.1 0) rfl ?_
  refine gw_iload_n hC 2 d_Desk_put_24 rfl rfl ?_
  refine gw_iadd hC d_Desk_put_25 ?_
  refine gw_sipush hC 600 d_Desk_put_26 (by decide) ?_
  refine gw_icmp_le hC 42 d_Desk_put_29 (by decide) (fun hh => ?_) (fun hh => ?_)
  · rw [if_pos hh] at hf
    exact Desk_put_p42 ao aa hC N _ _ _ _ _ hT hf
  · rw [if_neg hh] at hf
    refine gw_lv [0] rfl ?_
    exact Desk_put_p32 ao aa hC N _ _ _ hT hf
def Desk_put_b5 (N : Nat) (x1 : Int64) (x3 : Int32) (σ : g_S) : Option (g_R × g_S) := if x3 ≤ 4 then Desk_put_b20 N x1 x3 σ else Desk_put_b10 N σ
theorem Desk_put_p5 (ao aa : Nat → Nat) {X : g_X} (hC : gC X c_Desk_put R_Desk 6 90 6 (some .int)) (N : Nat) (x1 : Int64) (x3 : Int32) (σ : g_S) (r : g_R) (σe : g_S) (hT : g_isT r = true → g_T X) (hf : Desk_put_b5 N x1 x3 σ = some (r, σe)) : gw X (g_oi r) (LC ao aa X.2.2.1 σe) (LC ao aa X.2.2.1 σ) [(0, .ref (ao 0)), (1, .long x1), (3, .int x3)] 5 [] := by
  unfold Desk_put_b5 at hf
  refine gw_iload_n hC 2 d_Desk_put_5 rfl rfl ?_
  refine gw_iconst hC 4 d_Desk_put_6 (by decide) ?_
  refine gw_icmp_le hC 20 d_Desk_put_7 (by decide) (fun hh => ?_) (fun hh => ?_)
  · rw [if_pos hh] at hf
    exact Desk_put_p20 ao aa hC N _ _ _ _ _ hT hf
  · rw [if_neg hh] at hf
    refine gw_lv [0] rfl ?_
    exact Desk_put_p10 ao aa hC N _ _ _ hT hf
def Desk_put_b0 (N : Nat) (x1 : Int64) (x3 : Int32) (σ : g_S) : Option (g_R × g_S) := if x3 < 1 then Desk_put_b10 N σ else Desk_put_b5 N x1 x3 σ
theorem Desk_put_p0 (ao aa : Nat → Nat) {X : g_X} (hC : gC X c_Desk_put R_Desk 6 90 6 (some .int)) (N : Nat) (x1 : Int64) (x3 : Int32) (σ : g_S) (r : g_R) (σe : g_S) (hT : g_isT r = true → g_T X) (hf : Desk_put_b0 N x1 x3 σ = some (r, σe)) : gw X (g_oi r) (LC ao aa X.2.2.1 σe) (LC ao aa X.2.2.1 σ) [(0, .ref (ao 0)), (1, .long x1), (3, .int x3)] 0 [] := by
  unfold Desk_put_b0 at hf
  refine gw_iload_n hC 2 d_Desk_put_0 rfl rfl ?_
  refine gw_iconst hC 1 d_Desk_put_1 (by decide) ?_
  refine gw_icmp_lt hC 10 d_Desk_put_2 (by decide) (fun hh => ?_) (fun hh => ?_)
  · rw [if_pos hh] at hf
    refine gw_lv [0] rfl ?_
    exact Desk_put_p10 ao aa hC N _ _ _ hT hf
  · rw [if_neg hh] at hf
    exact Desk_put_p5 ao aa hC N _ _ _ _ _ hT hf
def Desk_put (N : Nat) (x1 : Int64) (x3 : Int32) (σ : g_S) : Option (g_R × g_S) := Desk_put_b0 N x1 x3 σ
theorem Desk_put_m (l : Launch) (D : va_G) (cA : ClassId) (ao aa : Nat → Nat) (N : Nat) (x1 : Int64) (x3 : Int32) (σ : g_S) (r : Int32) (σe : g_S) (hf : Desk_put N x1 x3 σ = some (.inl r, σe)) : Mt l D cA y_Desk_put c_Desk_put 6 (some .int) 6 90 [.ref (ao 0), .long x1, .int x3] (LC ao aa cA σ) (some (.int r)) (LC ao aa cA σe) := by
  refine g_met (by decide +kernel) (by simp [lg_sl, Value.category]) (fun X e1 e2 e3 hC => ?_)
  subst e1 e2 e3
  refine gw_lv [0, 1, 2] rfl ?_
  exact Desk_put_p0 ao aa hC N _ _ _ (.inl r) _ (fun h => by cases h) hf
theorem Desk_put_t (l : Launch) (hfl : l.flags = flags0) (D : va_G) (cA : ClassId) (ao aa : Nat → Nat) (N : Nat) (x1 : Int64) (x3 : Int32) (σ : g_S) (b : Bool) (σe : g_S) (hf : Desk_put N x1 x3 σ = some (.inr b, σe)) : MtX l D cA y_Desk_put c_Desk_put 6 (some .int) 6 90 [.ref (ao 0), .long x1, .int x3] (LC ao aa cA σ) (g_cls b) (LC ao aa cA σe) := by
  refine g_metX hfl (by decide +kernel) (by simp [lg_sl, Value.category]) (fun X e1 e2 e3 hC hT => ?_)
  subst e1 e2 e3
  refine gw_lv [0, 1, 2] rfl ?_
  exact Desk_put_p0 ao aa hC N _ _ _ (.inr b) _ (fun _ => hT) hf
def Desk_group_b32 (N : Nat) (σ : g_S) : Option (g_R × g_S) := some (.inr false, σ)
theorem Desk_group_p32 (ao aa : Nat → Nat) {X : g_X} (hC : gC X c_Desk_group R_Desk 6 90 3 (some .int)) (N : Nat) (σ : g_S) (r : g_R) (σe : g_S) (hT : g_isT r = true → g_T X) (hf : Desk_group_b32 N σ = some (r, σe)) : gw X (g_oi r) (LC ao aa X.2.2.1 σe) (LC ao aa X.2.2.1 σ) [(0, .ref (ao 0))] 32 [] := by
  unfold Desk_group_b32 at hf
  cases hf
  exact gw_throw (text := "there is no such group") hC (hT rfl) kx_cl_42 kx_in_I kx_ib_I (by decide +kernel) g_atI (by decide +kernel) ⟨by decide, by decide⟩ d_Desk_group_32 d_Desk_group_35 d_Desk_group_36 d_Desk_group_38 d_Desk_group_41
def Desk_group_b65 (N : Nat) (s0 : Int32) (σ : g_S) : Option (g_R × g_S) := some (.inl s0, σ)
theorem Desk_group_p65 (ao aa : Nat → Nat) {X : g_X} (hC : gC X c_Desk_group R_Desk 6 90 3 (some .int)) (N : Nat) (s0 : Int32) (σ : g_S) (r : g_R) (σe : g_S) (hT : g_isT r = true → g_T X) (hf : Desk_group_b65 N s0 σ = some (r, σe)) : gw X (g_oi r) (LC ao aa X.2.2.1 σe) (LC ao aa X.2.2.1 σ) [(0, .ref (ao 0))] 65 [.int s0] := by
  unfold Desk_group_b65 at hf
  cases hf
  exact gw_iret hC d_Desk_group_65
def Desk_group_b57 (N : Nat) (x1 : Int32) (σ : g_S) : Option (g_R × g_S) := (Machine_groupBegin N x1 σ).bind fun q62 => Desk_group_b65 N q62.1 q62.2
theorem Desk_group_p57 (ao aa : Nat → Nat) {X : g_X} (hC : gC X c_Desk_group R_Desk 6 90 3 (some .int)) (N : Nat) (x1 : Int32) (σ : g_S) (r : g_R) (σe : g_S) (hT : g_isT r = true → g_T X) (hf : Desk_group_b57 N x1 σ = some (r, σe)) : gw X (g_oi r) (LC ao aa X.2.2.1 σe) (LC ao aa X.2.2.1 σ) [(0, .ref (ao 0)), (1, .int x1)] 57 [] := by
  unfold Desk_group_b57 at hf
  refine gw_aload_n hC 0 d_Desk_group_57 rfl rfl ?_
  refine Cr_Desk_machine hC kf_Desk_34 d_Desk_group_58 ?_
  refine gw_iload_n hC 1 d_Desk_group_61 rfl rfl ?_
  obtain ⟨q62, hq62, hf⟩ := g_bind hf
  refine gw_callV hC [.int x1] [] (Machine_groupBegin_m _ _ _ ao aa N _ _ _ _ hq62) kc_Desk_114 3 (g_lay_obj rfl) rfl rfl ⟨by decide, by decide⟩ (Nat.le_of_ble_eq_true rfl) [.int x1, .ref (ao 3)] [.int q62.1] rfl rfl d_Desk_group_62 ?_
  refine gw_lv [0] rfl ?_
  exact Desk_group_p65 ao aa hC N _ _ _ _ hT hf
def Desk_group_b46 (N : Nat) (x1 : Int32) (σ : g_S) : Option (g_R × g_S) := (Machine_groupEnd N x1 σ).bind fun q51 => Desk_group_b65 N q51.1 q51.2
theorem Desk_group_p46 (ao aa : Nat → Nat) {X : g_X} (hC : gC X c_Desk_group R_Desk 6 90 3 (some .int)) (N : Nat) (x1 : Int32) (σ : g_S) (r : g_R) (σe : g_S) (hT : g_isT r = true → g_T X) (hf : Desk_group_b46 N x1 σ = some (r, σe)) : gw X (g_oi r) (LC ao aa X.2.2.1 σe) (LC ao aa X.2.2.1 σ) [(0, .ref (ao 0)), (1, .int x1)] 46 [] := by
  unfold Desk_group_b46 at hf
  refine gw_aload_n hC 0 d_Desk_group_46 rfl rfl ?_
  refine Cr_Desk_machine hC kf_Desk_34 d_Desk_group_47 ?_
  refine gw_iload_n hC 1 d_Desk_group_50 rfl rfl ?_
  obtain ⟨q51, hq51, hf⟩ := g_bind hf
  refine gw_callV hC [.int x1] [] (Machine_groupEnd_m _ _ _ ao aa N _ _ _ _ hq51) kc_Desk_111 3 (g_lay_obj rfl) rfl rfl ⟨by decide, by decide⟩ (Nat.le_of_ble_eq_true rfl) [.int x1, .ref (ao 3)] [.int q51.1] rfl rfl d_Desk_group_51 ?_
  refine gw_goto hC 65 d_Desk_group_54 (by decide) ?_
  refine gw_lv [0] rfl ?_
  exact Desk_group_p65 ao aa hC N _ _ _ _ hT hf
def Desk_group_b42 (N : Nat) (x1 : Int32) (x2 : Int32) (σ : g_S) : Option (g_R × g_S) := if x2 = 0 then Desk_group_b57 N x1 σ else Desk_group_b46 N x1 σ
theorem Desk_group_p42 (ao aa : Nat → Nat) {X : g_X} (hC : gC X c_Desk_group R_Desk 6 90 3 (some .int)) (N : Nat) (x1 : Int32) (x2 : Int32) (σ : g_S) (r : g_R) (σe : g_S) (hT : g_isT r = true → g_T X) (hf : Desk_group_b42 N x1 x2 σ = some (r, σe)) : gw X (g_oi r) (LC ao aa X.2.2.1 σe) (LC ao aa X.2.2.1 σ) [(0, .ref (ao 0)), (1, .int x1), (2, .int x2)] 42 [] := by
  unfold Desk_group_b42 at hf
  refine gw_iload_n hC 2 d_Desk_group_42 rfl rfl ?_
  refine gw_if_eq hC 57 d_Desk_group_43 (by decide) (fun hh => ?_) (fun hh => ?_)
  · rw [if_pos hh] at hf
    refine gw_lv [0, 1] rfl ?_
    exact Desk_group_p57 ao aa hC N _ _ _ _ hT hf
  · rw [if_neg hh] at hf
    refine gw_lv [0, 1] rfl ?_
    exact Desk_group_p46 ao aa hC N _ _ _ _ hT hf
def Desk_group_b21 (N : Nat) (x1 : Int32) (x2 : Int32) (σ : g_S) : Option (g_R × g_S) := if x1 ≤ (σ.1 8) then Desk_group_b42 N x1 x2 σ else Desk_group_b32 N σ
theorem Desk_group_p21 (ao aa : Nat → Nat) {X : g_X} (hC : gC X c_Desk_group R_Desk 6 90 3 (some .int)) (N : Nat) (x1 : Int32) (x2 : Int32) (σ : g_S) (r : g_R) (σe : g_S) (hT : g_isT r = true → g_T X) (hf : Desk_group_b21 N x1 x2 σ = some (r, σe)) : gw X (g_oi r) (LC ao aa X.2.2.1 σe) (LC ao aa X.2.2.1 σ) [(0, .ref (ao 0)), (1, .int x1), (2, .int x2)] 21 [] := by
  unfold Desk_group_b21 at hf
  refine gw_iload_n hC 1 d_Desk_group_21 rfl rfl ?_
  refine gw_aload_n hC 0 d_Desk_group_22 rfl rfl ?_
  refine Cr_Desk_program hC kf_Desk_16 d_Desk_group_23 ?_
  refine Cg8 hC kf_Desk_83 d_Desk_group_26 (σ.1 8) rfl ?_
  refine gw_icmp_le hC 42 d_Desk_group_29 (by decide) (fun hh => ?_) (fun hh => ?_)
  · rw [if_pos hh] at hf
    exact Desk_group_p42 ao aa hC N _ _ _ _ _ hT hf
  · rw [if_neg hh] at hf
    refine gw_lv [0] rfl ?_
    exact Desk_group_p32 ao aa hC N _ _ _ hT hf
def Desk_group_b17 (N : Nat) (x1 : Int32) (x2 : Int32) (σ : g_S) : Option (g_R × g_S) := if x1 < 0 then Desk_group_b32 N σ else Desk_group_b21 N x1 x2 σ
theorem Desk_group_p17 (ao aa : Nat → Nat) {X : g_X} (hC : gC X c_Desk_group R_Desk 6 90 3 (some .int)) (N : Nat) (x1 : Int32) (x2 : Int32) (σ : g_S) (r : g_R) (σe : g_S) (hT : g_isT r = true → g_T X) (hf : Desk_group_b17 N x1 x2 σ = some (r, σe)) : gw X (g_oi r) (LC ao aa X.2.2.1 σe) (LC ao aa X.2.2.1 σ) [(0, .ref (ao 0)), (1, .int x1), (2, .int x2)] 17 [] := by
  unfold Desk_group_b17 at hf
  refine gw_iload_n hC 1 d_Desk_group_17 rfl rfl ?_
  refine gw_if_lt hC 32 d_Desk_group_18 (by decide) (fun hh => ?_) (fun hh => ?_)
  · rw [if_pos hh] at hf
    refine gw_lv [0] rfl ?_
    exact Desk_group_p32 ao aa hC N _ _ _ hT hf
  · rw [if_neg hh] at hf
    exact Desk_group_p21 ao aa hC N _ _ _ _ _ hT hf
def Desk_group_b7 (N : Nat) (σ : g_S) : Option (g_R × g_S) := some (.inr true, σ)
theorem Desk_group_p7 (ao aa : Nat → Nat) {X : g_X} (hC : gC X c_Desk_group R_Desk 6 90 3 (some .int)) (N : Nat) (σ : g_S) (r : g_R) (σe : g_S) (hT : g_isT r = true → g_T X) (hf : Desk_group_b7 N σ = some (r, σe)) : gw X (g_oi r) (LC ao aa X.2.2.1 σe) (LC ao aa X.2.2.1 σ) [(0, .ref (ao 0))] 7 [] := by
  unfold Desk_group_b7 at hf
  cases hf
  exact gw_throw (text := "there is no result") hC (hT rfl) kx_cl_52 kx_in_S kx_ib_S (by decide +kernel) g_atS (by decide +kernel) ⟨by decide, by decide⟩ d_Desk_group_7 d_Desk_group_10 d_Desk_group_11 d_Desk_group_13 d_Desk_group_16
def Desk_group_b0 (N : Nat) (x1 : Int32) (x2 : Int32) (σ : g_S) : Option (g_R × g_S) := if (σ.1 3) = 0 then Desk_group_b7 N σ else Desk_group_b17 N x1 x2 σ
theorem Desk_group_p0 (ao aa : Nat → Nat) {X : g_X} (hC : gC X c_Desk_group R_Desk 6 90 3 (some .int)) (N : Nat) (x1 : Int32) (x2 : Int32) (σ : g_S) (r : g_R) (σe : g_S) (hT : g_isT r = true → g_T X) (hf : Desk_group_b0 N x1 x2 σ = some (r, σe)) : gw X (g_oi r) (LC ao aa X.2.2.1 σe) (LC ao aa X.2.2.1 σ) [(0, .ref (ao 0)), (1, .int x1), (2, .int x2)] 0 [] := by
  unfold Desk_group_b0 at hf
  refine gw_aload_n hC 0 d_Desk_group_0 rfl rfl ?_
  refine Cg3 hC kf_Desk_64 d_Desk_group_1 (σ.1 3) rfl ?_
  refine gw_if_ne hC 17 d_Desk_group_4 (by decide) (fun hh => ?_) (fun hh => ?_)
  · rw [if_neg hh] at hf
    exact Desk_group_p17 ao aa hC N _ _ _ _ _ hT hf
  · rw [if_pos hh] at hf
    refine gw_lv [0] rfl ?_
    exact Desk_group_p7 ao aa hC N _ _ _ hT hf
def Desk_group (N : Nat) (x1 : Int32) (x2 : Int32) (σ : g_S) : Option (g_R × g_S) := Desk_group_b0 N x1 x2 σ
theorem Desk_group_m (l : Launch) (D : va_G) (cA : ClassId) (ao aa : Nat → Nat) (N : Nat) (x1 : Int32) (x2 : Int32) (σ : g_S) (r : Int32) (σe : g_S) (hf : Desk_group N x1 x2 σ = some (.inl r, σe)) : Mt l D cA y_Desk_group c_Desk_group 3 (some .int) 6 90 [.ref (ao 0), .int x1, .int x2] (LC ao aa cA σ) (some (.int r)) (LC ao aa cA σe) := by
  refine g_met (by decide +kernel) (by simp [lg_sl, Value.category]) (fun X e1 e2 e3 hC => ?_)
  subst e1 e2 e3
  refine gw_lv [0, 1, 2] rfl ?_
  exact Desk_group_p0 ao aa hC N _ _ _ (.inl r) _ (fun h => by cases h) hf
theorem Desk_group_t (l : Launch) (hfl : l.flags = flags0) (D : va_G) (cA : ClassId) (ao aa : Nat → Nat) (N : Nat) (x1 : Int32) (x2 : Int32) (σ : g_S) (b : Bool) (σe : g_S) (hf : Desk_group N x1 x2 σ = some (.inr b, σe)) : MtX l D cA y_Desk_group c_Desk_group 3 (some .int) 6 90 [.ref (ao 0), .int x1, .int x2] (LC ao aa cA σ) (g_cls b) (LC ao aa cA σe) := by
  refine g_metX hfl (by decide +kernel) (by simp [lg_sl, Value.category]) (fun X e1 e2 e3 hC hT => ?_)
  subst e1 e2 e3
  refine gw_lv [0, 1, 2] rfl ?_
  exact Desk_group_p0 ao aa hC N _ _ _ (.inr b) _ (fun _ => hT) hf
def Desk_checkTry_b15 (N : Nat) (σ : g_S) : Option (g_R × g_S) := some (.inr false, σ)
theorem Desk_checkTry_p15 (ao aa : Nat → Nat) {X : g_X} (hC : gC X c_Desk_checkTry R_Desk 6 90 3 none) (N : Nat) (σ : g_S) (r : g_R) (σe : g_S) (hT : g_isT r = true → g_T X) (hf : Desk_checkTry_b15 N σ = some (r, σe)) : gw X (g_ov r) (LC ao aa X.2.2.1 σe) (LC ao aa X.2.2.1 σ) [(0, .ref (ao 0))] 15 [] := by
  unfold Desk_checkTry_b15 at hf
  cases hf
  exact gw_throw (text := "there is no such place") hC (hT rfl) kx_cl_42 kx_in_I kx_ib_I (by decide +kernel) g_atI (by decide +kernel) ⟨by decide, by decide⟩ d_Desk_checkTry_15 d_Desk_checkTry_18 d_Desk_checkTry_19 d_Desk_checkTry_21 d_Desk_checkTry_24
def Desk_checkTry_b37 (N : Nat) (σ : g_S) : Option (g_R × g_S) := some (.inr false, σ)
theorem Desk_checkTry_p37 (ao aa : Nat → Nat) {X : g_X} (hC : gC X c_Desk_checkTry R_Desk 6 90 3 none) (N : Nat) (σ : g_S) (r : g_R) (σe : g_S) (hT : g_isT r = true → g_T X) (hf : Desk_checkTry_b37 N σ = some (r, σe)) : gw X (g_ov r) (LC ao aa X.2.2.1 σe) (LC ao aa X.2.2.1 σ) [(0, .ref (ao 0))] 37 [] := by
  unfold Desk_checkTry_b37 at hf
  cases hf
  exact gw_throw (text := "the fuel is not 1 .. 10,000") hC (hT rfl) kx_cl_42 kx_in_I kx_ib_I (by decide +kernel) g_atI (by decide +kernel) ⟨by decide, by decide⟩ d_Desk_checkTry_37 d_Desk_checkTry_40 d_Desk_checkTry_41 d_Desk_checkTry_43 d_Desk_checkTry_46
def Desk_checkTry_b64 (N : Nat) (σ : g_S) : Option (g_R × g_S) := some (.inl 0, σ)
theorem Desk_checkTry_p64 (ao aa : Nat → Nat) {X : g_X} (hC : gC X c_Desk_checkTry R_Desk 6 90 3 none) (N : Nat) (σ : g_S) (r : g_R) (σe : g_S) (hT : g_isT r = true → g_T X) (hf : Desk_checkTry_b64 N σ = some (r, σe)) : gw X (g_ov r) (LC ao aa X.2.2.1 σe) (LC ao aa X.2.2.1 σ) [(0, .ref (ao 0))] 64 [] := by
  unfold Desk_checkTry_b64 at hf
  cases hf
  exact gw_vret hC d_Desk_checkTry_64
def Desk_checkTry_b54 (N : Nat) (σ : g_S) : Option (g_R × g_S) := some (.inr true, σ)
theorem Desk_checkTry_p54 (ao aa : Nat → Nat) {X : g_X} (hC : gC X c_Desk_checkTry R_Desk 6 90 3 none) (N : Nat) (σ : g_S) (r : g_R) (σe : g_S) (hT : g_isT r = true → g_T X) (hf : Desk_checkTry_b54 N σ = some (r, σe)) : gw X (g_ov r) (LC ao aa X.2.2.1 σe) (LC ao aa X.2.2.1 σ) [(0, .ref (ao 0))] 54 [] := by
  unfold Desk_checkTry_b54 at hf
  cases hf
  exact gw_throw (text := "there is no pattern") hC (hT rfl) kx_cl_52 kx_in_S kx_ib_S (by decide +kernel) g_atS (by decide +kernel) ⟨by decide, by decide⟩ d_Desk_checkTry_54 d_Desk_checkTry_57 d_Desk_checkTry_58 d_Desk_checkTry_60 d_Desk_checkTry_63
def Desk_checkTry_b47 (N : Nat) (σ : g_S) : Option (g_R × g_S) := if (σ.1 2) = 0 then Desk_checkTry_b54 N σ else Desk_checkTry_b64 N σ
theorem Desk_checkTry_p47 (ao aa : Nat → Nat) {X : g_X} (hC : gC X c_Desk_checkTry R_Desk 6 90 3 none) (N : Nat) (σ : g_S) (r : g_R) (σe : g_S) (hT : g_isT r = true → g_T X) (hf : Desk_checkTry_b47 N σ = some (r, σe)) : gw X (g_ov r) (LC ao aa X.2.2.1 σe) (LC ao aa X.2.2.1 σ) [(0, .ref (ao 0))] 47 [] := by
  unfold Desk_checkTry_b47 at hf
  refine gw_aload_n hC 0 d_Desk_checkTry_47 rfl rfl ?_
  refine Cg2 hC kf_Desk_72 d_Desk_checkTry_48 (σ.1 2) rfl ?_
  refine gw_if_ne hC 64 d_Desk_checkTry_51 (by decide) (fun hh => ?_) (fun hh => ?_)
  · rw [if_neg hh] at hf
    exact Desk_checkTry_p64 ao aa hC N _ _ _ hT hf
  · rw [if_pos hh] at hf
    exact Desk_checkTry_p54 ao aa hC N _ _ _ hT hf
def Desk_checkTry_b30 (N : Nat) (x2 : Int32) (σ : g_S) : Option (g_R × g_S) := if x2 ≤ 10000 then Desk_checkTry_b47 N σ else Desk_checkTry_b37 N σ
theorem Desk_checkTry_p30 (ao aa : Nat → Nat) {X : g_X} (hC : gC X c_Desk_checkTry R_Desk 6 90 3 none) (N : Nat) (x2 : Int32) (σ : g_S) (r : g_R) (σe : g_S) (hT : g_isT r = true → g_T X) (hf : Desk_checkTry_b30 N x2 σ = some (r, σe)) : gw X (g_ov r) (LC ao aa X.2.2.1 σe) (LC ao aa X.2.2.1 σ) [(0, .ref (ao 0)), (2, .int x2)] 30 [] := by
  unfold Desk_checkTry_b30 at hf
  refine gw_iload_n hC 1 d_Desk_checkTry_30 rfl rfl ?_
  refine gw_sipush hC 10000 d_Desk_checkTry_31 (by decide) ?_
  refine gw_icmp_le hC 47 d_Desk_checkTry_34 (by decide) (fun hh => ?_) (fun hh => ?_)
  · rw [if_pos hh] at hf
    refine gw_lv [0] rfl ?_
    exact Desk_checkTry_p47 ao aa hC N _ _ _ hT hf
  · rw [if_neg hh] at hf
    refine gw_lv [0] rfl ?_
    exact Desk_checkTry_p37 ao aa hC N _ _ _ hT hf
def Desk_checkTry_b25 (N : Nat) (x2 : Int32) (σ : g_S) : Option (g_R × g_S) := if x2 < 1 then Desk_checkTry_b37 N σ else Desk_checkTry_b30 N x2 σ
theorem Desk_checkTry_p25 (ao aa : Nat → Nat) {X : g_X} (hC : gC X c_Desk_checkTry R_Desk 6 90 3 none) (N : Nat) (x2 : Int32) (σ : g_S) (r : g_R) (σe : g_S) (hT : g_isT r = true → g_T X) (hf : Desk_checkTry_b25 N x2 σ = some (r, σe)) : gw X (g_ov r) (LC ao aa X.2.2.1 σe) (LC ao aa X.2.2.1 σ) [(0, .ref (ao 0)), (2, .int x2)] 25 [] := by
  unfold Desk_checkTry_b25 at hf
  refine gw_iload_n hC 1 d_Desk_checkTry_25 rfl rfl ?_
  refine gw_iconst hC 1 d_Desk_checkTry_26 (by decide) ?_
  refine gw_icmp_lt hC 37 d_Desk_checkTry_27 (by decide) (fun hh => ?_) (fun hh => ?_)
  · rw [if_pos hh] at hf
    refine gw_lv [0] rfl ?_
    exact Desk_checkTry_p37 ao aa hC N _ _ _ hT hf
  · rw [if_neg hh] at hf
    exact Desk_checkTry_p30 ao aa hC N _ _ _ _ hT hf
def Desk_checkTry_b4 (N : Nat) (x1 : Int32) (x2 : Int32) (σ : g_S) : Option (g_R × g_S) := if x1 ≤ (σ.1 26) then Desk_checkTry_b25 N x2 σ else Desk_checkTry_b15 N σ
theorem Desk_checkTry_p4 (ao aa : Nat → Nat) {X : g_X} (hC : gC X c_Desk_checkTry R_Desk 6 90 3 none) (N : Nat) (x1 : Int32) (x2 : Int32) (σ : g_S) (r : g_R) (σe : g_S) (hT : g_isT r = true → g_T X) (hf : Desk_checkTry_b4 N x1 x2 σ = some (r, σe)) : gw X (g_ov r) (LC ao aa X.2.2.1 σe) (LC ao aa X.2.2.1 σ) [(0, .ref (ao 0)), (1, .int x1), (2, .int x2)] 4 [] := by
  unfold Desk_checkTry_b4 at hf
  refine gw_iload_n hC 1 d_Desk_checkTry_4 rfl rfl ?_
  refine gw_aload_n hC 0 d_Desk_checkTry_5 rfl rfl ?_
  refine Cr_Desk_machine hC kf_Desk_34 d_Desk_checkTry_6 ?_
  refine Cg26 hC kf_Desk_104 d_Desk_checkTry_9 (σ.1 26) rfl ?_
  refine gw_icmp_le hC 25 d_Desk_checkTry_12 (by decide) (fun hh => ?_) (fun hh => ?_)
  · rw [if_pos hh] at hf
    refine gw_lv [0, 2] rfl ?_
    exact Desk_checkTry_p25 ao aa hC N _ _ _ _ hT hf
  · rw [if_neg hh] at hf
    refine gw_lv [0] rfl ?_
    exact Desk_checkTry_p15 ao aa hC N _ _ _ hT hf
def Desk_checkTry_b0 (N : Nat) (x1 : Int32) (x2 : Int32) (σ : g_S) : Option (g_R × g_S) := if x1 < 0 then Desk_checkTry_b15 N σ else Desk_checkTry_b4 N x1 x2 σ
theorem Desk_checkTry_p0 (ao aa : Nat → Nat) {X : g_X} (hC : gC X c_Desk_checkTry R_Desk 6 90 3 none) (N : Nat) (x1 : Int32) (x2 : Int32) (σ : g_S) (r : g_R) (σe : g_S) (hT : g_isT r = true → g_T X) (hf : Desk_checkTry_b0 N x1 x2 σ = some (r, σe)) : gw X (g_ov r) (LC ao aa X.2.2.1 σe) (LC ao aa X.2.2.1 σ) [(0, .ref (ao 0)), (1, .int x1), (2, .int x2)] 0 [] := by
  unfold Desk_checkTry_b0 at hf
  refine gw_iload_n hC 1 d_Desk_checkTry_0 rfl rfl ?_
  refine gw_if_lt hC 15 d_Desk_checkTry_1 (by decide) (fun hh => ?_) (fun hh => ?_)
  · rw [if_pos hh] at hf
    refine gw_lv [0] rfl ?_
    exact Desk_checkTry_p15 ao aa hC N _ _ _ hT hf
  · rw [if_neg hh] at hf
    exact Desk_checkTry_p4 ao aa hC N _ _ _ _ _ hT hf
def Desk_checkTry (N : Nat) (x1 : Int32) (x2 : Int32) (σ : g_S) : Option (g_R × g_S) := Desk_checkTry_b0 N x1 x2 σ
theorem Desk_checkTry_m (l : Launch) (D : va_G) (cA : ClassId) (ao aa : Nat → Nat) (N : Nat) (x1 : Int32) (x2 : Int32) (σ : g_S) (r : Int32) (σe : g_S) (hf : Desk_checkTry N x1 x2 σ = some (.inl r, σe)) : Mt l D cA y_Desk_checkTry c_Desk_checkTry 3 none 6 90 [.ref (ao 0), .int x1, .int x2] (LC ao aa cA σ) none (LC ao aa cA σe) := by
  refine g_met (by decide +kernel) (by simp [lg_sl, Value.category]) (fun X e1 e2 e3 hC => ?_)
  subst e1 e2 e3
  refine gw_lv [0, 1, 2] rfl ?_
  exact Desk_checkTry_p0 ao aa hC N _ _ _ (.inl r) _ (fun h => by cases h) hf
theorem Desk_checkTry_t (l : Launch) (hfl : l.flags = flags0) (D : va_G) (cA : ClassId) (ao aa : Nat → Nat) (N : Nat) (x1 : Int32) (x2 : Int32) (σ : g_S) (b : Bool) (σe : g_S) (hf : Desk_checkTry N x1 x2 σ = some (.inr b, σe)) : MtX l D cA y_Desk_checkTry c_Desk_checkTry 3 none 6 90 [.ref (ao 0), .int x1, .int x2] (LC ao aa cA σ) (g_cls b) (LC ao aa cA σe) := by
  refine g_metX hfl (by decide +kernel) (by simp [lg_sl, Value.category]) (fun X e1 e2 e3 hC hT => ?_)
  subst e1 e2 e3
  refine gw_lv [0, 1, 2] rfl ?_
  exact Desk_checkTry_p0 ao aa hC N _ _ _ (.inr b) _ (fun _ => hT) hf
def Desk_match_b0 (N : Nat) (x1 : Int32) (x2 : Int32) (σ : g_S) : Option (g_R × g_S) := g_thr (Desk_checkTry N x1 x2 σ) fun q3 => (Machine_refuel N x2 q3.2).bind fun q11 => (Machine_tryAt N x1 q11.2).bind fun q20 => (Desk_settled N q20.1 q20.2).bind fun q23 => some (.inl q23.1, q23.2)
theorem Desk_match_p0 (ao aa : Nat → Nat) {X : g_X} (hC : gC X c_Desk_match R_Desk 7 160 3 (some .int)) (N : Nat) (x1 : Int32) (x2 : Int32) (σ : g_S) (r : g_R) (σe : g_S) (hT : g_isT r = true → g_T X) (hf : Desk_match_b0 N x1 x2 σ = some (r, σe)) : gw X (g_oi r) (LC ao aa X.2.2.1 σe) (LC ao aa X.2.2.1 σ) [(0, .ref (ao 0)), (1, .int x1), (2, .int x2)] 0 [] := by
  unfold Desk_match_b0 at hf
  refine gw_aload_n hC 0 d_Desk_match_0 rfl rfl ?_
  refine gw_iload_n hC 1 d_Desk_match_1 rfl rfl ?_
  refine gw_iload_n hC 2 d_Desk_match_2 rfl rfl ?_
  rcases g_thrE hf with ⟨bx, hb, rfl⟩ | ⟨q3, hq3, hf⟩
  · exact gw_callX hC (hT rfl) [.int x1, .int x2] [] (Desk_checkTry_t _ (hT rfl).1 _ _ ao aa N _ _ _ _ _ hb) kc_Desk_90 0 (g_lay_obj rfl) rfl rfl ⟨by decide, by decide⟩ (Nat.le_of_ble_eq_true rfl) [.int x2, .int x1, .ref (ao 0)] rfl d_Desk_match_3
  refine gw_callV hC [.int x1, .int x2] [] (Desk_checkTry_m _ _ _ ao aa N _ _ _ _ _ hq3) kc_Desk_90 0 (g_lay_obj rfl) rfl rfl ⟨by decide, by decide⟩ (Nat.le_of_ble_eq_true rfl) [.int x2, .int x1, .ref (ao 0)] [] rfl rfl d_Desk_match_3 ?_
  refine gw_aload_n hC 0 d_Desk_match_6 rfl rfl ?_
  refine Cr_Desk_machine hC kf_Desk_34 d_Desk_match_7 ?_
  refine gw_iload_n hC 2 d_Desk_match_10 rfl rfl ?_
  obtain ⟨q11, hq11, hf⟩ := g_bind hf
  refine gw_callV hC [.int x2] [] (Machine_refuel_m _ _ _ ao aa N _ _ _ _ hq11) kc_Desk_94 3 (g_lay_obj rfl) rfl rfl ⟨by decide, by decide⟩ (Nat.le_of_ble_eq_true rfl) [.int x2, .ref (ao 3)] [] rfl rfl d_Desk_match_11 ?_
  refine gw_aload_n hC 0 d_Desk_match_14 rfl rfl ?_
  refine gw_aload_n hC 0 d_Desk_match_15 rfl rfl ?_
  refine Cr_Desk_machine hC kf_Desk_34 d_Desk_match_16 ?_
  refine gw_iload_n hC 1 d_Desk_match_19 rfl rfl ?_
  obtain ⟨q20, hq20, hf⟩ := g_bind hf
  refine gw_callV hC [.int x1] [.ref (ao 0)] (Machine_tryAt_m _ _ _ ao aa N _ _ _ _ hq20) kc_Desk_98 3 (g_lay_obj rfl) rfl rfl ⟨by decide, by decide⟩ (Nat.le_of_ble_eq_true rfl) [.int x1, .ref (ao 3), .ref (ao 0)] [.int q20.1, .ref (ao 0)] rfl rfl d_Desk_match_20 ?_
  obtain ⟨q23, hq23, hf⟩ := g_bind hf
  refine gw_callV hC [.int q20.1] [] (Desk_settled_m _ _ _ ao aa N _ _ _ _ hq23) kc_Desk_101 0 (g_lay_obj rfl) rfl rfl ⟨by decide, by decide⟩ (Nat.le_of_ble_eq_true rfl) [.int q20.1, .ref (ao 0)] [.int q23.1] rfl rfl d_Desk_match_23 ?_
  cases hf
  exact gw_iret hC d_Desk_match_26
def Desk_match (N : Nat) (x1 : Int32) (x2 : Int32) (σ : g_S) : Option (g_R × g_S) := Desk_match_b0 N x1 x2 σ
theorem Desk_match_m (l : Launch) (D : va_G) (cA : ClassId) (ao aa : Nat → Nat) (N : Nat) (x1 : Int32) (x2 : Int32) (σ : g_S) (r : Int32) (σe : g_S) (hf : Desk_match N x1 x2 σ = some (.inl r, σe)) : Mt l D cA y_Desk_match c_Desk_match 3 (some .int) 7 160 [.ref (ao 0), .int x1, .int x2] (LC ao aa cA σ) (some (.int r)) (LC ao aa cA σe) := by
  refine g_met (by decide +kernel) (by simp [lg_sl, Value.category]) (fun X e1 e2 e3 hC => ?_)
  subst e1 e2 e3
  refine gw_lv [0, 1, 2] rfl ?_
  exact Desk_match_p0 ao aa hC N _ _ _ (.inl r) _ (fun h => by cases h) hf
theorem Desk_match_t (l : Launch) (hfl : l.flags = flags0) (D : va_G) (cA : ClassId) (ao aa : Nat → Nat) (N : Nat) (x1 : Int32) (x2 : Int32) (σ : g_S) (b : Bool) (σe : g_S) (hf : Desk_match N x1 x2 σ = some (.inr b, σe)) : MtX l D cA y_Desk_match c_Desk_match 3 (some .int) 7 160 [.ref (ao 0), .int x1, .int x2] (LC ao aa cA σ) (g_cls b) (LC ao aa cA σe) := by
  refine g_metX hfl (by decide +kernel) (by simp [lg_sl, Value.category]) (fun X e1 e2 e3 hC hT => ?_)
  subst e1 e2 e3
  refine gw_lv [0, 1, 2] rfl ?_
  exact Desk_match_p0 ao aa hC N _ _ _ (.inr b) _ (fun _ => hT) hf
def Desk_find_b51 (N : Nat) (x3 : Int32) (σ : g_S) : Option (g_R × g_S) := (Desk_settled N x3 σ).bind fun q53 => some (.inl q53.1, q53.2)
theorem Desk_find_p51 (ao aa : Nat → Nat) {X : g_X} (hC : gC X c_Desk_find R_Desk 7 160 5 (some .int)) (N : Nat) (x3 : Int32) (σ : g_S) (r : g_R) (σe : g_S) (hT : g_isT r = true → g_T X) (hf : Desk_find_b51 N x3 σ = some (r, σe)) : gw X (g_oi r) (LC ao aa X.2.2.1 σe) (LC ao aa X.2.2.1 σ) [(0, .ref (ao 0)), (3, .int x3)] 51 [] := by
  unfold Desk_find_b51 at hf
  refine gw_aload_n hC 0 d_Desk_find_51 rfl rfl ?_
  refine gw_iload_n hC 1 d_Desk_find_52 rfl rfl ?_
  obtain ⟨q53, hq53, hf⟩ := g_bind hf
  refine gw_callV hC [.int x3] [] (Desk_settled_m _ _ _ ao aa N _ _ _ _ hq53) kc_Desk_101 0 (g_lay_obj rfl) rfl rfl ⟨by decide, by decide⟩ (Nat.le_of_ble_eq_true rfl) [.int x3, .ref (ao 0)] [.int q53.1] rfl rfl d_Desk_find_53 ?_
  cases hf
  exact gw_iret hC d_Desk_find_56
def Desk_find_b35 (N : Nat) (k19 : Int32 → Int32 → g_S → Option (g_R × g_S)) (x4 : Int32) (σ : g_S) : Option (g_R × g_S) := (Machine_tryAt N x4 σ).bind fun q41 => k19 q41.1 (x4 + 1) q41.2
theorem Desk_find_p35 (ao aa : Nat → Nat) {X : g_X} (hC : gC X c_Desk_find R_Desk 7 160 5 (some .int)) (N : Nat) (k19 : Int32 → Int32 → g_S → Option (g_R × g_S)) (hk19 : ∀ (x3 : Int32) (x4 : Int32) (σ : g_S) (r : g_R) (σe : g_S), (g_isT r = true → g_T X) → k19 x3 x4 σ = some (r, σe) → gw X (g_oi r) (LC ao aa X.2.2.1 σe) (LC ao aa X.2.2.1 σ) [(0, .ref (ao 0)), (3, .int x3), (4, .int x4)] 19 []) (x4 : Int32) (σ : g_S) (r : g_R) (σe : g_S) (hT : g_isT r = true → g_T X) (hf : Desk_find_b35 N k19 x4 σ = some (r, σe)) : gw X (g_oi r) (LC ao aa X.2.2.1 σe) (LC ao aa X.2.2.1 σ) [(0, .ref (ao 0)), (4, .int x4)] 35 [] := by
  unfold Desk_find_b35 at hf
  refine gw_aload_n hC 0 d_Desk_find_35 rfl rfl ?_
  refine Cr_Desk_machine hC kf_Desk_34 d_Desk_find_36 ?_
  refine gw_iload hC 1 d_Desk_find_39 rfl ?_
  obtain ⟨q41, hq41, hf⟩ := g_bind hf
  refine gw_callV hC [.int x4] [] (Machine_tryAt_m _ _ _ ao aa N _ _ _ _ hq41) kc_Desk_98 3 (g_lay_obj rfl) rfl rfl ⟨by decide, by decide⟩ (Nat.le_of_ble_eq_true rfl) [.int x4, .ref (ao 3)] [.int q41.1] rfl rfl d_Desk_find_41 ?_
  refine gw_istore_n hC [(3, .int q41.1), (0, .ref (ao 0)), (4, .int x4)] d_Desk_find_44 rfl (by decide) rfl ?_
  refine gw_iinc hC (x4 + 1) 2 [(4, .int (x4 + 1)), (3, .int q41.1), (0, .ref (ao 0))] d_Desk_find_45 rfl rfl (by decide) rfl ?_
  refine gw_goto hC 19 d_Desk_find_48 (by decide) ?_
  refine gw_lv [2, 1, 0] rfl ?_
  exact hk19 _ _ _ _ _ hT hf
def Desk_find_b31 (N : Nat) (k19 : Int32 → Int32 → g_S → Option (g_R × g_S)) (x3 : Int32) (x4 : Int32) (σ : g_S) : Option (g_R × g_S) := if x3 = 0 then Desk_find_b35 N k19 x4 σ else Desk_find_b51 N x3 σ
theorem Desk_find_p31 (ao aa : Nat → Nat) {X : g_X} (hC : gC X c_Desk_find R_Desk 7 160 5 (some .int)) (N : Nat) (k19 : Int32 → Int32 → g_S → Option (g_R × g_S)) (hk19 : ∀ (x3 : Int32) (x4 : Int32) (σ : g_S) (r : g_R) (σe : g_S), (g_isT r = true → g_T X) → k19 x3 x4 σ = some (r, σe) → gw X (g_oi r) (LC ao aa X.2.2.1 σe) (LC ao aa X.2.2.1 σ) [(0, .ref (ao 0)), (3, .int x3), (4, .int x4)] 19 []) (x3 : Int32) (x4 : Int32) (σ : g_S) (r : g_R) (σe : g_S) (hT : g_isT r = true → g_T X) (hf : Desk_find_b31 N k19 x3 x4 σ = some (r, σe)) : gw X (g_oi r) (LC ao aa X.2.2.1 σe) (LC ao aa X.2.2.1 σ) [(0, .ref (ao 0)), (3, .int x3), (4, .int x4)] 31 [] := by
  unfold Desk_find_b31 at hf
  refine gw_iload_n hC 1 d_Desk_find_31 rfl rfl ?_
  refine gw_if_ne hC 51 d_Desk_find_32 (by decide) (fun hh => ?_) (fun hh => ?_)
  · rw [if_neg hh] at hf
    refine gw_lv [0, 1] rfl ?_
    exact Desk_find_p51 ao aa hC N _ _ _ _ hT hf
  · rw [if_pos hh] at hf
    refine gw_lv [0, 2] rfl ?_
    exact Desk_find_p35 ao aa hC N _ hk19 _ _ _ _ hT hf
def Desk_find_b19 (N : Nat) (k19 : Int32 → Int32 → g_S → Option (g_R × g_S)) (x3 : Int32) (x4 : Int32) (σ : g_S) : Option (g_R × g_S) := if (σ.1 26) < x4 then Desk_find_b51 N x3 σ else Desk_find_b31 N k19 x3 x4 σ
theorem Desk_find_p19 (ao aa : Nat → Nat) {X : g_X} (hC : gC X c_Desk_find R_Desk 7 160 5 (some .int)) (N : Nat) (k19 : Int32 → Int32 → g_S → Option (g_R × g_S)) (hk19 : ∀ (x3 : Int32) (x4 : Int32) (σ : g_S) (r : g_R) (σe : g_S), (g_isT r = true → g_T X) → k19 x3 x4 σ = some (r, σe) → gw X (g_oi r) (LC ao aa X.2.2.1 σe) (LC ao aa X.2.2.1 σ) [(0, .ref (ao 0)), (3, .int x3), (4, .int x4)] 19 []) (x3 : Int32) (x4 : Int32) (σ : g_S) (r : g_R) (σe : g_S) (hT : g_isT r = true → g_T X) (hf : Desk_find_b19 N k19 x3 x4 σ = some (r, σe)) : gw X (g_oi r) (LC ao aa X.2.2.1 σe) (LC ao aa X.2.2.1 σ) [(0, .ref (ao 0)), (3, .int x3), (4, .int x4)] 19 [] := by
  unfold Desk_find_b19 at hf
  refine gw_iload hC 2 d_Desk_find_19 rfl ?_
  refine gw_aload_n hC 0 d_Desk_find_21 rfl rfl ?_
  refine Cr_Desk_machine hC kf_Desk_34 d_Desk_find_22 ?_
  refine Cg26 hC kf_Desk_104 d_Desk_find_25 (σ.1 26) rfl ?_
  refine gw_icmp_gt hC 51 d_Desk_find_28 (by decide) (fun hh => ?_) (fun hh => ?_)
  · rw [if_pos hh] at hf
    refine gw_lv [0, 1] rfl ?_
    exact Desk_find_p51 ao aa hC N _ _ _ _ hT hf
  · rw [if_neg hh] at hf
    exact Desk_find_p31 ao aa hC N _ hk19 _ _ _ _ _ hT hf
def Desk_find_l19 (N : Nat) : Nat → Int32 → Int32 → g_S → Option (g_R × g_S)
  | 0 => fun _ _ _ => none
  | n + 1 => fun x3 x4 σ => Desk_find_b19 N (Desk_find_l19 N n) x3 x4 σ
theorem Desk_find_q19 (ao aa : Nat → Nat) {X : g_X} (hC : gC X c_Desk_find R_Desk 7 160 5 (some .int)) (N : Nat) (n : Nat) : ∀ (x3 : Int32) (x4 : Int32) (σ : g_S) (r : g_R) (σe : g_S), (g_isT r = true → g_T X) → Desk_find_l19 N n x3 x4 σ = some (r, σe) → gw X (g_oi r) (LC ao aa X.2.2.1 σe) (LC ao aa X.2.2.1 σ) [(0, .ref (ao 0)), (3, .int x3), (4, .int x4)] 19 [] := by
  induction n with
  | zero => intro x3 x4 σ r σe hT hf; cases hf
  | succ n ih => intro x3 x4 σ r σe hT hf; exact Desk_find_p19 ao aa hC N _ (fun x3 x4 σ r2 σ2 ht2 h2 => ih x3 x4 σ r2 σ2 ht2 h2) x3 x4 σ r σe hT hf
def Desk_find_b0 (N : Nat) (x1 : Int32) (x2 : Int32) (σ : g_S) : Option (g_R × g_S) := g_thr (Desk_checkTry N x1 x2 σ) fun q3 => (Machine_refuel N x2 q3.2).bind fun q11 => Desk_find_l19 N N 0 x1 q11.2
theorem Desk_find_p0 (ao aa : Nat → Nat) {X : g_X} (hC : gC X c_Desk_find R_Desk 7 160 5 (some .int)) (N : Nat) (x1 : Int32) (x2 : Int32) (σ : g_S) (r : g_R) (σe : g_S) (hT : g_isT r = true → g_T X) (hf : Desk_find_b0 N x1 x2 σ = some (r, σe)) : gw X (g_oi r) (LC ao aa X.2.2.1 σe) (LC ao aa X.2.2.1 σ) [(0, .ref (ao 0)), (1, .int x1), (2, .int x2)] 0 [] := by
  unfold Desk_find_b0 at hf
  refine gw_aload_n hC 0 d_Desk_find_0 rfl rfl ?_
  refine gw_iload_n hC 1 d_Desk_find_1 rfl rfl ?_
  refine gw_iload_n hC 2 d_Desk_find_2 rfl rfl ?_
  rcases g_thrE hf with ⟨bx, hb, rfl⟩ | ⟨q3, hq3, hf⟩
  · exact gw_callX hC (hT rfl) [.int x1, .int x2] [] (Desk_checkTry_t _ (hT rfl).1 _ _ ao aa N _ _ _ _ _ hb) kc_Desk_90 0 (g_lay_obj rfl) rfl rfl ⟨by decide, by decide⟩ (Nat.le_of_ble_eq_true rfl) [.int x2, .int x1, .ref (ao 0)] rfl d_Desk_find_3
  refine gw_callV hC [.int x1, .int x2] [] (Desk_checkTry_m _ _ _ ao aa N _ _ _ _ _ hq3) kc_Desk_90 0 (g_lay_obj rfl) rfl rfl ⟨by decide, by decide⟩ (Nat.le_of_ble_eq_true rfl) [.int x2, .int x1, .ref (ao 0)] [] rfl rfl d_Desk_find_3 ?_
  refine gw_aload_n hC 0 d_Desk_find_6 rfl rfl ?_
  refine Cr_Desk_machine hC kf_Desk_34 d_Desk_find_7 ?_
  refine gw_iload_n hC 2 d_Desk_find_10 rfl rfl ?_
  obtain ⟨q11, hq11, hf⟩ := g_bind hf
  refine gw_callV hC [.int x2] [] (Machine_refuel_m _ _ _ ao aa N _ _ _ _ hq11) kc_Desk_94 3 (g_lay_obj rfl) rfl rfl ⟨by decide, by decide⟩ (Nat.le_of_ble_eq_true rfl) [.int x2, .ref (ao 3)] [] rfl rfl d_Desk_find_11 ?_
  refine gw_iconst hC 0 d_Desk_find_14 (by decide) ?_
  refine gw_istore_n hC [(3, .int 0), (0, .ref (ao 0)), (1, .int x1), (2, .int x2)] d_Desk_find_15 rfl (by decide) rfl ?_
  refine gw_iload_n hC 2 d_Desk_find_16 rfl rfl ?_
  refine gw_istore hC [(4, .int x1), (3, .int 0), (0, .ref (ao 0)), (1, .int x1), (2, .int x2)] d_Desk_find_17 (by decide) rfl ?_
  refine gw_lv [2, 1, 0] rfl ?_
  exact Desk_find_q19 ao aa hC N N _ _ _ _ _ hT hf
def Desk_find (N : Nat) (x1 : Int32) (x2 : Int32) (σ : g_S) : Option (g_R × g_S) := Desk_find_b0 N x1 x2 σ
theorem Desk_find_m (l : Launch) (D : va_G) (cA : ClassId) (ao aa : Nat → Nat) (N : Nat) (x1 : Int32) (x2 : Int32) (σ : g_S) (r : Int32) (σe : g_S) (hf : Desk_find N x1 x2 σ = some (.inl r, σe)) : Mt l D cA y_Desk_find c_Desk_find 5 (some .int) 7 160 [.ref (ao 0), .int x1, .int x2] (LC ao aa cA σ) (some (.int r)) (LC ao aa cA σe) := by
  refine g_met (by decide +kernel) (by simp [lg_sl, Value.category]) (fun X e1 e2 e3 hC => ?_)
  subst e1 e2 e3
  refine gw_lv [0, 1, 2] rfl ?_
  exact Desk_find_p0 ao aa hC N _ _ _ (.inl r) _ (fun h => by cases h) hf
theorem Desk_find_t (l : Launch) (hfl : l.flags = flags0) (D : va_G) (cA : ClassId) (ao aa : Nat → Nat) (N : Nat) (x1 : Int32) (x2 : Int32) (σ : g_S) (b : Bool) (σe : g_S) (hf : Desk_find N x1 x2 σ = some (.inr b, σe)) : MtX l D cA y_Desk_find c_Desk_find 5 (some .int) 7 160 [.ref (ao 0), .int x1, .int x2] (LC ao aa cA σ) (g_cls b) (LC ao aa cA σe) := by
  refine g_metX hfl (by decide +kernel) (by simp [lg_sl, Value.category]) (fun X e1 e2 e3 hC hT => ?_)
  subst e1 e2 e3
  refine gw_lv [0, 1, 2] rfl ?_
  exact Desk_find_p0 ao aa hC N _ _ _ (.inr b) _ (fun _ => hT) hf
def Desk_pattern_b73 (N : Nat) (x1 : Int32) (x2 : Int32) (σ : g_S) : Option (g_R × g_S) := if gB x1 = true then if gB x2 = true then some (.inl (σ.1 8), (gF (gF σ 9 x1) 10 x2)) else none else none
theorem Desk_pattern_p73 (ao aa : Nat → Nat) {X : g_X} (hC : gC X c_Desk_pattern R_Desk 7 154 4 (some .int)) (N : Nat) (x1 : Int32) (x2 : Int32) (σ : g_S) (r : g_R) (σe : g_S) (hT : g_isT r = true → g_T X) (hf : Desk_pattern_b73 N x1 x2 σ = some (r, σe)) : gw X (g_oi r) (LC ao aa X.2.2.1 σe) (LC ao aa X.2.2.1 σ) [(0, .ref (ao 0)), (1, .int x1), (2, .int x2)] 73 [] := by
  unfold Desk_pattern_b73 at hf
  refine gw_aload_n hC 0 d_Desk_pattern_73 rfl rfl ?_
  refine Cr_Desk_program hC kf_Desk_16 d_Desk_pattern_74 ?_
  refine gw_iload_n hC 1 d_Desk_pattern_77 rfl rfl ?_
  obtain ⟨hg78, hf⟩ := g_guard hf
  refine Cp9 hC kf_Desk_77 d_Desk_pattern_78 hg78 ?_
  refine gw_aload_n hC 0 d_Desk_pattern_81 rfl rfl ?_
  refine Cr_Desk_program hC kf_Desk_16 d_Desk_pattern_82 ?_
  refine gw_iload_n hC 2 d_Desk_pattern_85 rfl rfl ?_
  obtain ⟨hg86, hf⟩ := g_guard hf
  refine Cp10 hC kf_Desk_80 d_Desk_pattern_86 hg86 ?_
  refine gw_aload_n hC 0 d_Desk_pattern_89 rfl rfl ?_
  refine Cr_Desk_program hC kf_Desk_16 d_Desk_pattern_90 ?_
  refine Cg8 hC kf_Desk_83 d_Desk_pattern_93 (σ.1 8) rfl ?_
  cases hf
  exact gw_iret hC d_Desk_pattern_96
def Desk_pattern_b63 (N : Nat) (σ : g_S) : Option (g_R × g_S) := some (.inr false, σ)
theorem Desk_pattern_p63 (ao aa : Nat → Nat) {X : g_X} (hC : gC X c_Desk_pattern R_Desk 7 154 4 (some .int)) (N : Nat) (σ : g_S) (r : g_R) (σe : g_S) (hT : g_isT r = true → g_T X) (hf : Desk_pattern_b63 N σ = some (r, σe)) : gw X (g_oi r) (LC ao aa X.2.2.1 σe) (LC ao aa X.2.2.1 σ) [(0, .ref (ao 0))] 63 [] := by
  unfold Desk_pattern_b63 at hf
  cases hf
  exact gw_throw (text := "the pattern is too long or wrong") hC (hT rfl) kx_cl_42 kx_in_I kx_ib_I (by decide +kernel) g_atI (by decide +kernel) ⟨by decide, by decide⟩ d_Desk_pattern_63 d_Desk_pattern_66 d_Desk_pattern_67 d_Desk_pattern_69 d_Desk_pattern_72
def Desk_pattern_b53 (N : Nat) (x1 : Int32) (x2 : Int32) (s1 : Int32) (σ : g_S) : Option (g_R × g_S) := if gB s1 = true then if s1 = 0 then Desk_pattern_b63 N (gF σ 2 s1) else Desk_pattern_b73 N x1 x2 (gF σ 2 s1) else none
theorem Desk_pattern_p53 (ao aa : Nat → Nat) {X : g_X} (hC : gC X c_Desk_pattern R_Desk 7 154 4 (some .int)) (N : Nat) (x1 : Int32) (x2 : Int32) (s1 : Int32) (σ : g_S) (r : g_R) (σe : g_S) (hT : g_isT r = true → g_T X) (hf : Desk_pattern_b53 N x1 x2 s1 σ = some (r, σe)) : gw X (g_oi r) (LC ao aa X.2.2.1 σe) (LC ao aa X.2.2.1 σ) [(0, .ref (ao 0)), (1, .int x1), (2, .int x2)] 53 [.int s1, .ref (ao 0)] := by
  unfold Desk_pattern_b53 at hf
  obtain ⟨hg53, hf⟩ := g_guard hf
  refine Cp2 hC kf_Desk_72 d_Desk_pattern_53 hg53 ?_
  refine gw_aload_n hC 0 d_Desk_pattern_56 rfl rfl ?_
  refine Cg2 hC kf_Desk_72 d_Desk_pattern_57 s1 rfl ?_
  refine gw_if_ne hC 73 d_Desk_pattern_60 (by decide) (fun hh => ?_) (fun hh => ?_)
  · rw [if_neg hh] at hf
    exact Desk_pattern_p73 ao aa hC N _ _ _ _ _ hT hf
  · rw [if_pos hh] at hf
    refine gw_lv [0] rfl ?_
    exact Desk_pattern_p63 ao aa hC N _ _ _ hT hf
def Desk_pattern_b52 (N : Nat) (x1 : Int32) (x2 : Int32) (σ : g_S) : Option (g_R × g_S) := Desk_pattern_b53 N x1 x2 0 σ
theorem Desk_pattern_p52 (ao aa : Nat → Nat) {X : g_X} (hC : gC X c_Desk_pattern R_Desk 7 154 4 (some .int)) (N : Nat) (x1 : Int32) (x2 : Int32) (σ : g_S) (r : g_R) (σe : g_S) (hT : g_isT r = true → g_T X) (hf : Desk_pattern_b52 N x1 x2 σ = some (r, σe)) : gw X (g_oi r) (LC ao aa X.2.2.1 σe) (LC ao aa X.2.2.1 σ) [(0, .ref (ao 0)), (1, .int x1), (2, .int x2)] 52 [.ref (ao 0)] := by
  unfold Desk_pattern_b52 at hf
  refine gw_iconst hC 0 d_Desk_pattern_52 (by decide) ?_
  exact Desk_pattern_p53 ao aa hC N _ _ _ _ _ _ hT hf
def Desk_pattern_b48 (N : Nat) (x1 : Int32) (x2 : Int32) (σ : g_S) : Option (g_R × g_S) := Desk_pattern_b53 N x1 x2 1 σ
theorem Desk_pattern_p48 (ao aa : Nat → Nat) {X : g_X} (hC : gC X c_Desk_pattern R_Desk 7 154 4 (some .int)) (N : Nat) (x1 : Int32) (x2 : Int32) (σ : g_S) (r : g_R) (σe : g_S) (hT : g_isT r = true → g_T X) (hf : Desk_pattern_b48 N x1 x2 σ = some (r, σe)) : gw X (g_oi r) (LC ao aa X.2.2.1 σe) (LC ao aa X.2.2.1 σ) [(0, .ref (ao 0)), (1, .int x1), (2, .int x2)] 48 [.ref (ao 0)] := by
  unfold Desk_pattern_b48 at hf
  refine gw_iconst hC 1 d_Desk_pattern_48 (by decide) ?_
  refine gw_goto hC 53 d_Desk_pattern_49 (by decide) ?_
  exact Desk_pattern_p53 ao aa hC N _ _ _ _ _ _ hT hf
def Desk_pattern_b37 (N : Nat) (x1 : Int32) (x2 : Int32) (s1 : Int32) (σ : g_S) : Option (g_R × g_S) := if 0 ≤ s1 then Desk_pattern_b52 N x1 x2 (gF σ 1 s1) else Desk_pattern_b48 N x1 x2 (gF σ 1 s1)
theorem Desk_pattern_p37 (ao aa : Nat → Nat) {X : g_X} (hC : gC X c_Desk_pattern R_Desk 7 154 4 (some .int)) (N : Nat) (x1 : Int32) (x2 : Int32) (s1 : Int32) (σ : g_S) (r : g_R) (σe : g_S) (hT : g_isT r = true → g_T X) (hf : Desk_pattern_b37 N x1 x2 s1 σ = some (r, σe)) : gw X (g_oi r) (LC ao aa X.2.2.1 σe) (LC ao aa X.2.2.1 σ) [(0, .ref (ao 0)), (1, .int x1), (2, .int x2)] 37 [.int s1, .ref (ao 0)] := by
  unfold Desk_pattern_b37 at hf
  refine Cp1 hC kf_Desk_38 d_Desk_pattern_37 ?_
  refine gw_aload_n hC 0 d_Desk_pattern_40 rfl rfl ?_
  refine gw_aload_n hC 0 d_Desk_pattern_41 rfl rfl ?_
  refine Cg1 hC kf_Desk_38 d_Desk_pattern_42 s1 rfl ?_
  refine gw_if_ge hC 52 d_Desk_pattern_45 (by decide) (fun hh => ?_) (fun hh => ?_)
  · rw [if_pos hh] at hf
    exact Desk_pattern_p52 ao aa hC N _ _ _ _ _ hT hf
  · rw [if_neg hh] at hf
    exact Desk_pattern_p48 ao aa hC N _ _ _ _ _ hT hf
def Desk_pattern_b29 (N : Nat) (x1 : Int32) (x2 : Int32) (x3 : Int32) (σ : g_S) : Option (g_R × g_S) := (Reader_readPattern N x3 σ).bind fun q34 => Desk_pattern_b37 N x1 x2 q34.1 q34.2
theorem Desk_pattern_p29 (ao aa : Nat → Nat) {X : g_X} (hC : gC X c_Desk_pattern R_Desk 7 154 4 (some .int)) (N : Nat) (x1 : Int32) (x2 : Int32) (x3 : Int32) (σ : g_S) (r : g_R) (σe : g_S) (hT : g_isT r = true → g_T X) (hf : Desk_pattern_b29 N x1 x2 x3 σ = some (r, σe)) : gw X (g_oi r) (LC ao aa X.2.2.1 σe) (LC ao aa X.2.2.1 σ) [(0, .ref (ao 0)), (1, .int x1), (2, .int x2), (3, .int x3)] 29 [.ref (ao 0)] := by
  unfold Desk_pattern_b29 at hf
  refine gw_aload_n hC 0 d_Desk_pattern_29 rfl rfl ?_
  refine Cr_Desk_reader hC kf_Desk_25 d_Desk_pattern_30 ?_
  refine gw_iload_n hC 3 d_Desk_pattern_33 rfl rfl ?_
  obtain ⟨q34, hq34, hf⟩ := g_bind hf
  refine gw_callV hC [.int x3] [.ref (ao 0)] (Reader_readPattern_m _ _ _ ao aa N _ _ _ _ hq34) kc_Desk_68 2 (g_lay_obj rfl) rfl rfl ⟨by decide, by decide⟩ (Nat.le_of_ble_eq_true rfl) [.int x3, .ref (ao 2), .ref (ao 0)] [.int q34.1, .ref (ao 0)] rfl rfl d_Desk_pattern_34 ?_
  refine gw_lv [0, 1, 2] rfl ?_
  exact Desk_pattern_p37 ao aa hC N _ _ _ _ _ _ hT hf
def Desk_pattern_b23 (N : Nat) (x1 : Int32) (x2 : Int32) (σ : g_S) : Option (g_R × g_S) := Desk_pattern_b37 N x1 x2 200 σ
theorem Desk_pattern_p23 (ao aa : Nat → Nat) {X : g_X} (hC : gC X c_Desk_pattern R_Desk 7 154 4 (some .int)) (N : Nat) (x1 : Int32) (x2 : Int32) (σ : g_S) (r : g_R) (σe : g_S) (hT : g_isT r = true → g_T X) (hf : Desk_pattern_b23 N x1 x2 σ = some (r, σe)) : gw X (g_oi r) (LC ao aa X.2.2.1 σe) (LC ao aa X.2.2.1 σ) [(0, .ref (ao 0)), (1, .int x1), (2, .int x2)] 23 [.ref (ao 0)] := by
  unfold Desk_pattern_b23 at hf
  refine gw_sipush hC 200 d_Desk_pattern_23 (by decide) ?_
  refine gw_goto hC 37 d_Desk_pattern_26 (by decide) ?_
  exact Desk_pattern_p37 ao aa hC N _ _ _ _ _ _ hT hf
def Desk_pattern_b0 (N : Nat) (x1 : Int32) (x2 : Int32) (σ : g_S) : Option (g_R × g_S) := if (σ.1 0) ≤ 200 then Desk_pattern_b29 N x1 x2 (σ.1 0) (gF (gF σ 0 0) 3 0) else Desk_pattern_b23 N x1 x2 (gF (gF σ 0 0) 3 0)
theorem Desk_pattern_p0 (ao aa : Nat → Nat) {X : g_X} (hC : gC X c_Desk_pattern R_Desk 7 154 4 (some .int)) (N : Nat) (x1 : Int32) (x2 : Int32) (σ : g_S) (r : g_R) (σe : g_S) (hT : g_isT r = true → g_T X) (hf : Desk_pattern_b0 N x1 x2 σ = some (r, σe)) : gw X (g_oi r) (LC ao aa X.2.2.1 σe) (LC ao aa X.2.2.1 σ) [(0, .ref (ao 0)), (1, .int x1), (2, .int x2)] 0 [] := by
  unfold Desk_pattern_b0 at hf
  refine gw_aload_n hC 0 d_Desk_pattern_0 rfl rfl ?_
  refine Cg0 hC kf_Desk_49 d_Desk_pattern_1 (σ.1 0) rfl ?_
  refine gw_istore_n hC [(3, .int (σ.1 0)), (0, .ref (ao 0)), (1, .int x1), (2, .int x2)] d_Desk_pattern_4 rfl (by decide) rfl ?_
  refine gw_aload_n hC 1 d_Desk_pattern_5 rfl rfl ?_
  refine gw_iconst hC 0 d_Desk_pattern_6 (by decide) ?_
  refine Cp0 hC kf_Desk_49 d_Desk_pattern_7 ?_
  refine gw_aload_n hC 1 d_Desk_pattern_10 rfl rfl ?_
  refine gw_iconst hC 0 d_Desk_pattern_11 (by decide) ?_
  refine Cp3 hC kf_Desk_64 d_Desk_pattern_12 (by decide) ?_
  refine gw_aload_n hC 1 d_Desk_pattern_15 rfl rfl ?_
  refine gw_iload_n hC 0 d_Desk_pattern_16 rfl rfl ?_
  refine gw_sipush hC 200 d_Desk_pattern_17 (by decide) ?_
  refine gw_icmp_le hC 29 d_Desk_pattern_20 (by decide) (fun hh => ?_) (fun hh => ?_)
  · rw [if_pos hh] at hf
    refine gw_lv [1, 2, 3, 0] rfl ?_
    exact Desk_pattern_p29 ao aa hC N _ _ _ _ _ _ hT hf
  · rw [if_neg hh] at hf
    refine gw_lv [1, 2, 3] rfl ?_
    exact Desk_pattern_p23 ao aa hC N _ _ _ _ _ hT hf
def Desk_pattern (N : Nat) (x1 : Int32) (x2 : Int32) (σ : g_S) : Option (g_R × g_S) := Desk_pattern_b0 N x1 x2 σ
theorem Desk_pattern_m (l : Launch) (D : va_G) (cA : ClassId) (ao aa : Nat → Nat) (N : Nat) (x1 : Int32) (x2 : Int32) (σ : g_S) (r : Int32) (σe : g_S) (hf : Desk_pattern N x1 x2 σ = some (.inl r, σe)) : Mt l D cA y_Desk_pattern c_Desk_pattern 4 (some .int) 7 154 [.ref (ao 0), .int x1, .int x2] (LC ao aa cA σ) (some (.int r)) (LC ao aa cA σe) := by
  refine g_met (by decide +kernel) (by simp [lg_sl, Value.category]) (fun X e1 e2 e3 hC => ?_)
  subst e1 e2 e3
  refine gw_lv [0, 1, 2] rfl ?_
  exact Desk_pattern_p0 ao aa hC N _ _ _ (.inl r) _ (fun h => by cases h) hf
theorem Desk_pattern_t (l : Launch) (hfl : l.flags = flags0) (D : va_G) (cA : ClassId) (ao aa : Nat → Nat) (N : Nat) (x1 : Int32) (x2 : Int32) (σ : g_S) (b : Bool) (σe : g_S) (hf : Desk_pattern N x1 x2 σ = some (.inr b, σe)) : MtX l D cA y_Desk_pattern c_Desk_pattern 4 (some .int) 7 154 [.ref (ao 0), .int x1, .int x2] (LC ao aa cA σ) (g_cls b) (LC ao aa cA σe) := by
  refine g_metX hfl (by decide +kernel) (by simp [lg_sl, Value.category]) (fun X e1 e2 e3 hC hT => ?_)
  subst e1 e2 e3
  refine gw_lv [0, 1, 2] rfl ?_
  exact Desk_pattern_p0 ao aa hC N _ _ _ (.inr b) _ (fun _ => hT) hf
