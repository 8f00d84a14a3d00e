theorem kf_Mod_100 : Cond.fieldLink R_Mod 100 "PatternDeskModel" "thrown" "I" ∈ g_TB := g_mem (List.mem_append_right _ (List.mem_append_right _ (List.mem_append_right _ (List.mem_append_left _ (List.mem_of_getElem? (i := 195) (by decide +kernel)))))) rfl
theorem kf_Mod_107 : Cond.fieldLink R_Mod 107 "PatternDeskModel" "tolds" "I" ∈ g_TB := g_mem (List.mem_append_right _ (List.mem_append_right _ (List.mem_append_right _ (List.mem_append_left _ (List.mem_of_getElem? (i := 197) (by decide +kernel)))))) rfl
theorem kf_Mod_9 : Cond.fieldLink R_Mod 9 "PatternDeskModel" "told" "[I" ∈ g_TB := g_mem (List.mem_append_right _ (List.mem_append_right _ (List.mem_append_right _ (List.mem_append_left _ (List.mem_of_getElem? (i := 196) (by decide +kernel)))))) rfl
theorem kn_Mod_110 : Cond.constantLong R_Mod 110 65535 ∈ g_TB := g_mem (List.mem_append_right _ (List.mem_append_right _ (List.mem_append_right _ (List.mem_append_right _ (List.mem_append_left _ (List.mem_of_getElem? (i := 111) (by decide +kernel))))))) rfl
theorem kc_Mod_103 : g_okS R_Mod 103 y_Mod_in c_Mod_in 3 (some .boolean) 3 := ⟨g_mem (List.mem_append_right _ (List.mem_append_right _ (List.mem_append_right _ (List.mem_append_right _ (List.mem_append_left _ (List.mem_of_getElem? (i := 110) rfl)))))) rfl, g_mem (List.mem_append_right _ (List.mem_append_left _ (List.mem_of_getElem? (i := 5) (by decide +kernel)))) rfl, g_mem (List.mem_append_right _ (List.mem_append_right _ (List.mem_append_right _ (List.mem_append_right _ (List.mem_append_left _ (List.mem_of_getElem? (i := 108) (by decide +kernel))))))) rfl, g_mem (List.mem_append_right _ (List.mem_append_right _ (List.mem_append_right _ (List.mem_append_right _ (List.mem_append_left _ (List.mem_of_getElem? (i := 109) (by decide +kernel))))))) rfl, by decide +kernel, by decide +kernel, by decide +kernel⟩
theorem kc_Mod_116 : g_okS R_Mod 116 y_Mod_isDigit c_Mod_isDigit 1 (some .boolean) 1 := ⟨g_mem (List.mem_append_right _ (List.mem_append_right _ (List.mem_append_right _ (List.mem_append_right _ (List.mem_append_left _ (List.mem_of_getElem? (i := 167) rfl)))))) rfl, g_mem (List.mem_append_right _ (List.mem_append_left _ (List.mem_of_getElem? (i := 5) (by decide +kernel)))) rfl, g_mem (List.mem_append_right _ (List.mem_append_right _ (List.mem_append_right _ (List.mem_append_right _ (List.mem_append_left _ (List.mem_of_getElem? (i := 165) (by decide +kernel))))))) rfl, g_mem (List.mem_append_right _ (List.mem_append_right _ (List.mem_append_right _ (List.mem_append_right _ (List.mem_append_left _ (List.mem_of_getElem? (i := 166) (by decide +kernel))))))) rfl, by decide +kernel, by decide +kernel, by decide +kernel⟩
theorem kc_Mod_112 : g_okS R_Mod 112 y_Mod_isLetter c_Mod_isLetter 1 (some .boolean) 1 := ⟨g_mem (List.mem_append_right _ (List.mem_append_right _ (List.mem_append_right _ (List.mem_append_right _ (List.mem_append_left _ (List.mem_of_getElem? (i := 193) rfl)))))) rfl, g_mem (List.mem_append_right _ (List.mem_append_left _ (List.mem_of_getElem? (i := 5) (by decide +kernel)))) rfl, g_mem (List.mem_append_right _ (List.mem_append_right _ (List.mem_append_right _ (List.mem_append_right _ (List.mem_append_left _ (List.mem_of_getElem? (i := 191) (by decide +kernel))))))) rfl, g_mem (List.mem_append_right _ (List.mem_append_right _ (List.mem_append_right _ (List.mem_append_right _ (List.mem_append_left _ (List.mem_of_getElem? (i := 192) (by decide +kernel))))))) rfl, by decide +kernel, by decide +kernel, by decide +kernel⟩
theorem kc_Mod_119 : g_okS R_Mod 119 y_Mod_isWord c_Mod_isWord 1 (some .boolean) 1 := ⟨g_mem (List.mem_append_right _ (List.mem_append_right _ (List.mem_append_right _ (List.mem_append_right _ (List.mem_append_left _ (List.mem_of_getElem? (i := 199) rfl)))))) rfl, g_mem (List.mem_append_right _ (List.mem_append_left _ (List.mem_of_getElem? (i := 5) (by decide +kernel)))) rfl, g_mem (List.mem_append_right _ (List.mem_append_right _ (List.mem_append_right _ (List.mem_append_right _ (List.mem_append_left _ (List.mem_of_getElem? (i := 197) (by decide +kernel))))))) rfl, g_mem (List.mem_append_right _ (List.mem_append_right _ (List.mem_append_right _ (List.mem_append_right _ (List.mem_append_left _ (List.mem_of_getElem? (i := 198) (by decide +kernel))))))) rfl, by decide +kernel, by decide +kernel, by decide +kernel⟩
theorem kn_Mod_122 : Cond.constant R_Mod 122 65279 ∈ g_TB := g_mem (List.mem_append_right _ (List.mem_append_right _ (List.mem_append_right _ (List.mem_append_right _ (List.mem_append_right _ (List.mem_of_getElem? (i := 36) (by decide +kernel))))))) rfl
theorem kc_Mod_126 : g_okS R_Mod 126 y_Mod_isLineEnd c_Mod_isLineEnd 1 (some .boolean) 1 := ⟨g_mem (List.mem_append_right _ (List.mem_append_right _ (List.mem_append_right _ (List.mem_append_right _ (List.mem_append_right _ (List.mem_of_getElem? (i := 14) rfl)))))) rfl, g_mem (List.mem_append_right _ (List.mem_append_left _ (List.mem_of_getElem? (i := 5) (by decide +kernel)))) rfl, g_mem (List.mem_append_right _ (List.mem_append_right _ (List.mem_append_right _ (List.mem_append_right _ (List.mem_append_right _ (List.mem_of_getElem? (i := 12) (by decide +kernel))))))) rfl, g_mem (List.mem_append_right _ (List.mem_append_right _ (List.mem_append_right _ (List.mem_append_right _ (List.mem_append_right _ (List.mem_of_getElem? (i := 13) (by decide +kernel))))))) rfl, by decide +kernel, by decide +kernel, by decide +kernel⟩
theorem kc_Mod_123 : g_okS R_Mod 123 y_Mod_isBlank c_Mod_isBlank 1 (some .boolean) 1 := ⟨g_mem (List.mem_append_right _ (List.mem_append_right _ (List.mem_append_right _ (List.mem_append_right _ (List.mem_append_right _ (List.mem_of_getElem? (i := 35) rfl)))))) rfl, g_mem (List.mem_append_right _ (List.mem_append_left _ (List.mem_of_getElem? (i := 5) (by decide +kernel)))) rfl, g_mem (List.mem_append_right _ (List.mem_append_right _ (List.mem_append_right _ (List.mem_append_right _ (List.mem_append_right _ (List.mem_of_getElem? (i := 33) (by decide +kernel))))))) rfl, g_mem (List.mem_append_right _ (List.mem_append_right _ (List.mem_append_right _ (List.mem_append_right _ (List.mem_append_right _ (List.mem_of_getElem? (i := 34) (by decide +kernel))))))) rfl, by decide +kernel, by decide +kernel, by decide +kernel⟩
theorem kf_Mod_13 : Cond.fieldLink R_Mod 13 "PatternDeskModel" "pattern" "[I" ∈ g_TB := g_mem (List.mem_append_right _ (List.mem_append_right _ (List.mem_append_right _ (List.mem_append_left _ (List.mem_of_getElem? (i := 198) (by decide +kernel)))))) rfl
theorem kf_Mod_129 : Cond.fieldLink R_Mod 129 "PatternDeskModel" "at" "I" ∈ g_TB := g_mem (List.mem_append_right _ (List.mem_append_right _ (List.mem_append_right _ (List.mem_append_left _ (List.mem_of_getElem? (i := 220) (by decide +kernel)))))) rfl
theorem kf_Mod_132 : Cond.fieldLink R_Mod 132 "PatternDeskModel" "size" "I" ∈ g_TB := g_mem (List.mem_append_right _ (List.mem_append_right _ (List.mem_append_right _ (List.mem_append_left _ (List.mem_of_getElem? (i := 199) (by decide +kernel)))))) rfl
theorem kf_Mod_135 : Cond.fieldLink R_Mod 135 "PatternDeskModel" "wrong" "I" ∈ g_TB := g_mem (List.mem_append_right _ (List.mem_append_right _ (List.mem_append_right _ (List.mem_append_left _ (List.mem_of_getElem? (i := 221) (by decide +kernel)))))) rfl
theorem kf_Mod_23 : Cond.fieldLink R_Mod 23 "PatternDeskModel" "kind" "[I" ∈ g_TB := g_mem (List.mem_append_right _ (List.mem_append_right _ (List.mem_append_right _ (List.mem_append_left _ (List.mem_of_getElem? (i := 207) (by decide +kernel)))))) rfl
theorem kf_Mod_138 : Cond.fieldLink R_Mod 138 "PatternDeskModel" "nodes" "I" ∈ g_TB := g_mem (List.mem_append_right _ (List.mem_append_right _ (List.mem_append_right _ (List.mem_append_left _ (List.mem_of_getElem? (i := 206) (by decide +kernel)))))) rfl
theorem kf_Mod_26 : Cond.fieldLink R_Mod 26 "PatternDeskModel" "a" "[I" ∈ g_TB := g_mem (List.mem_append_right _ (List.mem_append_right _ (List.mem_append_right _ (List.mem_append_left _ (List.mem_of_getElem? (i := 208) (by decide +kernel)))))) rfl
theorem kf_Mod_29 : Cond.fieldLink R_Mod 29 "PatternDeskModel" "b" "[I" ∈ g_TB := g_mem (List.mem_append_right _ (List.mem_append_right _ (List.mem_append_right _ (List.mem_append_left _ (List.mem_of_getElem? (i := 209) (by decide +kernel)))))) rfl
theorem kf_Mod_32 : Cond.fieldLink R_Mod 32 "PatternDeskModel" "c" "[I" ∈ g_TB := g_mem (List.mem_append_right _ (List.mem_append_right _ (List.mem_append_right _ (List.mem_append_left _ (List.mem_of_getElem? (i := 210) (by decide +kernel)))))) rfl
theorem kf_Mod_35 : Cond.fieldLink R_Mod 35 "PatternDeskModel" "first" "[I" ∈ g_TB := g_mem (List.mem_append_right _ (List.mem_append_right _ (List.mem_append_right _ (List.mem_append_left _ (List.mem_of_getElem? (i := 211) (by decide +kernel)))))) rfl
theorem kf_Mod_38 : Cond.fieldLink R_Mod 38 "PatternDeskModel" "latest" "[I" ∈ g_TB := g_mem (List.mem_append_right _ (List.mem_append_right _ (List.mem_append_right _ (List.mem_append_left _ (List.mem_of_getElem? (i := 212) (by decide +kernel)))))) rfl
theorem kf_Mod_41 : Cond.fieldLink R_Mod 41 "PatternDeskModel" "behind" "[I" ∈ g_TB := g_mem (List.mem_append_right _ (List.mem_append_right _ (List.mem_append_right _ (List.mem_append_left _ (List.mem_of_getElem? (i := 213) (by decide +kernel)))))) rfl
theorem kf_Mod_44 : Cond.fieldLink R_Mod 44 "PatternDeskModel" "groupFrom" "[I" ∈ g_TB := g_mem (List.mem_append_right _ (List.mem_append_right _ (List.mem_append_right _ (List.mem_append_left _ (List.mem_of_getElem? (i := 214) (by decide +kernel)))))) rfl
theorem kf_Mod_141 : Cond.fieldLink R_Mod 141 "PatternDeskModel" "groups" "I" ∈ g_TB := g_mem (List.mem_append_right _ (List.mem_append_right _ (List.mem_append_right _ (List.mem_append_left _ (List.mem_of_getElem? (i := 216) (by decide +kernel)))))) rfl
theorem kf_Mod_47 : Cond.fieldLink R_Mod 47 "PatternDeskModel" "groupTo" "[I" ∈ g_TB := g_mem (List.mem_append_right _ (List.mem_append_right _ (List.mem_append_right _ (List.mem_append_left _ (List.mem_of_getElem? (i := 215) (by decide +kernel)))))) rfl
theorem d_Mod_thrown_0 : decode c_Mod_thrown 0 = .ok (.aload_n 0, 1) := by decide +kernel
theorem d_Mod_thrown_1 : decode c_Mod_thrown 1 = .ok (.getfield 100, 3) := by decide +kernel
theorem d_Mod_thrown_4 : decode c_Mod_thrown 4 = .ok (.ireturn, 1) := by decide +kernel
theorem d_Mod_in_0 : decode c_Mod_in 0 = .ok (.iload_n 0, 1) := by decide +kernel
theorem d_Mod_in_1 : decode c_Mod_in 1 = .ok (.iload_n 1, 1) := by decide +kernel
theorem d_Mod_in_2 : decode c_Mod_in 2 = .ok (.if_icmp .lt 12, 3) := by decide +kernel
theorem d_Mod_in_5 : decode c_Mod_in 5 = .ok (.iload_n 0, 1) := by decide +kernel
theorem d_Mod_in_6 : decode c_Mod_in 6 = .ok (.iload_n 2, 1) := by decide +kernel
theorem d_Mod_in_7 : decode c_Mod_in 7 = .ok (.if_icmp .gt 7, 3) := by decide +kernel
theorem d_Mod_in_10 : decode c_Mod_in 10 = .ok (.iconst 1, 1) := by decide +kernel
theorem d_Mod_in_11 : decode c_Mod_in 11 = .ok (.goto 4, 3) := by decide +kernel
theorem d_Mod_in_14 : decode c_Mod_in 14 = .ok (.iconst 0, 1) := by decide +kernel
theorem d_Mod_in_15 : decode c_Mod_in 15 = .ok (.ireturn, 1) := by decide +kernel
theorem d_Mod_put_0 : decode c_Mod_put 0 = .ok (.aload_n 0, 1) := by decide +kernel
theorem d_Mod_put_1 : decode c_Mod_put 1 = .ok (.iload_n 3, 1) := by decide +kernel
theorem d_Mod_put_2 : decode c_Mod_put 2 = .ok (.iconst 1, 1) := by decide +kernel
theorem d_Mod_put_3 : decode c_Mod_put 3 = .ok (.iconst 4, 1) := by decide +kernel
theorem d_Mod_put_4 : decode c_Mod_put 4 = .ok (.invokestatic 103, 3) := by decide +kernel
theorem d_Mod_put_7 : decode c_Mod_put 7 = .ok (.ifCond .ne 7, 3) := by decide +kernel
theorem d_Mod_put_10 : decode c_Mod_put 10 = .ok (.iconst 1, 1) := by decide +kernel
theorem d_Mod_put_11 : decode c_Mod_put 11 = .ok (.goto 20, 3) := by decide +kernel
theorem d_Mod_put_14 : decode c_Mod_put 14 = .ok (.aload_n 0, 1) := by decide +kernel
theorem d_Mod_put_15 : decode c_Mod_put 15 = .ok (.getfield 107, 3) := by decide +kernel
theorem d_Mod_put_18 : decode c_Mod_put 18 = .ok (.iload_n 3, 1) := by decide +kernel
theorem d_Mod_put_19 : decode c_Mod_put 19 = .ok (.iadd, 1) := by decide +kernel
theorem d_Mod_put_20 : decode c_Mod_put 20 = .ok (.sipush 600, 3) := by decide +kernel
theorem d_Mod_put_23 : decode c_Mod_put 23 = .ok (.if_icmp .le 7, 3) := by decide +kernel
theorem d_Mod_put_26 : decode c_Mod_put 26 = .ok (.iconst 2, 1) := by decide +kernel
theorem d_Mod_put_27 : decode c_Mod_put 27 = .ok (.goto 4, 3) := by decide +kernel
theorem d_Mod_put_30 : decode c_Mod_put 30 = .ok (.iconst 0, 1) := by decide +kernel
theorem d_Mod_put_31 : decode c_Mod_put 31 = .ok (.putfield 100, 3) := by decide +kernel
theorem d_Mod_put_34 : decode c_Mod_put 34 = .ok (.aload_n 0, 1) := by decide +kernel
theorem d_Mod_put_35 : decode c_Mod_put 35 = .ok (.getfield 100, 3) := by decide +kernel
theorem d_Mod_put_38 : decode c_Mod_put 38 = .ok (.ifCond .le 5, 3) := by decide +kernel
theorem d_Mod_put_41 : decode c_Mod_put 41 = .ok (.iconst 0, 1) := by decide +kernel
theorem d_Mod_put_42 : decode c_Mod_put 42 = .ok (.ireturn, 1) := by decide +kernel
theorem d_Mod_put_43 : decode c_Mod_put 43 = .ok (.iload_n 3, 1) := by decide +kernel
theorem d_Mod_put_44 : decode c_Mod_put 44 = .ok (.iconst 1, 1) := by decide +kernel
theorem d_Mod_put_45 : decode c_Mod_put 45 = .ok (.isub, 1) := by decide +kernel
theorem d_Mod_put_46 : decode c_Mod_put 46 = .ok (.istore 4, 2) := by decide +kernel
theorem d_Mod_put_48 : decode c_Mod_put 48 = .ok (.iload 4, 2) := by decide +kernel
theorem d_Mod_put_50 : decode c_Mod_put 50 = .ok (.ifCond .lt 40, 3) := by decide +kernel
theorem d_Mod_put_53 : decode c_Mod_put 53 = .ok (.aload_n 0, 1) := by decide +kernel
theorem d_Mod_put_54 : decode c_Mod_put 54 = .ok (.getfield 9, 3) := by decide +kernel
theorem d_Mod_put_57 : decode c_Mod_put 57 = .ok (.aload_n 0, 1) := by decide +kernel
theorem d_Mod_put_58 : decode c_Mod_put 58 = .ok (.getfield 107, 3) := by decide +kernel
theorem d_Mod_put_61 : decode c_Mod_put 61 = .ok (.lload_n 1, 1) := by decide +kernel
theorem d_Mod_put_62 : decode c_Mod_put 62 = .ok (.bipush 16, 2) := by decide +kernel
theorem d_Mod_put_64 : decode c_Mod_put 64 = .ok (.iload 4, 2) := by decide +kernel
theorem d_Mod_put_66 : decode c_Mod_put 66 = .ok (.imul, 1) := by decide +kernel
theorem d_Mod_put_67 : decode c_Mod_put 67 = .ok (.lshr, 1) := by decide +kernel
theorem d_Mod_put_68 : decode c_Mod_put 68 = .ok (.ldc2_w 110, 3) := by decide +kernel
theorem d_Mod_put_71 : decode c_Mod_put 71 = .ok (.land, 1) := by decide +kernel
theorem d_Mod_put_72 : decode c_Mod_put 72 = .ok (.l2i, 1) := by decide +kernel
theorem d_Mod_put_73 : decode c_Mod_put 73 = .ok (.iastore, 1) := by decide +kernel
theorem d_Mod_put_74 : decode c_Mod_put 74 = .ok (.aload_n 0, 1) := by decide +kernel
theorem d_Mod_put_75 : decode c_Mod_put 75 = .ok (.dup, 1) := by decide +kernel
theorem d_Mod_put_76 : decode c_Mod_put 76 = .ok (.getfield 107, 3) := by decide +kernel
theorem d_Mod_put_79 : decode c_Mod_put 79 = .ok (.iconst 1, 1) := by decide +kernel
theorem d_Mod_put_80 : decode c_Mod_put 80 = .ok (.iadd, 1) := by decide +kernel
theorem d_Mod_put_81 : decode c_Mod_put 81 = .ok (.putfield 107, 3) := by decide +kernel
theorem d_Mod_put_84 : decode c_Mod_put 84 = .ok (.iinc 4 (-1), 3) := by decide +kernel
theorem d_Mod_put_87 : decode c_Mod_put 87 = .ok (.goto (-39), 3) := by decide +kernel
theorem d_Mod_put_90 : decode c_Mod_put 90 = .ok (.aload_n 0, 1) := by decide +kernel
theorem d_Mod_put_91 : decode c_Mod_put 91 = .ok (.getfield 107, 3) := by decide +kernel
theorem d_Mod_put_94 : decode c_Mod_put 94 = .ok (.ireturn, 1) := by decide +kernel
theorem d_Mod_isDigit_0 : decode c_Mod_isDigit 0 = .ok (.iload_n 0, 1) := by decide +kernel
theorem d_Mod_isDigit_1 : decode c_Mod_isDigit 1 = .ok (.bipush 48, 2) := by decide +kernel
theorem d_Mod_isDigit_3 : decode c_Mod_isDigit 3 = .ok (.bipush 57, 2) := by decide +kernel
theorem d_Mod_isDigit_5 : decode c_Mod_isDigit 5 = .ok (.invokestatic 103, 3) := by decide +kernel
theorem d_Mod_isDigit_8 : decode c_Mod_isDigit 8 = .ok (.ireturn, 1) := by decide +kernel
theorem d_Mod_isLetter_0 : decode c_Mod_isLetter 0 = .ok (.iload_n 0, 1) := by decide +kernel
theorem d_Mod_isLetter_1 : decode c_Mod_isLetter 1 = .ok (.bipush 97, 2) := by decide +kernel
theorem d_Mod_isLetter_3 : decode c_Mod_isLetter 3 = .ok (.bipush 122, 2) := by decide +kernel
theorem d_Mod_isLetter_5 : decode c_Mod_isLetter 5 = .ok (.invokestatic 103, 3) := by decide +kernel
theorem d_Mod_isLetter_8 : decode c_Mod_isLetter 8 = .ok (.ifCond .ne 14, 3) := by decide +kernel
theorem d_Mod_isLetter_11 : decode c_Mod_isLetter 11 = .ok (.iload_n 0, 1) := by decide +kernel
theorem d_Mod_isLetter_12 : decode c_Mod_isLetter 12 = .ok (.bipush 65, 2) := by decide +kernel
theorem d_Mod_isLetter_14 : decode c_Mod_isLetter 14 = .ok (.bipush 90, 2) := by decide +kernel
theorem d_Mod_isLetter_16 : decode c_Mod_isLetter 16 = .ok (.invokestatic 103, 3) := by decide +kernel
theorem d_Mod_isLetter_19 : decode c_Mod_isLetter 19 = .ok (.ifCond .eq 7, 3) := by decide +kernel
theorem d_Mod_isLetter_22 : decode c_Mod_isLetter 22 = .ok (.iconst 1, 1) := by decide +kernel
theorem d_Mod_isLetter_23 : decode c_Mod_isLetter 23 = .ok (.goto 4, 3) := by decide +kernel
theorem d_Mod_isLetter_26 : decode c_Mod_isLetter 26 = .ok (.iconst 0, 1) := by decide +kernel
theorem d_Mod_isLetter_27 : decode c_Mod_isLetter 27 = .ok (.ireturn, 1) := by decide +kernel
theorem d_Mod_isWord_0 : decode c_Mod_isWord 0 = .ok (.iload_n 0, 1) := by decide +kernel
theorem d_Mod_isWord_1 : decode c_Mod_isWord 1 = .ok (.invokestatic 112, 3) := by decide +kernel
theorem d_Mod_isWord_4 : decode c_Mod_isWord 4 = .ok (.ifCond .ne 16, 3) := by decide +kernel
theorem d_Mod_isWord_7 : decode c_Mod_isWord 7 = .ok (.iload_n 0, 1) := by decide +kernel
theorem d_Mod_isWord_8 : decode c_Mod_isWord 8 = .ok (.invokestatic 116, 3) := by decide +kernel
theorem d_Mod_isWord_11 : decode c_Mod_isWord 11 = .ok (.ifCond .ne 9, 3) := by decide +kernel
theorem d_Mod_isWord_14 : decode c_Mod_isWord 14 = .ok (.iload_n 0, 1) := by decide +kernel
theorem d_Mod_isWord_15 : decode c_Mod_isWord 15 = .ok (.bipush 95, 2) := by decide +kernel
theorem d_Mod_isWord_17 : decode c_Mod_isWord 17 = .ok (.if_icmp .ne 7, 3) := by decide +kernel
theorem d_Mod_isWord_20 : decode c_Mod_isWord 20 = .ok (.iconst 1, 1) := by decide +kernel
theorem d_Mod_isWord_21 : decode c_Mod_isWord 21 = .ok (.goto 4, 3) := by decide +kernel
theorem d_Mod_isWord_24 : decode c_Mod_isWord 24 = .ok (.iconst 0, 1) := by decide +kernel
theorem d_Mod_isWord_25 : decode c_Mod_isWord 25 = .ok (.ireturn, 1) := by decide +kernel
theorem d_Mod_isNamed_0 : decode c_Mod_isNamed 0 = .ok (.iload_n 0, 1) := by decide +kernel
theorem d_Mod_isNamed_1 : decode c_Mod_isNamed 1 = .ok (.invokestatic 119, 3) := by decide +kernel
theorem d_Mod_isNamed_4 : decode c_Mod_isNamed 4 = .ok (.ifCond .ne 69, 3) := by decide +kernel
theorem d_Mod_isNamed_7 : decode c_Mod_isNamed 7 = .ok (.iload_n 0, 1) := by decide +kernel
theorem d_Mod_isNamed_8 : decode c_Mod_isNamed 8 = .ok (.bipush 36, 2) := by decide +kernel
theorem d_Mod_isNamed_10 : decode c_Mod_isNamed 10 = .ok (.if_icmp .eq 63, 3) := by decide +kernel
theorem d_Mod_isNamed_13 : decode c_Mod_isNamed 13 = .ok (.iload_n 0, 1) := by decide +kernel
theorem d_Mod_isNamed_14 : decode c_Mod_isNamed 14 = .ok (.sipush 170, 3) := by decide +kernel
theorem d_Mod_isNamed_17 : decode c_Mod_isNamed 17 = .ok (.if_icmp .eq 56, 3) := by decide +kernel
theorem d_Mod_isNamed_20 : decode c_Mod_isNamed 20 = .ok (.iload_n 0, 1) := by decide +kernel
theorem d_Mod_isNamed_21 : decode c_Mod_isNamed 21 = .ok (.sipush 181, 3) := by decide +kernel
theorem d_Mod_isNamed_24 : decode c_Mod_isNamed 24 = .ok (.if_icmp .eq 49, 3) := by decide +kernel
theorem d_Mod_isNamed_27 : decode c_Mod_isNamed 27 = .ok (.iload_n 0, 1) := by decide +kernel
theorem d_Mod_isNamed_28 : decode c_Mod_isNamed 28 = .ok (.sipush 186, 3) := by decide +kernel
theorem d_Mod_isNamed_31 : decode c_Mod_isNamed 31 = .ok (.if_icmp .eq 42, 3) := by decide +kernel
theorem d_Mod_isNamed_34 : decode c_Mod_isNamed 34 = .ok (.iload_n 0, 1) := by decide +kernel
theorem d_Mod_isNamed_35 : decode c_Mod_isNamed 35 = .ok (.sipush 192, 3) := by decide +kernel
theorem d_Mod_isNamed_38 : decode c_Mod_isNamed 38 = .ok (.sipush 214, 3) := by decide +kernel
theorem d_Mod_isNamed_41 : decode c_Mod_isNamed 41 = .ok (.invokestatic 103, 3) := by decide +kernel
theorem d_Mod_isNamed_44 : decode c_Mod_isNamed 44 = .ok (.ifCond .ne 29, 3) := by decide +kernel
theorem d_Mod_isNamed_47 : decode c_Mod_isNamed 47 = .ok (.iload_n 0, 1) := by decide +kernel
theorem d_Mod_isNamed_48 : decode c_Mod_isNamed 48 = .ok (.sipush 216, 3) := by decide +kernel
theorem d_Mod_isNamed_51 : decode c_Mod_isNamed 51 = .ok (.sipush 246, 3) := by decide +kernel
theorem d_Mod_isNamed_54 : decode c_Mod_isNamed 54 = .ok (.invokestatic 103, 3) := by decide +kernel
theorem d_Mod_isNamed_57 : decode c_Mod_isNamed 57 = .ok (.ifCond .ne 16, 3) := by decide +kernel
theorem d_Mod_isNamed_60 : decode c_Mod_isNamed 60 = .ok (.iload_n 0, 1) := by decide +kernel
theorem d_Mod_isNamed_61 : decode c_Mod_isNamed 61 = .ok (.sipush 248, 3) := by decide +kernel
theorem d_Mod_isNamed_64 : decode c_Mod_isNamed 64 = .ok (.sipush 255, 3) := by decide +kernel
theorem d_Mod_isNamed_67 : decode c_Mod_isNamed 67 = .ok (.invokestatic 103, 3) := by decide +kernel
theorem d_Mod_isNamed_70 : decode c_Mod_isNamed 70 = .ok (.ifCond .eq 7, 3) := by decide +kernel
theorem d_Mod_isNamed_73 : decode c_Mod_isNamed 73 = .ok (.iconst 1, 1) := by decide +kernel
theorem d_Mod_isNamed_74 : decode c_Mod_isNamed 74 = .ok (.goto 4, 3) := by decide +kernel
theorem d_Mod_isNamed_77 : decode c_Mod_isNamed 77 = .ok (.iconst 0, 1) := by decide +kernel
theorem d_Mod_isNamed_78 : decode c_Mod_isNamed 78 = .ok (.ireturn, 1) := by decide +kernel
theorem d_Mod_isLineEnd_0 : decode c_Mod_isLineEnd 0 = .ok (.iload_n 0, 1) := by decide +kernel
theorem d_Mod_isLineEnd_1 : decode c_Mod_isLineEnd 1 = .ok (.bipush 10, 2) := by decide +kernel
theorem d_Mod_isLineEnd_3 : decode c_Mod_isLineEnd 3 = .ok (.if_icmp .eq 23, 3) := by decide +kernel
theorem d_Mod_isLineEnd_6 : decode c_Mod_isLineEnd 6 = .ok (.iload_n 0, 1) := by decide +kernel
theorem d_Mod_isLineEnd_7 : decode c_Mod_isLineEnd 7 = .ok (.bipush 13, 2) := by decide +kernel
theorem d_Mod_isLineEnd_9 : decode c_Mod_isLineEnd 9 = .ok (.if_icmp .eq 17, 3) := by decide +kernel
theorem d_Mod_isLineEnd_12 : decode c_Mod_isLineEnd 12 = .ok (.iload_n 0, 1) := by decide +kernel
theorem d_Mod_isLineEnd_13 : decode c_Mod_isLineEnd 13 = .ok (.sipush 8232, 3) := by decide +kernel
theorem d_Mod_isLineEnd_16 : decode c_Mod_isLineEnd 16 = .ok (.if_icmp .eq 10, 3) := by decide +kernel
theorem d_Mod_isLineEnd_19 : decode c_Mod_isLineEnd 19 = .ok (.iload_n 0, 1) := by decide +kernel
theorem d_Mod_isLineEnd_20 : decode c_Mod_isLineEnd 20 = .ok (.sipush 8233, 3) := by decide +kernel
theorem d_Mod_isLineEnd_23 : decode c_Mod_isLineEnd 23 = .ok (.if_icmp .ne 7, 3) := by decide +kernel
theorem d_Mod_isLineEnd_26 : decode c_Mod_isLineEnd 26 = .ok (.iconst 1, 1) := by decide +kernel
theorem d_Mod_isLineEnd_27 : decode c_Mod_isLineEnd 27 = .ok (.goto 4, 3) := by decide +kernel
theorem d_Mod_isLineEnd_30 : decode c_Mod_isLineEnd 30 = .ok (.iconst 0, 1) := by decide +kernel
theorem d_Mod_isLineEnd_31 : decode c_Mod_isLineEnd 31 = .ok (.ireturn, 1) := by decide +kernel
theorem d_Mod_isBlank_0 : decode c_Mod_isBlank 0 = .ok (.iload_n 0, 1) := by decide +kernel
theorem d_Mod_isBlank_1 : decode c_Mod_isBlank 1 = .ok (.bipush 9, 2) := by decide +kernel
theorem d_Mod_isBlank_3 : decode c_Mod_isBlank 3 = .ok (.if_icmp .eq 82, 3) := by decide +kernel
theorem d_Mod_isBlank_6 : decode c_Mod_isBlank 6 = .ok (.iload_n 0, 1) := by decide +kernel
theorem d_Mod_isBlank_7 : decode c_Mod_isBlank 7 = .ok (.bipush 11, 2) := by decide +kernel
theorem d_Mod_isBlank_9 : decode c_Mod_isBlank 9 = .ok (.if_icmp .eq 76, 3) := by decide +kernel
theorem d_Mod_isBlank_12 : decode c_Mod_isBlank 12 = .ok (.iload_n 0, 1) := by decide +kernel
theorem d_Mod_isBlank_13 : decode c_Mod_isBlank 13 = .ok (.bipush 12, 2) := by decide +kernel
theorem d_Mod_isBlank_15 : decode c_Mod_isBlank 15 = .ok (.if_icmp .eq 70, 3) := by decide +kernel
theorem d_Mod_isBlank_18 : decode c_Mod_isBlank 18 = .ok (.iload_n 0, 1) := by decide +kernel
theorem d_Mod_isBlank_19 : decode c_Mod_isBlank 19 = .ok (.bipush 32, 2) := by decide +kernel
theorem d_Mod_isBlank_21 : decode c_Mod_isBlank 21 = .ok (.if_icmp .eq 64, 3) := by decide +kernel
theorem d_Mod_isBlank_24 : decode c_Mod_isBlank 24 = .ok (.iload_n 0, 1) := by decide +kernel
theorem d_Mod_isBlank_25 : decode c_Mod_isBlank 25 = .ok (.sipush 160, 3) := by decide +kernel
theorem d_Mod_isBlank_28 : decode c_Mod_isBlank 28 = .ok (.if_icmp .eq 57, 3) := by decide +kernel
theorem d_Mod_isBlank_31 : decode c_Mod_isBlank 31 = .ok (.iload_n 0, 1) := by decide +kernel
theorem d_Mod_isBlank_32 : decode c_Mod_isBlank 32 = .ok (.sipush 5760, 3) := by decide +kernel
theorem d_Mod_isBlank_35 : decode c_Mod_isBlank 35 = .ok (.if_icmp .eq 50, 3) := by decide +kernel
theorem d_Mod_isBlank_38 : decode c_Mod_isBlank 38 = .ok (.iload_n 0, 1) := by decide +kernel
theorem d_Mod_isBlank_39 : decode c_Mod_isBlank 39 = .ok (.sipush 6158, 3) := by decide +kernel
theorem d_Mod_isBlank_42 : decode c_Mod_isBlank 42 = .ok (.if_icmp .eq 43, 3) := by decide +kernel
theorem d_Mod_isBlank_45 : decode c_Mod_isBlank 45 = .ok (.iload_n 0, 1) := by decide +kernel
theorem d_Mod_isBlank_46 : decode c_Mod_isBlank 46 = .ok (.sipush 8192, 3) := by decide +kernel
theorem d_Mod_isBlank_49 : decode c_Mod_isBlank 49 = .ok (.sipush 8202, 3) := by decide +kernel
theorem d_Mod_isBlank_52 : decode c_Mod_isBlank 52 = .ok (.invokestatic 103, 3) := by decide +kernel
theorem d_Mod_isBlank_55 : decode c_Mod_isBlank 55 = .ok (.ifCond .ne 30, 3) := by decide +kernel
theorem d_Mod_isBlank_58 : decode c_Mod_isBlank 58 = .ok (.iload_n 0, 1) := by decide +kernel
theorem d_Mod_isBlank_59 : decode c_Mod_isBlank 59 = .ok (.sipush 8239, 3) := by decide +kernel
theorem d_Mod_isBlank_62 : decode c_Mod_isBlank 62 = .ok (.if_icmp .eq 23, 3) := by decide +kernel
theorem d_Mod_isBlank_65 : decode c_Mod_isBlank 65 = .ok (.iload_n 0, 1) := by decide +kernel
theorem d_Mod_isBlank_66 : decode c_Mod_isBlank 66 = .ok (.sipush 8287, 3) := by decide +kernel
theorem d_Mod_isBlank_69 : decode c_Mod_isBlank 69 = .ok (.if_icmp .eq 16, 3) := by decide +kernel
theorem d_Mod_isBlank_72 : decode c_Mod_isBlank 72 = .ok (.iload_n 0, 1) := by decide +kernel
theorem d_Mod_isBlank_73 : decode c_Mod_isBlank 73 = .ok (.sipush 12288, 3) := by decide +kernel
theorem d_Mod_isBlank_76 : decode c_Mod_isBlank 76 = .ok (.if_icmp .eq 9, 3) := by decide +kernel
theorem d_Mod_isBlank_79 : decode c_Mod_isBlank 79 = .ok (.iload_n 0, 1) := by decide +kernel
theorem d_Mod_isBlank_80 : decode c_Mod_isBlank 80 = .ok (.ldc 122, 2) := by decide +kernel
theorem d_Mod_isBlank_82 : decode c_Mod_isBlank 82 = .ok (.if_icmp .ne 7, 3) := by decide +kernel
theorem d_Mod_isBlank_85 : decode c_Mod_isBlank 85 = .ok (.iconst 1, 1) := by decide +kernel
theorem d_Mod_isBlank_86 : decode c_Mod_isBlank 86 = .ok (.goto 4, 3) := by decide +kernel
theorem d_Mod_isBlank_89 : decode c_Mod_isBlank 89 = .ok (.iconst 0, 1) := by decide +kernel
theorem d_Mod_isBlank_90 : decode c_Mod_isBlank 90 = .ok (.ireturn, 1) := by decide +kernel
theorem d_Mod_inSet_0 : decode c_Mod_inSet 0 = .ok (.iload_n 0, 1) := by decide +kernel
theorem d_Mod_inSet_1 : decode c_Mod_inSet 1 = .ok (.bipush 100, 2) := by decide +kernel
theorem d_Mod_inSet_3 : decode c_Mod_inSet 3 = .ok (.if_icmp .eq 9, 3) := by decide +kernel
theorem d_Mod_inSet_6 : decode c_Mod_inSet 6 = .ok (.iload_n 0, 1) := by decide +kernel
theorem d_Mod_inSet_7 : decode c_Mod_inSet 7 = .ok (.bipush 68, 2) := by decide +kernel
theorem d_Mod_inSet_9 : decode c_Mod_inSet 9 = .ok (.if_icmp .ne 27, 3) := by decide +kernel
theorem d_Mod_inSet_12 : decode c_Mod_inSet 12 = .ok (.iload_n 1, 1) := by decide +kernel
theorem d_Mod_inSet_13 : decode c_Mod_inSet 13 = .ok (.invokestatic 116, 3) := by decide +kernel
theorem d_Mod_inSet_16 : decode c_Mod_inSet 16 = .ok (.iload_n 0, 1) := by decide +kernel
theorem d_Mod_inSet_17 : decode c_Mod_inSet 17 = .ok (.bipush 100, 2) := by decide +kernel
theorem d_Mod_inSet_19 : decode c_Mod_inSet 19 = .ok (.if_icmp .ne 7, 3) := by decide +kernel
theorem d_Mod_inSet_22 : decode c_Mod_inSet 22 = .ok (.iconst 1, 1) := by decide +kernel
theorem d_Mod_inSet_23 : decode c_Mod_inSet 23 = .ok (.goto 4, 3) := by decide +kernel
theorem d_Mod_inSet_26 : decode c_Mod_inSet 26 = .ok (.iconst 0, 1) := by decide +kernel
theorem d_Mod_inSet_27 : decode c_Mod_inSet 27 = .ok (.if_icmp .ne 7, 3) := by decide +kernel
theorem d_Mod_inSet_30 : decode c_Mod_inSet 30 = .ok (.iconst 1, 1) := by decide +kernel
theorem d_Mod_inSet_31 : decode c_Mod_inSet 31 = .ok (.goto 4, 3) := by decide +kernel
theorem d_Mod_inSet_34 : decode c_Mod_inSet 34 = .ok (.iconst 0, 1) := by decide +kernel
theorem d_Mod_inSet_35 : decode c_Mod_inSet 35 = .ok (.ireturn, 1) := by decide +kernel
theorem d_Mod_inSet_36 : decode c_Mod_inSet 36 = .ok (.iload_n 0, 1) := by decide +kernel
theorem d_Mod_inSet_37 : decode c_Mod_inSet 37 = .ok (.bipush 119, 2) := by decide +kernel
theorem d_Mod_inSet_39 : decode c_Mod_inSet 39 = .ok (.if_icmp .eq 9, 3) := by decide +kernel
theorem d_Mod_inSet_42 : decode c_Mod_inSet 42 = .ok (.iload_n 0, 1) := by decide +kernel
theorem d_Mod_inSet_43 : decode c_Mod_inSet 43 = .ok (.bipush 87, 2) := by decide +kernel
theorem d_Mod_inSet_45 : decode c_Mod_inSet 45 = .ok (.if_icmp .ne 27, 3) := by decide +kernel
theorem d_Mod_inSet_48 : decode c_Mod_inSet 48 = .ok (.iload_n 1, 1) := by decide +kernel
theorem d_Mod_inSet_49 : decode c_Mod_inSet 49 = .ok (.invokestatic 119, 3) := by decide +kernel
theorem d_Mod_inSet_52 : decode c_Mod_inSet 52 = .ok (.iload_n 0, 1) := by decide +kernel
theorem d_Mod_inSet_53 : decode c_Mod_inSet 53 = .ok (.bipush 119, 2) := by decide +kernel
theorem d_Mod_inSet_55 : decode c_Mod_inSet 55 = .ok (.if_icmp .ne 7, 3) := by decide +kernel
theorem d_Mod_inSet_58 : decode c_Mod_inSet 58 = .ok (.iconst 1, 1) := by decide +kernel
theorem d_Mod_inSet_59 : decode c_Mod_inSet 59 = .ok (.goto 4, 3) := by decide +kernel
theorem d_Mod_inSet_62 : decode c_Mod_inSet 62 = .ok (.iconst 0, 1) := by decide +kernel
theorem d_Mod_inSet_63 : decode c_Mod_inSet 63 = .ok (.if_icmp .ne 7, 3) := by decide +kernel
theorem d_Mod_inSet_66 : decode c_Mod_inSet 66 = .ok (.iconst 1, 1) := by decide +kernel
theorem d_Mod_inSet_67 : decode c_Mod_inSet 67 = .ok (.goto 4, 3) := by decide +kernel
theorem d_Mod_inSet_70 : decode c_Mod_inSet 70 = .ok (.iconst 0, 1) := by decide +kernel
theorem d_Mod_inSet_71 : decode c_Mod_inSet 71 = .ok (.ireturn, 1) := by decide +kernel
theorem d_Mod_inSet_72 : decode c_Mod_inSet 72 = .ok (.iload_n 1, 1) := by decide +kernel
theorem d_Mod_inSet_73 : decode c_Mod_inSet 73 = .ok (.invokestatic 123, 3) := by decide +kernel
theorem d_Mod_inSet_76 : decode c_Mod_inSet 76 = .ok (.ifCond .ne 10, 3) := by decide +kernel
theorem d_Mod_inSet_79 : decode c_Mod_inSet 79 = .ok (.iload_n 1, 1) := by decide +kernel
theorem d_Mod_inSet_80 : decode c_Mod_inSet 80 = .ok (.invokestatic 126, 3) := by decide +kernel
theorem d_Mod_inSet_83 : decode c_Mod_inSet 83 = .ok (.ifCond .eq 7, 3) := by decide +kernel
theorem d_Mod_inSet_86 : decode c_Mod_inSet 86 = .ok (.iconst 1, 1) := by decide +kernel
theorem d_Mod_inSet_87 : decode c_Mod_inSet 87 = .ok (.goto 4, 3) := by decide +kernel
theorem d_Mod_inSet_90 : decode c_Mod_inSet 90 = .ok (.iconst 0, 1) := by decide +kernel
theorem d_Mod_inSet_91 : decode c_Mod_inSet 91 = .ok (.iload_n 0, 1) := by decide +kernel
theorem d_Mod_inSet_92 : decode c_Mod_inSet 92 = .ok (.bipush 115, 2) := by decide +kernel
theorem d_Mod_inSet_94 : decode c_Mod_inSet 94 = .ok (.if_icmp .ne 7, 3) := by decide +kernel
theorem d_Mod_inSet_97 : decode c_Mod_inSet 97 = .ok (.iconst 1, 1) := by decide +kernel
theorem d_Mod_inSet_98 : decode c_Mod_inSet 98 = .ok (.goto 4, 3) := by decide +kernel
theorem d_Mod_inSet_101 : decode c_Mod_inSet 101 = .ok (.iconst 0, 1) := by decide +kernel
theorem d_Mod_inSet_102 : decode c_Mod_inSet 102 = .ok (.if_icmp .ne 7, 3) := by decide +kernel
theorem d_Mod_inSet_105 : decode c_Mod_inSet 105 = .ok (.iconst 1, 1) := by decide +kernel
theorem d_Mod_inSet_106 : decode c_Mod_inSet 106 = .ok (.goto 4, 3) := by decide +kernel
theorem d_Mod_inSet_109 : decode c_Mod_inSet 109 = .ok (.iconst 0, 1) := by decide +kernel
theorem d_Mod_inSet_110 : decode c_Mod_inSet 110 = .ok (.ireturn, 1) := by decide +kernel
theorem d_Mod_upper_0 : decode c_Mod_upper 0 = .ok (.iload_n 0, 1) := by decide +kernel
theorem d_Mod_upper_1 : decode c_Mod_upper 1 = .ok (.bipush 97, 2) := by decide +kernel
theorem d_Mod_upper_3 : decode c_Mod_upper 3 = .ok (.bipush 122, 2) := by decide +kernel
theorem d_Mod_upper_5 : decode c_Mod_upper 5 = .ok (.invokestatic 103, 3) := by decide +kernel
theorem d_Mod_upper_8 : decode c_Mod_upper 8 = .ok (.ifCond .ne 29, 3) := by decide +kernel
theorem d_Mod_upper_11 : decode c_Mod_upper 11 = .ok (.iload_n 0, 1) := by decide +kernel
theorem d_Mod_upper_12 : decode c_Mod_upper 12 = .ok (.sipush 224, 3) := by decide +kernel
theorem d_Mod_upper_15 : decode c_Mod_upper 15 = .ok (.sipush 246, 3) := by decide +kernel
theorem d_Mod_upper_18 : decode c_Mod_upper 18 = .ok (.invokestatic 103, 3) := by decide +kernel
theorem d_Mod_upper_21 : decode c_Mod_upper 21 = .ok (.ifCond .ne 16, 3) := by decide +kernel
theorem d_Mod_upper_24 : decode c_Mod_upper 24 = .ok (.iload_n 0, 1) := by decide +kernel
theorem d_Mod_upper_25 : decode c_Mod_upper 25 = .ok (.sipush 248, 3) := by decide +kernel
theorem d_Mod_upper_28 : decode c_Mod_upper 28 = .ok (.sipush 254, 3) := by decide +kernel
theorem d_Mod_upper_31 : decode c_Mod_upper 31 = .ok (.invokestatic 103, 3) := by decide +kernel
theorem d_Mod_upper_34 : decode c_Mod_upper 34 = .ok (.ifCond .eq 8, 3) := by decide +kernel
theorem d_Mod_upper_37 : decode c_Mod_upper 37 = .ok (.iload_n 0, 1) := by decide +kernel
theorem d_Mod_upper_38 : decode c_Mod_upper 38 = .ok (.bipush 32, 2) := by decide +kernel
theorem d_Mod_upper_40 : decode c_Mod_upper 40 = .ok (.isub, 1) := by decide +kernel
theorem d_Mod_upper_41 : decode c_Mod_upper 41 = .ok (.ireturn, 1) := by decide +kernel
theorem d_Mod_upper_42 : decode c_Mod_upper 42 = .ok (.iload_n 0, 1) := by decide +kernel
theorem d_Mod_upper_43 : decode c_Mod_upper 43 = .ok (.sipush 255, 3) := by decide +kernel
theorem d_Mod_upper_46 : decode c_Mod_upper 46 = .ok (.if_icmp .ne 9, 3) := by decide +kernel
theorem d_Mod_upper_49 : decode c_Mod_upper 49 = .ok (.sipush 376, 3) := by decide +kernel
theorem d_Mod_upper_52 : decode c_Mod_upper 52 = .ok (.goto 17, 3) := by decide +kernel
theorem d_Mod_upper_55 : decode c_Mod_upper 55 = .ok (.iload_n 0, 1) := by decide +kernel
theorem d_Mod_upper_56 : decode c_Mod_upper 56 = .ok (.sipush 181, 3) := by decide +kernel
theorem d_Mod_upper_59 : decode c_Mod_upper 59 = .ok (.if_icmp .ne 9, 3) := by decide +kernel
theorem d_Mod_upper_62 : decode c_Mod_upper 62 = .ok (.sipush 924, 3) := by decide +kernel
theorem d_Mod_upper_65 : decode c_Mod_upper 65 = .ok (.goto 4, 3) := by decide +kernel
theorem d_Mod_upper_68 : decode c_Mod_upper 68 = .ok (.iload_n 0, 1) := by decide +kernel
theorem d_Mod_upper_69 : decode c_Mod_upper 69 = .ok (.ireturn, 1) := by decide +kernel
theorem d_Mod_sixteen_0 : decode c_Mod_sixteen 0 = .ok (.iload_n 0, 1) := by decide +kernel
theorem d_Mod_sixteen_1 : decode c_Mod_sixteen 1 = .ok (.invokestatic 116, 3) := by decide +kernel
theorem d_Mod_sixteen_4 : decode c_Mod_sixteen 4 = .ok (.ifCond .eq 10, 3) := by decide +kernel
theorem d_Mod_sixteen_7 : decode c_Mod_sixteen 7 = .ok (.iload_n 0, 1) := by decide +kernel
theorem d_Mod_sixteen_8 : decode c_Mod_sixteen 8 = .ok (.bipush 48, 2) := by decide +kernel
theorem d_Mod_sixteen_10 : decode c_Mod_sixteen 10 = .ok (.isub, 1) := by decide +kernel
theorem d_Mod_sixteen_11 : decode c_Mod_sixteen 11 = .ok (.goto 46, 3) := by decide +kernel
theorem d_Mod_sixteen_14 : decode c_Mod_sixteen 14 = .ok (.iload_n 0, 1) := by decide +kernel
theorem d_Mod_sixteen_15 : decode c_Mod_sixteen 15 = .ok (.bipush 97, 2) := by decide +kernel
theorem d_Mod_sixteen_17 : decode c_Mod_sixteen 17 = .ok (.bipush 102, 2) := by decide +kernel
theorem d_Mod_sixteen_19 : decode c_Mod_sixteen 19 = .ok (.invokestatic 103, 3) := by decide +kernel
theorem d_Mod_sixteen_22 : decode c_Mod_sixteen 22 = .ok (.ifCond .eq 13, 3) := by decide +kernel
theorem d_Mod_sixteen_25 : decode c_Mod_sixteen 25 = .ok (.iload_n 0, 1) := by decide +kernel
theorem d_Mod_sixteen_26 : decode c_Mod_sixteen 26 = .ok (.bipush 97, 2) := by decide +kernel
theorem d_Mod_sixteen_28 : decode c_Mod_sixteen 28 = .ok (.isub, 1) := by decide +kernel
theorem d_Mod_sixteen_29 : decode c_Mod_sixteen 29 = .ok (.bipush 10, 2) := by decide +kernel
theorem d_Mod_sixteen_31 : decode c_Mod_sixteen 31 = .ok (.iadd, 1) := by decide +kernel
theorem d_Mod_sixteen_32 : decode c_Mod_sixteen 32 = .ok (.goto 25, 3) := by decide +kernel
theorem d_Mod_sixteen_35 : decode c_Mod_sixteen 35 = .ok (.iload_n 0, 1) := by decide +kernel
theorem d_Mod_sixteen_36 : decode c_Mod_sixteen 36 = .ok (.bipush 65, 2) := by decide +kernel
theorem d_Mod_sixteen_38 : decode c_Mod_sixteen 38 = .ok (.bipush 70, 2) := by decide +kernel
theorem d_Mod_sixteen_40 : decode c_Mod_sixteen 40 = .ok (.invokestatic 103, 3) := by decide +kernel
theorem d_Mod_sixteen_43 : decode c_Mod_sixteen 43 = .ok (.ifCond .eq 13, 3) := by decide +kernel
theorem d_Mod_sixteen_46 : decode c_Mod_sixteen 46 = .ok (.iload_n 0, 1) := by decide +kernel
theorem d_Mod_sixteen_47 : decode c_Mod_sixteen 47 = .ok (.bipush 65, 2) := by decide +kernel
theorem d_Mod_sixteen_49 : decode c_Mod_sixteen 49 = .ok (.isub, 1) := by decide +kernel
theorem d_Mod_sixteen_50 : decode c_Mod_sixteen 50 = .ok (.bipush 10, 2) := by decide +kernel
theorem d_Mod_sixteen_52 : decode c_Mod_sixteen 52 = .ok (.iadd, 1) := by decide +kernel
theorem d_Mod_sixteen_53 : decode c_Mod_sixteen 53 = .ok (.goto 4, 3) := by decide +kernel
theorem d_Mod_sixteen_56 : decode c_Mod_sixteen 56 = .ok (.iconst (-1), 1) := by decide +kernel
theorem d_Mod_sixteen_57 : decode c_Mod_sixteen 57 = .ok (.ireturn, 1) := by decide +kernel
theorem d_Mod_see_0 : decode c_Mod_see 0 = .ok (.aload_n 0, 1) := by decide +kernel
theorem d_Mod_see_1 : decode c_Mod_see 1 = .ok (.getfield 129, 3) := by decide +kernel
theorem d_Mod_see_4 : decode c_Mod_see 4 = .ok (.iload_n 1, 1) := by decide +kernel
theorem d_Mod_see_5 : decode c_Mod_see 5 = .ok (.iadd, 1) := by decide +kernel
theorem d_Mod_see_6 : decode c_Mod_see 6 = .ok (.aload_n 0, 1) := by decide +kernel
theorem d_Mod_see_7 : decode c_Mod_see 7 = .ok (.getfield 132, 3) := by decide +kernel
theorem d_Mod_see_10 : decode c_Mod_see 10 = .ok (.if_icmp .ge 17, 3) := by decide +kernel
theorem d_Mod_see_13 : decode c_Mod_see 13 = .ok (.aload_n 0, 1) := by decide +kernel
theorem d_Mod_see_14 : decode c_Mod_see 14 = .ok (.getfield 13, 3) := by decide +kernel
theorem d_Mod_see_17 : decode c_Mod_see 17 = .ok (.aload_n 0, 1) := by decide +kernel
theorem d_Mod_see_18 : decode c_Mod_see 18 = .ok (.getfield 129, 3) := by decide +kernel
theorem d_Mod_see_21 : decode c_Mod_see 21 = .ok (.iload_n 1, 1) := by decide +kernel
theorem d_Mod_see_22 : decode c_Mod_see 22 = .ok (.iadd, 1) := by decide +kernel
theorem d_Mod_see_23 : decode c_Mod_see 23 = .ok (.iaload, 1) := by decide +kernel
theorem d_Mod_see_24 : decode c_Mod_see 24 = .ok (.goto 4, 3) := by decide +kernel
theorem d_Mod_see_27 : decode c_Mod_see 27 = .ok (.iconst (-1), 1) := by decide +kernel
theorem d_Mod_see_28 : decode c_Mod_see 28 = .ok (.ireturn, 1) := by decide +kernel
theorem d_Mod_fail_0 : decode c_Mod_fail 0 = .ok (.aload_n 0, 1) := by decide +kernel
theorem d_Mod_fail_1 : decode c_Mod_fail 1 = .ok (.getfield 135, 3) := by decide +kernel
theorem d_Mod_fail_4 : decode c_Mod_fail 4 = .ok (.ifCond .ge 8, 3) := by decide +kernel
theorem d_Mod_fail_7 : decode c_Mod_fail 7 = .ok (.aload_n 0, 1) := by decide +kernel
theorem d_Mod_fail_8 : decode c_Mod_fail 8 = .ok (.iload_n 1, 1) := by decide +kernel
theorem d_Mod_fail_9 : decode c_Mod_fail 9 = .ok (.putfield 135, 3) := by decide +kernel
theorem d_Mod_fail_12 : decode c_Mod_fail 12 = .ok (.return_, 1) := by decide +kernel
theorem d_Mod_node_0 : decode c_Mod_node 0 = .ok (.aload_n 0, 1) := by decide +kernel
theorem d_Mod_node_1 : decode c_Mod_node 1 = .ok (.getfield 23, 3) := by decide +kernel
theorem d_Mod_node_4 : decode c_Mod_node 4 = .ok (.aload_n 0, 1) := by decide +kernel
theorem d_Mod_node_5 : decode c_Mod_node 5 = .ok (.getfield 138, 3) := by decide +kernel
theorem d_Mod_node_8 : decode c_Mod_node 8 = .ok (.iload_n 1, 1) := by decide +kernel
theorem d_Mod_node_9 : decode c_Mod_node 9 = .ok (.iastore, 1) := by decide +kernel
theorem d_Mod_node_10 : decode c_Mod_node 10 = .ok (.aload_n 0, 1) := by decide +kernel
theorem d_Mod_node_11 : decode c_Mod_node 11 = .ok (.getfield 26, 3) := by decide +kernel
theorem d_Mod_node_14 : decode c_Mod_node 14 = .ok (.aload_n 0, 1) := by decide +kernel
theorem d_Mod_node_15 : decode c_Mod_node 15 = .ok (.getfield 138, 3) := by decide +kernel
theorem d_Mod_node_18 : decode c_Mod_node 18 = .ok (.iload_n 2, 1) := by decide +kernel
theorem d_Mod_node_19 : decode c_Mod_node 19 = .ok (.iastore, 1) := by decide +kernel
theorem d_Mod_node_20 : decode c_Mod_node 20 = .ok (.aload_n 0, 1) := by decide +kernel
theorem d_Mod_node_21 : decode c_Mod_node 21 = .ok (.getfield 29, 3) := by decide +kernel
theorem d_Mod_node_24 : decode c_Mod_node 24 = .ok (.aload_n 0, 1) := by decide +kernel
theorem d_Mod_node_25 : decode c_Mod_node 25 = .ok (.getfield 138, 3) := by decide +kernel
theorem d_Mod_node_28 : decode c_Mod_node 28 = .ok (.iload_n 3, 1) := by decide +kernel
theorem d_Mod_node_29 : decode c_Mod_node 29 = .ok (.iastore, 1) := by decide +kernel
theorem d_Mod_node_30 : decode c_Mod_node 30 = .ok (.aload_n 0, 1) := by decide +kernel
theorem d_Mod_node_31 : decode c_Mod_node 31 = .ok (.getfield 32, 3) := by decide +kernel
theorem d_Mod_node_34 : decode c_Mod_node 34 = .ok (.aload_n 0, 1) := by decide +kernel
theorem d_Mod_node_35 : decode c_Mod_node 35 = .ok (.getfield 138, 3) := by decide +kernel
theorem d_Mod_node_38 : decode c_Mod_node 38 = .ok (.iload 4, 2) := by decide +kernel
theorem d_Mod_node_40 : decode c_Mod_node 40 = .ok (.iastore, 1) := by decide +kernel
theorem d_Mod_node_41 : decode c_Mod_node 41 = .ok (.aload_n 0, 1) := by decide +kernel
theorem d_Mod_node_42 : decode c_Mod_node 42 = .ok (.getfield 35, 3) := by decide +kernel
theorem d_Mod_node_45 : decode c_Mod_node 45 = .ok (.aload_n 0, 1) := by decide +kernel
theorem d_Mod_node_46 : decode c_Mod_node 46 = .ok (.getfield 138, 3) := by decide +kernel
theorem d_Mod_node_49 : decode c_Mod_node 49 = .ok (.iconst (-1), 1) := by decide +kernel
theorem d_Mod_node_50 : decode c_Mod_node 50 = .ok (.iastore, 1) := by decide +kernel
theorem d_Mod_node_51 : decode c_Mod_node 51 = .ok (.aload_n 0, 1) := by decide +kernel
theorem d_Mod_node_52 : decode c_Mod_node 52 = .ok (.getfield 38, 3) := by decide +kernel
theorem d_Mod_node_55 : decode c_Mod_node 55 = .ok (.aload_n 0, 1) := by decide +kernel
theorem d_Mod_node_56 : decode c_Mod_node 56 = .ok (.getfield 138, 3) := by decide +kernel
theorem d_Mod_node_59 : decode c_Mod_node 59 = .ok (.iconst (-1), 1) := by decide +kernel
theorem d_Mod_node_60 : decode c_Mod_node 60 = .ok (.iastore, 1) := by decide +kernel
theorem d_Mod_node_61 : decode c_Mod_node 61 = .ok (.aload_n 0, 1) := by decide +kernel
theorem d_Mod_node_62 : decode c_Mod_node 62 = .ok (.getfield 41, 3) := by decide +kernel
theorem d_Mod_node_65 : decode c_Mod_node 65 = .ok (.aload_n 0, 1) := by decide +kernel
theorem d_Mod_node_66 : decode c_Mod_node 66 = .ok (.getfield 138, 3) := by decide +kernel
theorem d_Mod_node_69 : decode c_Mod_node 69 = .ok (.iconst (-1), 1) := by decide +kernel
theorem d_Mod_node_70 : decode c_Mod_node 70 = .ok (.iastore, 1) := by decide +kernel
theorem d_Mod_node_71 : decode c_Mod_node 71 = .ok (.aload_n 0, 1) := by decide +kernel
theorem d_Mod_node_72 : decode c_Mod_node 72 = .ok (.getfield 44, 3) := by decide +kernel
theorem d_Mod_node_75 : decode c_Mod_node 75 = .ok (.aload_n 0, 1) := by decide +kernel
theorem d_Mod_node_76 : decode c_Mod_node 76 = .ok (.getfield 138, 3) := by decide +kernel
theorem d_Mod_node_79 : decode c_Mod_node 79 = .ok (.aload_n 0, 1) := by decide +kernel
theorem d_Mod_node_80 : decode c_Mod_node 80 = .ok (.getfield 141, 3) := by decide +kernel
theorem d_Mod_node_83 : decode c_Mod_node 83 = .ok (.iastore, 1) := by decide +kernel
theorem d_Mod_node_84 : decode c_Mod_node 84 = .ok (.aload_n 0, 1) := by decide +kernel
theorem d_Mod_node_85 : decode c_Mod_node 85 = .ok (.getfield 47, 3) := by decide +kernel
theorem d_Mod_node_88 : decode c_Mod_node 88 = .ok (.aload_n 0, 1) := by decide +kernel
theorem d_Mod_node_89 : decode c_Mod_node 89 = .ok (.getfield 138, 3) := by decide +kernel
theorem d_Mod_node_92 : decode c_Mod_node 92 = .ok (.aload_n 0, 1) := by decide +kernel
theorem d_Mod_node_93 : decode c_Mod_node 93 = .ok (.getfield 141, 3) := by decide +kernel
theorem d_Mod_node_96 : decode c_Mod_node 96 = .ok (.iastore, 1) := by decide +kernel
theorem d_Mod_node_97 : decode c_Mod_node 97 = .ok (.aload_n 0, 1) := by decide +kernel
theorem d_Mod_node_98 : decode c_Mod_node 98 = .ok (.dup, 1) := by decide +kernel
theorem d_Mod_node_99 : decode c_Mod_node 99 = .ok (.getfield 138, 3) := by decide +kernel
theorem d_Mod_node_102 : decode c_Mod_node 102 = .ok (.iconst 1, 1) := by decide +kernel
theorem d_Mod_node_103 : decode c_Mod_node 103 = .ok (.iadd, 1) := by decide +kernel
theorem d_Mod_node_104 : decode c_Mod_node 104 = .ok (.putfield 138, 3) := by decide +kernel
theorem d_Mod_node_107 : decode c_Mod_node 107 = .ok (.aload_n 0, 1) := by decide +kernel
theorem d_Mod_node_108 : decode c_Mod_node 108 = .ok (.getfield 138, 3) := by decide +kernel
theorem d_Mod_node_111 : decode c_Mod_node 111 = .ok (.iconst 1, 1) := by decide +kernel
theorem d_Mod_node_112 : decode c_Mod_node 112 = .ok (.isub, 1) := by decide +kernel
theorem d_Mod_node_113 : decode c_Mod_node 113 = .ok (.ireturn, 1) := by decide +kernel
def Mod_thrown_b0 (N : Nat) (σ : g_S) : Option (Int32 × g_S) := some ((σ.1 0), σ)
theorem Mod_thrown_p0 (ao aa : Nat → Nat) {X : g_X} (hC : gC X c_Mod_thrown R_Mod 0 0 1 (some .int)) (N : Nat) (σ : g_S) (r : Int32) (σe : g_S) (hf : Mod_thrown_b0 N σ = some (r, σe)) : gw X (.inl (some (.int r))) (LM ao aa X.2.2.1 σe) (LM ao aa X.2.2.1 σ) [(0, .ref (ao 0))] 0 [] := by
  unfold Mod_thrown_b0 at hf
  refine gw_aload_n hC 0 d_Mod_thrown_0 rfl rfl ?_
  refine Mg0 hC kf_Mod_100 d_Mod_thrown_1 (σ.1 0) rfl ?_
  cases hf
  exact gw_iret hC d_Mod_thrown_4
def Mod_thrown (N : Nat) (σ : g_S) : Option (Int32 × g_S) := Mod_thrown_b0 N  σ
theorem Mod_thrown_m (l : Launch) (D : va_G) (cA : ClassId) (ao aa : Nat → Nat) (N : Nat) (σ : g_S) (r : Int32) (σe : g_S) (hf : Mod_thrown N σ = some (r, σe)) : Mt l D cA y_Mod_thrown c_Mod_thrown 1 (some .int) 0 0 [.ref (ao 0)] (LM ao aa cA σ) (some (.int r)) (LM ao aa cA σe) := by
  refine g_met (by decide +kernel) (by simp [lg_sl, Value.category]) (fun X e1 e2 e3 hC => ?_)
  subst e1 e2 e3
  refine gw_lv [0] rfl ?_
  exact Mod_thrown_p0 ao aa hC N _ (r) _ hf
def Mod_in_b15 (N : Nat) (s0 : Int32) (σ : g_S) : Option (Int32 × g_S) := if gB s0 = true then some (s0, σ) else none
theorem Mod_in_p15 (ao aa : Nat → Nat) {X : g_X} (hC : gC X c_Mod_in R_Mod 0 0 3 (some .boolean)) (N : Nat) (s0 : Int32) (σ : g_S) (r : Int32) (σe : g_S) (hf : Mod_in_b15 N s0 σ = some (r, σe)) : gw X (.inl (some (.int r))) (LM ao aa X.2.2.1 σe) (LM ao aa X.2.2.1 σ) [] 15 [.int s0] := by
  unfold Mod_in_b15 at hf
  obtain ⟨hg15, hf⟩ := g_guard hf
  cases hf
  exact gw_zret hC hg15 d_Mod_in_15
def Mod_in_b14 (N : Nat) (σ : g_S) : Option (Int32 × g_S) := Mod_in_b15 N 0 σ
theorem Mod_in_p14 (ao aa : Nat → Nat) {X : g_X} (hC : gC X c_Mod_in R_Mod 0 0 3 (some .boolean)) (N : Nat) (σ : g_S) (r : Int32) (σe : g_S) (hf : Mod_in_b14 N σ = some (r, σe)) : gw X (.inl (some (.int r))) (LM ao aa X.2.2.1 σe) (LM ao aa X.2.2.1 σ) [] 14 [] := by
  unfold Mod_in_b14 at hf
  refine gw_iconst hC 0 d_Mod_in_14 (by decide) ?_
  exact Mod_in_p15 ao aa hC N _ _ _ _ hf
def Mod_in_b10 (N : Nat) (σ : g_S) : Option (Int32 × g_S) := Mod_in_b15 N 1 σ
theorem Mod_in_p10 (ao aa : Nat → Nat) {X : g_X} (hC : gC X c_Mod_in R_Mod 0 0 3 (some .boolean)) (N : Nat) (σ : g_S) (r : Int32) (σe : g_S) (hf : Mod_in_b10 N σ = some (r, σe)) : gw X (.inl (some (.int r))) (LM ao aa X.2.2.1 σe) (LM ao aa X.2.2.1 σ) [] 10 [] := by
  unfold Mod_in_b10 at hf
  refine gw_iconst hC 1 d_Mod_in_10 (by decide) ?_
  refine gw_goto hC 15 d_Mod_in_11 (by decide) ?_
  exact Mod_in_p15 ao aa hC N _ _ _ _ hf
def Mod_in_b5 (N : Nat) (x0 : Int32) (x2 : Int32) (σ : g_S) : Option (Int32 × g_S) := if x2 < x0 then Mod_in_b14 N σ else Mod_in_b10 N σ
theorem Mod_in_p5 (ao aa : Nat → Nat) {X : g_X} (hC : gC X c_Mod_in R_Mod 0 0 3 (some .boolean)) (N : Nat) (x0 : Int32) (x2 : Int32) (σ : g_S) (r : Int32) (σe : g_S) (hf : Mod_in_b5 N x0 x2 σ = some (r, σe)) : gw X (.inl (some (.int r))) (LM ao aa X.2.2.1 σe) (LM ao aa X.2.2.1 σ) [(0, .int x0), (2, .int x2)] 5 [] := by
  unfold Mod_in_b5 at hf
  refine gw_iload_n hC 0 d_Mod_in_5 rfl rfl ?_
  refine gw_iload_n hC 1 d_Mod_in_6 rfl rfl ?_
  refine gw_icmp_gt hC 14 d_Mod_in_7 (by decide) (fun hh => ?_) (fun hh => ?_)
  · rw [if_pos hh] at hf
    refine gw_lv [] rfl ?_
    exact Mod_in_p14 ao aa hC N _ _ _ hf
  · rw [if_neg hh] at hf
    refine gw_lv [] rfl ?_
    exact Mod_in_p10 ao aa hC N _ _ _ hf
def Mod_in_b0 (N : Nat) (x0 : Int32) (x1 : Int32) (x2 : Int32) (σ : g_S) : Option (Int32 × g_S) := if x0 < x1 then Mod_in_b14 N σ else Mod_in_b5 N x0 x2 σ
theorem Mod_in_p0 (ao aa : Nat → Nat) {X : g_X} (hC : gC X c_Mod_in R_Mod 0 0 3 (some .boolean)) (N : Nat) (x0 : Int32) (x1 : Int32) (x2 : Int32) (σ : g_S) (r : Int32) (σe : g_S) (hf : Mod_in_b0 N x0 x1 x2 σ = some (r, σe)) : gw X (.inl (some (.int r))) (LM ao aa X.2.2.1 σe) (LM ao aa X.2.2.1 σ) [(0, .int x0), (1, .int x1), (2, .int x2)] 0 [] := by
  unfold Mod_in_b0 at hf
  refine gw_iload_n hC 0 d_Mod_in_0 rfl rfl ?_
  refine gw_iload_n hC 1 d_Mod_in_1 rfl rfl ?_
  refine gw_icmp_lt hC 14 d_Mod_in_2 (by decide) (fun hh => ?_) (fun hh => ?_)
  · rw [if_pos hh] at hf
    refine gw_lv [] rfl ?_
    exact Mod_in_p14 ao aa hC N _ _ _ hf
  · rw [if_neg hh] at hf
    refine gw_lv [0, 2] rfl ?_
    exact Mod_in_p5 ao aa hC N _ _ _ _ _ hf
def Mod_in (N : Nat) (x0 : Int32) (x1 : Int32) (x2 : Int32) (σ : g_S) : Option (Int32 × g_S) := Mod_in_b0 N x0 x1 x2 σ
theorem Mod_in_m (l : Launch) (D : va_G) (cA : ClassId) (ao aa : Nat → Nat) (N : Nat) (x0 : Int32) (x1 : Int32) (x2 : Int32) (σ : g_S) (r : Int32) (σe : g_S) (hf : Mod_in N x0 x1 x2 σ = some (r, σe)) : Mt l D cA y_Mod_in c_Mod_in 3 (some .boolean) 0 0 [.int x0, .int x1, .int x2] (LM ao aa cA σ) (some (.int r)) (LM ao aa cA σe) := by
  refine g_met (by decide +kernel) (by simp [lg_sl, Value.category]) (fun X e1 e2 e3 hC => ?_)
  subst e1 e2 e3
  refine gw_lv [0, 1, 2] rfl ?_
  exact Mod_in_p0 ao aa hC N _ _ _ _ (r) _ hf
def Mod_put_b90 (N : Nat) (σ : g_S) : Option (Int32 × g_S) := some ((σ.1 1), σ)
theorem Mod_put_p90 (ao aa : Nat → Nat) {X : g_X} (hC : gC X c_Mod_put R_Mod 1 22 5 (some .int)) (N : Nat) (σ : g_S) (r : Int32) (σe : g_S) (hf : Mod_put_b90 N σ = some (r, σe)) : gw X (.inl (some (.int r))) (LM ao aa X.2.2.1 σe) (LM ao aa X.2.2.1 σ) [(0, .ref (ao 0))] 90 [] := by
  unfold Mod_put_b90 at hf
  refine gw_aload_n hC 0 d_Mod_put_90 rfl rfl ?_
  refine Mg1 hC kf_Mod_107 d_Mod_put_91 (σ.1 1) rfl ?_
  cases hf
  exact gw_iret hC d_Mod_put_94
def Mod_put_b53 (N : Nat) (k48 : Int64 → Int32 → g_S → Option (Int32 × g_S)) (x1 : Int64) (x4 : Int32) (σ : g_S) : Option (Int32 × g_S) := if gIn (σ.1 1) 600 = true then k48 x1 (x4 + (-1)) (gF (gA σ 0 ((σ.1 1)).toNatClampNeg (((x1 >>> (((16 * x4) : Int32).toInt64 &&& 63)) &&& 65535)).toInt32) 1 ((σ.1 1) + 1)) else none
theorem Mod_put_p53 (ao aa : Nat → Nat) {X : g_X} (hC : gC X c_Mod_put R_Mod 1 22 5 (some .int)) (N : Nat) (k48 : Int64 → Int32 → g_S → Option (Int32 × g_S)) (hk48 : ∀ (x1 : Int64) (x4 : Int32) (σ : g_S) (r : Int32) (σe : g_S), k48 x1 x4 σ = some (r, σe) → gw X (.inl (some (.int r))) (LM ao aa X.2.2.1 σe) (LM ao aa X.2.2.1 σ) [(0, .ref (ao 0)), (1, .long x1), (4, .int x4)] 48 []) (x1 : Int64) (x4 : Int32) (σ : g_S) (r : Int32) (σe : g_S) (hf : Mod_put_b53 N k48 x1 x4 σ = some (r, σe)) : gw X (.inl (some (.int r))) (LM ao aa X.2.2.1 σe) (LM ao aa X.2.2.1 σ) [(0, .ref (ao 0)), (1, .long x1), (4, .int x4)] 53 [] := by
  unfold Mod_put_b53 at hf
  refine gw_aload_n hC 0 d_Mod_put_53 rfl rfl ?_
  refine Mr_Mod_told hC kf_Mod_9 d_Mod_put_54 ?_
  refine gw_aload_n hC 0 d_Mod_put_57 rfl rfl ?_
  refine Mg1 hC kf_Mod_107 d_Mod_put_58 (σ.1 1) rfl ?_
  refine gw_lload_n hC 1 d_Mod_put_61 rfl rfl ?_
  refine gw_bipush hC 16 d_Mod_put_62 (by decide) ?_
  refine gw_iload hC 2 d_Mod_put_64 rfl ?_
  refine gw_imul hC d_Mod_put_66 ?_
  refine gw_lshr hC d_Mod_put_67 ?_
  refine gw_ldc2 hC 65535 kn_Mod_110 d_Mod_put_68 ?_
  refine gw_land hC d_Mod_put_71 ?_
  refine gw_l2i hC d_Mod_put_72 ?_
  obtain ⟨hg73, hf⟩ := g_guard hf
  refine Mast (j := 0) hC (by decide) hg73 d_Mod_put_73 ?_
  refine gw_aload_n hC 0 d_Mod_put_74 rfl rfl ?_
  refine gw_dup hC d_Mod_put_75 rfl ?_
  refine Mg1 hC kf_Mod_107 d_Mod_put_76 (σ.1 1) rfl ?_
  refine gw_iconst hC 1 d_Mod_put_79 (by decide) ?_
  refine gw_iadd hC d_Mod_put_80 ?_
  refine Mp1 hC kf_Mod_107 d_Mod_put_81 ?_
  refine gw_iinc hC (x4 + (-1)) 2 [(4, .int (x4 + (-1))), (0, .ref (ao 0)), (1, .long x1)] d_Mod_put_84 rfl rfl (by decide) rfl ?_
  refine gw_goto hC 48 d_Mod_put_87 (by decide) ?_
  refine gw_lv [1, 2, 0] rfl ?_
  exact hk48 _ _ _ _ _ hf
def Mod_put_b48 (N : Nat) (k48 : Int64 → Int32 → g_S → Option (Int32 × g_S)) (x1 : Int64) (x4 : Int32) (σ : g_S) : Option (Int32 × g_S) := if x4 < 0 then Mod_put_b90 N σ else Mod_put_b53 N k48 x1 x4 σ
theorem Mod_put_p48 (ao aa : Nat → Nat) {X : g_X} (hC : gC X c_Mod_put R_Mod 1 22 5 (some .int)) (N : Nat) (k48 : Int64 → Int32 → g_S → Option (Int32 × g_S)) (hk48 : ∀ (x1 : Int64) (x4 : Int32) (σ : g_S) (r : Int32) (σe : g_S), k48 x1 x4 σ = some (r, σe) → gw X (.inl (some (.int r))) (LM ao aa X.2.2.1 σe) (LM ao aa X.2.2.1 σ) [(0, .ref (ao 0)), (1, .long x1), (4, .int x4)] 48 []) (x1 : Int64) (x4 : Int32) (σ : g_S) (r : Int32) (σe : g_S) (hf : Mod_put_b48 N k48 x1 x4 σ = some (r, σe)) : gw X (.inl (some (.int r))) (LM ao aa X.2.2.1 σe) (LM ao aa X.2.2.1 σ) [(0, .ref (ao 0)), (1, .long x1), (4, .int x4)] 48 [] := by
  unfold Mod_put_b48 at hf
  refine gw_iload hC 2 d_Mod_put_48 rfl ?_
  refine gw_if_lt hC 90 d_Mod_put_50 (by decide) (fun hh => ?_) (fun hh => ?_)
  · rw [if_pos hh] at hf
    refine gw_lv [0] rfl ?_
    exact Mod_put_p90 ao aa hC N _ _ _ hf
  · rw [if_neg hh] at hf
    exact Mod_put_p53 ao aa hC N _ hk48 _ _ _ _ _ hf
def Mod_put_l48 (N : Nat) : Nat → Int64 → Int32 → g_S → Option (Int32 × g_S)
  | 0 => fun _ _ _ => none
  | n + 1 => fun x1 x4 σ => Mod_put_b48 N (Mod_put_l48 N n) x1 x4 σ
theorem Mod_put_q48 (ao aa : Nat → Nat) {X : g_X} (hC : gC X c_Mod_put R_Mod 1 22 5 (some .int)) (N : Nat) (n : Nat) : ∀ (x1 : Int64) (x4 : Int32) (σ : g_S) (r : Int32) (σe : g_S), Mod_put_l48 N n x1 x4 σ = some (r, σe) → gw X (.inl (some (.int r))) (LM ao aa X.2.2.1 σe) (LM ao aa X.2.2.1 σ) [(0, .ref (ao 0)), (1, .long x1), (4, .int x4)] 48 [] := by
  induction n with
  | zero => intro x1 x4 σ r σe hf; cases hf
  | succ n ih => intro x1 x4 σ r σe hf; exact Mod_put_p48 ao aa hC N _ (fun x1 x4 σ r2 σ2 h2 => ih x1 x4 σ r2 σ2 h2) x1 x4 σ r σe hf
def Mod_put_b43 (N : Nat) (x1 : Int64) (x3 : Int32) (σ : g_S) : Option (Int32 × g_S) := Mod_put_l48 N N x1 (x3 - 1) σ
theorem Mod_put_p43 (ao aa : Nat → Nat) {X : g_X} (hC : gC X c_Mod_put R_Mod 1 22 5 (some .int)) (N : Nat) (x1 : Int64) (x3 : Int32) (σ : g_S) (r : Int32) (σe : g_S) (hf : Mod_put_b43 N x1 x3 σ = some (r, σe)) : gw X (.inl (some (.int r))) (LM ao aa X.2.2.1 σe) (LM ao aa X.2.2.1 σ) [(0, .ref (ao 0)), (1, .long x1), (3, .int x3)] 43 [] := by
  unfold Mod_put_b43 at hf
  refine gw_iload_n hC 2 d_Mod_put_43 rfl rfl ?_
  refine gw_iconst hC 1 d_Mod_put_44 (by decide) ?_
  refine gw_isub hC d_Mod_put_45 ?_
  refine gw_istore hC [(4, .int (x3 - 1)), (0, .ref (ao 0)), (1, .long x1), (3, .int x3)] d_Mod_put_46 (by decide) rfl ?_
  refine gw_lv [1, 2, 0] rfl ?_
  exact Mod_put_q48 ao aa hC N N _ _ _ _ _ hf
def Mod_put_b41 (N : Nat) (σ : g_S) : Option (Int32 × g_S) := some (0, σ)
theorem Mod_put_p41 (ao aa : Nat → Nat) {X : g_X} (hC : gC X c_Mod_put R_Mod 1 22 5 (some .int)) (N : Nat) (σ : g_S) (r : Int32) (σe : g_S) (hf : Mod_put_b41 N σ = some (r, σe)) : gw X (.inl (some (.int r))) (LM ao aa X.2.2.1 σe) (LM ao aa X.2.2.1 σ) [(0, .ref (ao 0))] 41 [] := by
  unfold Mod_put_b41 at hf
  refine gw_iconst hC 0 d_Mod_put_41 (by decide) ?_
  cases hf
  exact gw_iret hC d_Mod_put_42
def Mod_put_b31 (N : Nat) (x1 : Int64) (x3 : Int32) (s1 : Int32) (σ : g_S) : Option (Int32 × g_S) := if s1 ≤ 0 then Mod_put_b43 N x1 x3 (gF σ 0 s1) else Mod_put_b41 N (gF σ 0 s1)
theorem Mod_put_p31 (ao aa : Nat → Nat) {X : g_X} (hC : gC X c_Mod_put R_Mod 1 22 5 (some .int)) (N : Nat) (x1 : Int64) (x3 : Int32) (s1 : Int32) (σ : g_S) (r : Int32) (σe : g_S) (hf : Mod_put_b31 N x1 x3 s1 σ = some (r, σe)) : gw X (.inl (some (.int r))) (LM ao aa X.2.2.1 σe) (LM ao aa X.2.2.1 σ) [(0, .ref (ao 0)), (1, .long x1), (3, .int x3)] 31 [.int s1, .ref (ao 0)] := by
  unfold Mod_put_b31 at hf
  refine Mp0 hC kf_Mod_100 d_Mod_put_31 ?_
  refine gw_aload_n hC 0 d_Mod_put_34 rfl rfl ?_
  refine Mg0 hC kf_Mod_100 d_Mod_put_35 s1 rfl ?_
  refine gw_if_le hC 43 d_Mod_put_38 (by decide) (fun hh => ?_) (fun hh => ?_)
  · rw [if_pos hh] at hf
    exact Mod_put_p43 ao aa hC N _ _ _ _ _ hf
  · rw [if_neg hh] at hf
    refine gw_lv [0] rfl ?_
    exact Mod_put_p41 ao aa hC N _ _ _ hf
def Mod_put_b30 (N : Nat) (x1 : Int64) (x3 : Int32) (σ : g_S) : Option (Int32 × g_S) := Mod_put_b31 N x1 x3 0 σ
theorem Mod_put_p30 (ao aa : Nat → Nat) {X : g_X} (hC : gC X c_Mod_put R_Mod 1 22 5 (some .int)) (N : Nat) (x1 : Int64) (x3 : Int32) (σ : g_S) (r : Int32) (σe : g_S) (hf : Mod_put_b30 N x1 x3 σ = some (r, σe)) : gw X (.inl (some (.int r))) (LM ao aa X.2.2.1 σe) (LM ao aa X.2.2.1 σ) [(0, .ref (ao 0)), (1, .long x1), (3, .int x3)] 30 [.ref (ao 0)] := by
  unfold Mod_put_b30 at hf
  refine gw_iconst hC 0 d_Mod_put_30 (by decide) ?_
  exact Mod_put_p31 ao aa hC N _ _ _ _ _ _ hf
def Mod_put_b26 (N : Nat) (x1 : Int64) (x3 : Int32) (σ : g_S) : Option (Int32 × g_S) := Mod_put_b31 N x1 x3 2 σ
theorem Mod_put_p26 (ao aa : Nat → Nat) {X : g_X} (hC : gC X c_Mod_put R_Mod 1 22 5 (some .int)) (N : Nat) (x1 : Int64) (x3 : Int32) (σ : g_S) (r : Int32) (σe : g_S) (hf : Mod_put_b26 N x1 x3 σ = some (r, σe)) : gw X (.inl (some (.int r))) (LM ao aa X.2.2.1 σe) (LM ao aa X.2.2.1 σ) [(0, .ref (ao 0)), (1, .long x1), (3, .int x3)] 26 [.ref (ao 0)] := by
  unfold Mod_put_b26 at hf
  refine gw_iconst hC 2 d_Mod_put_26 (by decide) ?_
  refine gw_goto hC 31 d_Mod_put_27 (by decide) ?_
  exact Mod_put_p31 ao aa hC N _ _ _ _ _ _ hf
def Mod_put_b14 (N : Nat) (x1 : Int64) (x3 : Int32) (σ : g_S) : Option (Int32 × g_S) := if ((σ.1 1) + x3) ≤ 600 then Mod_put_b30 N x1 x3 σ else Mod_put_b26 N x1 x3 σ
theorem Mod_put_p14 (ao aa : Nat → Nat) {X : g_X} (hC : gC X c_Mod_put R_Mod 1 22 5 (some .int)) (N : Nat) (x1 : Int64) (x3 : Int32) (σ : g_S) (r : Int32) (σe : g_S) (hf : Mod_put_b14 N x1 x3 σ = some (r, σe)) : gw X (.inl (some (.int r))) (LM ao aa X.2.2.1 σe) (LM ao aa X.2.2.1 σ) [(0, .ref (ao 0)), (1, .long x1), (3, .int x3)] 14 [.ref (ao 0)] := by
  unfold Mod_put_b14 at hf
  refine gw_aload_n hC 0 d_Mod_put_14 rfl rfl ?_
  refine Mg1 hC kf_Mod_107 d_Mod_put_15 (σ.1 1) rfl ?_
  refine gw_iload_n hC 2 d_Mod_put_18 rfl rfl ?_
  refine gw_iadd hC d_Mod_put_19 ?_
  refine gw_sipush hC 600 d_Mod_put_20 (by decide) ?_
  refine gw_icmp_le hC 30 d_Mod_put_23 (by decide) (fun hh => ?_) (fun hh => ?_)
  · rw [if_pos hh] at hf
    exact Mod_put_p30 ao aa hC N _ _ _ _ _ hf
  · rw [if_neg hh] at hf
    exact Mod_put_p26 ao aa hC N _ _ _ _ _ hf
def Mod_put_b10 (N : Nat) (x1 : Int64) (x3 : Int32) (σ : g_S) : Option (Int32 × g_S) := Mod_put_b31 N x1 x3 1 σ
theorem Mod_put_p10 (ao aa : Nat → Nat) {X : g_X} (hC : gC X c_Mod_put R_Mod 1 22 5 (some .int)) (N : Nat) (x1 : Int64) (x3 : Int32) (σ : g_S) (r : Int32) (σe : g_S) (hf : Mod_put_b10 N x1 x3 σ = some (r, σe)) : gw X (.inl (some (.int r))) (LM ao aa X.2.2.1 σe) (LM ao aa X.2.2.1 σ) [(0, .ref (ao 0)), (1, .long x1), (3, .int x3)] 10 [.ref (ao 0)] := by
  unfold Mod_put_b10 at hf
  refine gw_iconst hC 1 d_Mod_put_10 (by decide) ?_
  refine gw_goto hC 31 d_Mod_put_11 (by decide) ?_
  exact Mod_put_p31 ao aa hC N _ _ _ _ _ _ hf
def Mod_put_b0 (N : Nat) (x1 : Int64) (x3 : Int32) (σ : g_S) : Option (Int32 × g_S) := (Mod_in N x3 1 4 σ).bind fun q4 => if q4.1 = 0 then Mod_put_b10 N x1 x3 q4.2 else Mod_put_b14 N x1 x3 q4.2
theorem Mod_put_p0 (ao aa : Nat → Nat) {X : g_X} (hC : gC X c_Mod_put R_Mod 1 22 5 (some .int)) (N : Nat) (x1 : Int64) (x3 : Int32) (σ : g_S) (r : Int32) (σe : g_S) (hf : Mod_put_b0 N x1 x3 σ = some (r, σe)) : gw X (.inl (some (.int r))) (LM ao aa X.2.2.1 σe) (LM ao aa X.2.2.1 σ) [(0, .ref (ao 0)), (1, .long x1), (3, .int x3)] 0 [] := by
  unfold Mod_put_b0 at hf
  refine gw_aload_n hC 0 d_Mod_put_0 rfl rfl ?_
  refine gw_iload_n hC 2 d_Mod_put_1 rfl rfl ?_
  refine gw_iconst hC 1 d_Mod_put_2 (by decide) ?_
  refine gw_iconst hC 4 d_Mod_put_3 (by decide) ?_
  obtain ⟨q4, hq4, hf⟩ := g_bind hf
  refine gw_callS hC [.int x3, .int 1, .int 4] [.ref (ao 0)] (Mod_in_m _ _ _ ao aa N _ _ _ _ _ _ hq4) kc_Mod_103 ⟨by decide, by decide⟩ (Nat.le_of_ble_eq_true rfl) [.int 4, .int 1, .int x3, .ref (ao 0)] [.int q4.1, .ref (ao 0)] rfl rfl d_Mod_put_4 ?_
  refine gw_if_ne hC 14 d_Mod_put_7 (by decide) (fun hh => ?_) (fun hh => ?_)
  · rw [if_neg hh] at hf
    exact Mod_put_p14 ao aa hC N _ _ _ _ _ hf
  · rw [if_pos hh] at hf
    exact Mod_put_p10 ao aa hC N _ _ _ _ _ hf
def Mod_put (N : Nat) (x1 : Int64) (x3 : Int32) (σ : g_S) : Option (Int32 × g_S) := Mod_put_b0 N x1 x3 σ
theorem Mod_put_m (l : Launch) (D : va_G) (cA : ClassId) (ao aa : Nat → Nat) (N : Nat) (x1 : Int64) (x3 : Int32) (σ : g_S) (r : Int32) (σe : g_S) (hf : Mod_put N x1 x3 σ = some (r, σe)) : Mt l D cA y_Mod_put c_Mod_put 5 (some .int) 1 22 [.ref (ao 0), .long x1, .int x3] (LM ao aa cA σ) (some (.int r)) (LM ao aa cA σe) := by
  refine g_met (by decide +kernel) (by simp [lg_sl, Value.category]) (fun X e1 e2 e3 hC => ?_)
  subst e1 e2 e3
  refine gw_lv [0, 1, 2] rfl ?_
  exact Mod_put_p0 ao aa hC N _ _ _ (r) _ hf
def Mod_isDigit_b0 (N : Nat) (x0 : Int32) (σ : g_S) : Option (Int32 × g_S) := (Mod_in N x0 48 57 σ).bind fun q5 => if gB q5.1 = true then some (q5.1, q5.2) else none
theorem Mod_isDigit_p0 (ao aa : Nat → Nat) {X : g_X} (hC : gC X c_Mod_isDigit R_Mod 1 22 1 (some .boolean)) (N : Nat) (x0 : Int32) (σ : g_S) (r : Int32) (σe : g_S) (hf : Mod_isDigit_b0 N x0 σ = some (r, σe)) : gw X (.inl (some (.int r))) (LM ao aa X.2.2.1 σe) (LM ao aa X.2.2.1 σ) [(0, .int x0)] 0 [] := by
  unfold Mod_isDigit_b0 at hf
  refine gw_iload_n hC 0 d_Mod_isDigit_0 rfl rfl ?_
  refine gw_bipush hC 48 d_Mod_isDigit_1 (by decide) ?_
  refine gw_bipush hC 57 d_Mod_isDigit_3 (by decide) ?_
  obtain ⟨q5, hq5, hf⟩ := g_bind hf
  refine gw_callS hC [.int x0, .int 48, .int 57] [] (Mod_in_m _ _ _ ao aa N _ _ _ _ _ _ hq5) kc_Mod_103 ⟨by decide, by decide⟩ (Nat.le_of_ble_eq_true rfl) [.int 57, .int 48, .int x0] [.int q5.1] rfl rfl d_Mod_isDigit_5 ?_
  obtain ⟨hg8, hf⟩ := g_guard hf
  cases hf
  exact gw_zret hC hg8 d_Mod_isDigit_8
def Mod_isDigit (N : Nat) (x0 : Int32) (σ : g_S) : Option (Int32 × g_S) := Mod_isDigit_b0 N x0 σ
theorem Mod_isDigit_m (l : Launch) (D : va_G) (cA : ClassId) (ao aa : Nat → Nat) (N : Nat) (x0 : Int32) (σ : g_S) (r : Int32) (σe : g_S) (hf : Mod_isDigit N x0 σ = some (r, σe)) : Mt l D cA y_Mod_isDigit c_Mod_isDigit 1 (some .boolean) 1 22 [.int x0] (LM ao aa cA σ) (some (.int r)) (LM ao aa cA σe) := by
  refine g_met (by decide +kernel) (by simp [lg_sl, Value.category]) (fun X e1 e2 e3 hC => ?_)
  subst e1 e2 e3
  refine gw_lv [0] rfl ?_
  exact Mod_isDigit_p0 ao aa hC N _ _ (r) _ hf
def Mod_isLetter_b27 (N : Nat) (s0 : Int32) (σ : g_S) : Option (Int32 × g_S) := if gB s0 = true then some (s0, σ) else none
theorem Mod_isLetter_p27 (ao aa : Nat → Nat) {X : g_X} (hC : gC X c_Mod_isLetter R_Mod 1 22 1 (some .boolean)) (N : Nat) (s0 : Int32) (σ : g_S) (r : Int32) (σe : g_S) (hf : Mod_isLetter_b27 N s0 σ = some (r, σe)) : gw X (.inl (some (.int r))) (LM ao aa X.2.2.1 σe) (LM ao aa X.2.2.1 σ) [] 27 [.int s0] := by
  unfold Mod_isLetter_b27 at hf
  obtain ⟨hg27, hf⟩ := g_guard hf
  cases hf
  exact gw_zret hC hg27 d_Mod_isLetter_27
def Mod_isLetter_b22 (N : Nat) (σ : g_S) : Option (Int32 × g_S) := Mod_isLetter_b27 N 1 σ
theorem Mod_isLetter_p22 (ao aa : Nat → Nat) {X : g_X} (hC : gC X c_Mod_isLetter R_Mod 1 22 1 (some .boolean)) (N : Nat) (σ : g_S) (r : Int32) (σe : g_S) (hf : Mod_isLetter_b22 N σ = some (r, σe)) : gw X (.inl (some (.int r))) (LM ao aa X.2.2.1 σe) (LM ao aa X.2.2.1 σ) [] 22 [] := by
  unfold Mod_isLetter_b22 at hf
  refine gw_iconst hC 1 d_Mod_isLetter_22 (by decide) ?_
  refine gw_goto hC 27 d_Mod_isLetter_23 (by decide) ?_
  exact Mod_isLetter_p27 ao aa hC N _ _ _ _ hf
def Mod_isLetter_b26 (N : Nat) (σ : g_S) : Option (Int32 × g_S) := Mod_isLetter_b27 N 0 σ
theorem Mod_isLetter_p26 (ao aa : Nat → Nat) {X : g_X} (hC : gC X c_Mod_isLetter R_Mod 1 22 1 (some .boolean)) (N : Nat) (σ : g_S) (r : Int32) (σe : g_S) (hf : Mod_isLetter_b26 N σ = some (r, σe)) : gw X (.inl (some (.int r))) (LM ao aa X.2.2.1 σe) (LM ao aa X.2.2.1 σ) [] 26 [] := by
  unfold Mod_isLetter_b26 at hf
  refine gw_iconst hC 0 d_Mod_isLetter_26 (by decide) ?_
  exact Mod_isLetter_p27 ao aa hC N _ _ _ _ hf
def Mod_isLetter_b11 (N : Nat) (x0 : Int32) (σ : g_S) : Option (Int32 × g_S) := (Mod_in N x0 65 90 σ).bind fun q16 => if q16.1 = 0 then Mod_isLetter_b26 N q16.2 else Mod_isLetter_b22 N q16.2
theorem Mod_isLetter_p11 (ao aa : Nat → Nat) {X : g_X} (hC : gC X c_Mod_isLetter R_Mod 1 22 1 (some .boolean)) (N : Nat) (x0 : Int32) (σ : g_S) (r : Int32) (σe : g_S) (hf : Mod_isLetter_b11 N x0 σ = some (r, σe)) : gw X (.inl (some (.int r))) (LM ao aa X.2.2.1 σe) (LM ao aa X.2.2.1 σ) [(0, .int x0)] 11 [] := by
  unfold Mod_isLetter_b11 at hf
  refine gw_iload_n hC 0 d_Mod_isLetter_11 rfl rfl ?_
  refine gw_bipush hC 65 d_Mod_isLetter_12 (by decide) ?_
  refine gw_bipush hC 90 d_Mod_isLetter_14 (by decide) ?_
  obtain ⟨q16, hq16, hf⟩ := g_bind hf
  refine gw_callS hC [.int x0, .int 65, .int 90] [] (Mod_in_m _ _ _ ao aa N _ _ _ _ _ _ hq16) kc_Mod_103 ⟨by decide, by decide⟩ (Nat.le_of_ble_eq_true rfl) [.int 90, .int 65, .int x0] [.int q16.1] rfl rfl d_Mod_isLetter_16 ?_
  refine gw_if_eq hC 26 d_Mod_isLetter_19 (by decide) (fun hh => ?_) (fun hh => ?_)
  · rw [if_pos hh] at hf
    refine gw_lv [] rfl ?_
    exact Mod_isLetter_p26 ao aa hC N _ _ _ hf
  · rw [if_neg hh] at hf
    refine gw_lv [] rfl ?_
    exact Mod_isLetter_p22 ao aa hC N _ _ _ hf
def Mod_isLetter_b0 (N : Nat) (x0 : Int32) (σ : g_S) : Option (Int32 × g_S) := (Mod_in N x0 97 122 σ).bind fun q5 => if q5.1 = 0 then Mod_isLetter_b11 N x0 q5.2 else Mod_isLetter_b22 N q5.2
theorem Mod_isLetter_p0 (ao aa : Nat → Nat) {X : g_X} (hC : gC X c_Mod_isLetter R_Mod 1 22 1 (some .boolean)) (N : Nat) (x0 : Int32) (σ : g_S) (r : Int32) (σe : g_S) (hf : Mod_isLetter_b0 N x0 σ = some (r, σe)) : gw X (.inl (some (.int r))) (LM ao aa X.2.2.1 σe) (LM ao aa X.2.2.1 σ) [(0, .int x0)] 0 [] := by
  unfold Mod_isLetter_b0 at hf
  refine gw_iload_n hC 0 d_Mod_isLetter_0 rfl rfl ?_
  refine gw_bipush hC 97 d_Mod_isLetter_1 (by decide) ?_
  refine gw_bipush hC 122 d_Mod_isLetter_3 (by decide) ?_
  obtain ⟨q5, hq5, hf⟩ := g_bind hf
  refine gw_callS hC [.int x0, .int 97, .int 122] [] (Mod_in_m _ _ _ ao aa N _ _ _ _ _ _ hq5) kc_Mod_103 ⟨by decide, by decide⟩ (Nat.le_of_ble_eq_true rfl) [.int 122, .int 97, .int x0] [.int q5.1] rfl rfl d_Mod_isLetter_5 ?_
  refine gw_if_ne hC 22 d_Mod_isLetter_8 (by decide) (fun hh => ?_) (fun hh => ?_)
  · rw [if_neg hh] at hf
    refine gw_lv [] rfl ?_
    exact Mod_isLetter_p22 ao aa hC N _ _ _ hf
  · rw [if_pos hh] at hf
    exact Mod_isLetter_p11 ao aa hC N _ _ _ _ hf
def Mod_isLetter (N : Nat) (x0 : Int32) (σ : g_S) : Option (Int32 × g_S) := Mod_isLetter_b0 N x0 σ
theorem Mod_isLetter_m (l : Launch) (D : va_G) (cA : ClassId) (ao aa : Nat → Nat) (N : Nat) (x0 : Int32) (σ : g_S) (r : Int32) (σe : g_S) (hf : Mod_isLetter N x0 σ = some (r, σe)) : Mt l D cA y_Mod_isLetter c_Mod_isLetter 1 (some .boolean) 1 22 [.int x0] (LM ao aa cA σ) (some (.int r)) (LM ao aa cA σe) := by
  refine g_met (by decide +kernel) (by simp [lg_sl, Value.category]) (fun X e1 e2 e3 hC => ?_)
  subst e1 e2 e3
  refine gw_lv [0] rfl ?_
  exact Mod_isLetter_p0 ao aa hC N _ _ (r) _ hf
def Mod_isWord_b25 (N : Nat) (s0 : Int32) (σ : g_S) : Option (Int32 × g_S) := if gB s0 = true then some (s0, σ) else none
theorem Mod_isWord_p25 (ao aa : Nat → Nat) {X : g_X} (hC : gC X c_Mod_isWord R_Mod 2 42 1 (some .boolean)) (N : Nat) (s0 : Int32) (σ : g_S) (r : Int32) (σe : g_S) (hf : Mod_isWord_b25 N s0 σ = some (r, σe)) : gw X (.inl (some (.int r))) (LM ao aa X.2.2.1 σe) (LM ao aa X.2.2.1 σ) [] 25 [.int s0] := by
  unfold Mod_isWord_b25 at hf
  obtain ⟨hg25, hf⟩ := g_guard hf
  cases hf
  exact gw_zret hC hg25 d_Mod_isWord_25
def Mod_isWord_b20 (N : Nat) (σ : g_S) : Option (Int32 × g_S) := Mod_isWord_b25 N 1 σ
theorem Mod_isWord_p20 (ao aa : Nat → Nat) {X : g_X} (hC : gC X c_Mod_isWord R_Mod 2 42 1 (some .boolean)) (N : Nat) (σ : g_S) (r : Int32) (σe : g_S) (hf : Mod_isWord_b20 N σ = some (r, σe)) : gw X (.inl (some (.int r))) (LM ao aa X.2.2.1 σe) (LM ao aa X.2.2.1 σ) [] 20 [] := by
  unfold Mod_isWord_b20 at hf
  refine gw_iconst hC 1 d_Mod_isWord_20 (by decide) ?_
  refine gw_goto hC 25 d_Mod_isWord_21 (by decide) ?_
  exact Mod_isWord_p25 ao aa hC N _ _ _ _ hf
def Mod_isWord_b24 (N : Nat) (σ : g_S) : Option (Int32 × g_S) := Mod_isWord_b25 N 0 σ
theorem Mod_isWord_p24 (ao aa : Nat → Nat) {X : g_X} (hC : gC X c_Mod_isWord R_Mod 2 42 1 (some .boolean)) (N : Nat) (σ : g_S) (r : Int32) (σe : g_S) (hf : Mod_isWord_b24 N σ = some (r, σe)) : gw X (.inl (some (.int r))) (LM ao aa X.2.2.1 σe) (LM ao aa X.2.2.1 σ) [] 24 [] := by
  unfold Mod_isWord_b24 at hf
  refine gw_iconst hC 0 d_Mod_isWord_24 (by decide) ?_
  exact Mod_isWord_p25 ao aa hC N _ _ _ _ hf
def Mod_isWord_b14 (N : Nat) (x0 : Int32) (σ : g_S) : Option (Int32 × g_S) := if x0 = 95 then Mod_isWord_b20 N σ else Mod_isWord_b24 N σ
theorem Mod_isWord_p14 (ao aa : Nat → Nat) {X : g_X} (hC : gC X c_Mod_isWord R_Mod 2 42 1 (some .boolean)) (N : Nat) (x0 : Int32) (σ : g_S) (r : Int32) (σe : g_S) (hf : Mod_isWord_b14 N x0 σ = some (r, σe)) : gw X (.inl (some (.int r))) (LM ao aa X.2.2.1 σe) (LM ao aa X.2.2.1 σ) [(0, .int x0)] 14 [] := by
  unfold Mod_isWord_b14 at hf
  refine gw_iload_n hC 0 d_Mod_isWord_14 rfl rfl ?_
  refine gw_bipush hC 95 d_Mod_isWord_15 (by decide) ?_
  refine gw_icmp_ne hC 24 d_Mod_isWord_17 (by decide) (fun hh => ?_) (fun hh => ?_)
  · rw [if_neg hh] at hf
    refine gw_lv [] rfl ?_
    exact Mod_isWord_p24 ao aa hC N _ _ _ hf
  · rw [if_pos hh] at hf
    refine gw_lv [] rfl ?_
    exact Mod_isWord_p20 ao aa hC N _ _ _ hf
def Mod_isWord_b7 (N : Nat) (x0 : Int32) (σ : g_S) : Option (Int32 × g_S) := (Mod_isDigit N x0 σ).bind fun q8 => if q8.1 = 0 then Mod_isWord_b14 N x0 q8.2 else Mod_isWord_b20 N q8.2
theorem Mod_isWord_p7 (ao aa : Nat → Nat) {X : g_X} (hC : gC X c_Mod_isWord R_Mod 2 42 1 (some .boolean)) (N : Nat) (x0 : Int32) (σ : g_S) (r : Int32) (σe : g_S) (hf : Mod_isWord_b7 N x0 σ = some (r, σe)) : gw X (.inl (some (.int r))) (LM ao aa X.2.2.1 σe) (LM ao aa X.2.2.1 σ) [(0, .int x0)] 7 [] := by
  unfold Mod_isWord_b7 at hf
  refine gw_iload_n hC 0 d_Mod_isWord_7 rfl rfl ?_
  obtain ⟨q8, hq8, hf⟩ := g_bind hf
  refine gw_callS hC [.int x0] [] (Mod_isDigit_m _ _ _ ao aa N _ _ _ _ hq8) kc_Mod_116 ⟨by decide, by decide⟩ (Nat.le_of_ble_eq_true rfl) [.int x0] [.int q8.1] rfl rfl d_Mod_isWord_8 ?_
  refine gw_if_ne hC 20 d_Mod_isWord_11 (by decide) (fun hh => ?_) (fun hh => ?_)
  · rw [if_neg hh] at hf
    refine gw_lv [] rfl ?_
    exact Mod_isWord_p20 ao aa hC N _ _ _ hf
  · rw [if_pos hh] at hf
    exact Mod_isWord_p14 ao aa hC N _ _ _ _ hf
def Mod_isWord_b0 (N : Nat) (x0 : Int32) (σ : g_S) : Option (Int32 × g_S) := (Mod_isLetter N x0 σ).bind fun q1 => if q1.1 = 0 then Mod_isWord_b7 N x0 q1.2 else Mod_isWord_b20 N q1.2
theorem Mod_isWord_p0 (ao aa : Nat → Nat) {X : g_X} (hC : gC X c_Mod_isWord R_Mod 2 42 1 (some .boolean)) (N : Nat) (x0 : Int32) (σ : g_S) (r : Int32) (σe : g_S) (hf : Mod_isWord_b0 N x0 σ = some (r, σe)) : gw X (.inl (some (.int r))) (LM ao aa X.2.2.1 σe) (LM ao aa X.2.2.1 σ) [(0, .int x0)] 0 [] := by
  unfold Mod_isWord_b0 at hf
  refine gw_iload_n hC 0 d_Mod_isWord_0 rfl rfl ?_
  obtain ⟨q1, hq1, hf⟩ := g_bind hf
  refine gw_callS hC [.int x0] [] (Mod_isLetter_m _ _ _ ao aa N _ _ _ _ hq1) kc_Mod_112 ⟨by decide, by decide⟩ (Nat.le_of_ble_eq_true rfl) [.int x0] [.int q1.1] rfl rfl d_Mod_isWord_1 ?_
  refine gw_if_ne hC 20 d_Mod_isWord_4 (by decide) (fun hh => ?_) (fun hh => ?_)
  · rw [if_neg hh] at hf
    refine gw_lv [] rfl ?_
    exact Mod_isWord_p20 ao aa hC N _ _ _ hf
  · rw [if_pos hh] at hf
    exact Mod_isWord_p7 ao aa hC N _ _ _ _ hf
def Mod_isWord (N : Nat) (x0 : Int32) (σ : g_S) : Option (Int32 × g_S) := Mod_isWord_b0 N x0 σ
theorem Mod_isWord_m (l : Launch) (D : va_G) (cA : ClassId) (ao aa : Nat → Nat) (N : Nat) (x0 : Int32) (σ : g_S) (r : Int32) (σe : g_S) (hf : Mod_isWord N x0 σ = some (r, σe)) : Mt l D cA y_Mod_isWord c_Mod_isWord 1 (some .boolean) 2 42 [.int x0] (LM ao aa cA σ) (some (.int r)) (LM ao aa cA σe) := by
  refine g_met (by decide +kernel) (by simp [lg_sl, Value.category]) (fun X e1 e2 e3 hC => ?_)
  subst e1 e2 e3
  refine gw_lv [0] rfl ?_
  exact Mod_isWord_p0 ao aa hC N _ _ (r) _ hf
def Mod_isNamed_b78 (N : Nat) (s0 : Int32) (σ : g_S) : Option (Int32 × g_S) := if gB s0 = true then some (s0, σ) else none
theorem Mod_isNamed_p78 (ao aa : Nat → Nat) {X : g_X} (hC : gC X c_Mod_isNamed R_Mod 3 62 1 (some .boolean)) (N : Nat) (s0 : Int32) (σ : g_S) (r : Int32) (σe : g_S) (hf : Mod_isNamed_b78 N s0 σ = some (r, σe)) : gw X (.inl (some (.int r))) (LM ao aa X.2.2.1 σe) (LM ao aa X.2.2.1 σ) [] 78 [.int s0] := by
  unfold Mod_isNamed_b78 at hf
  obtain ⟨hg78, hf⟩ := g_guard hf
  cases hf
  exact gw_zret hC hg78 d_Mod_isNamed_78
def Mod_isNamed_b73 (N : Nat) (σ : g_S) : Option (Int32 × g_S) := Mod_isNamed_b78 N 1 σ
theorem Mod_isNamed_p73 (ao aa : Nat → Nat) {X : g_X} (hC : gC X c_Mod_isNamed R_Mod 3 62 1 (some .boolean)) (N : Nat) (σ : g_S) (r : Int32) (σe : g_S) (hf : Mod_isNamed_b73 N σ = some (r, σe)) : gw X (.inl (some (.int r))) (LM ao aa X.2.2.1 σe) (LM ao aa X.2.2.1 σ) [] 73 [] := by
  unfold Mod_isNamed_b73 at hf
  refine gw_iconst hC 1 d_Mod_isNamed_73 (by decide) ?_
  refine gw_goto hC 78 d_Mod_isNamed_74 (by decide) ?_
  exact Mod_isNamed_p78 ao aa hC N _ _ _ _ hf
def Mod_isNamed_b77 (N : Nat) (σ : g_S) : Option (Int32 × g_S) := Mod_isNamed_b78 N 0 σ
theorem Mod_isNamed_p77 (ao aa : Nat → Nat) {X : g_X} (hC : gC X c_Mod_isNamed R_Mod 3 62 1 (some .boolean)) (N : Nat) (σ : g_S) (r : Int32) (σe : g_S) (hf : Mod_isNamed_b77 N σ = some (r, σe)) : gw X (.inl (some (.int r))) (LM ao aa X.2.2.1 σe) (LM ao aa X.2.2.1 σ) [] 77 [] := by
  unfold Mod_isNamed_b77 at hf
  refine gw_iconst hC 0 d_Mod_isNamed_77 (by decide) ?_
  exact Mod_isNamed_p78 ao aa hC N _ _ _ _ hf
def Mod_isNamed_b60 (N : Nat) (x0 : Int32) (σ : g_S) : Option (Int32 × g_S) := (Mod_in N x0 248 255 σ).bind fun q67 => if q67.1 = 0 then Mod_isNamed_b77 N q67.2 else Mod_isNamed_b73 N q67.2
theorem Mod_isNamed_p60 (ao aa : Nat → Nat) {X : g_X} (hC : gC X c_Mod_isNamed R_Mod 3 62 1 (some .boolean)) (N : Nat) (x0 : Int32) (σ : g_S) (r : Int32) (σe : g_S) (hf : Mod_isNamed_b60 N x0 σ = some (r, σe)) : gw X (.inl (some (.int r))) (LM ao aa X.2.2.1 σe) (LM ao aa X.2.2.1 σ) [(0, .int x0)] 60 [] := by
  unfold Mod_isNamed_b60 at hf
  refine gw_iload_n hC 0 d_Mod_isNamed_60 rfl rfl ?_
  refine gw_sipush hC 248 d_Mod_isNamed_61 (by decide) ?_
  refine gw_sipush hC 255 d_Mod_isNamed_64 (by decide) ?_
  obtain ⟨q67, hq67, hf⟩ := g_bind hf
  refine gw_callS hC [.int x0, .int 248, .int 255] [] (Mod_in_m _ _ _ ao aa N _ _ _ _ _ _ hq67) kc_Mod_103 ⟨by decide, by decide⟩ (Nat.le_of_ble_eq_true rfl) [.int 255, .int 248, .int x0] [.int q67.1] rfl rfl d_Mod_isNamed_67 ?_
  refine gw_if_eq hC 77 d_Mod_isNamed_70 (by decide) (fun hh => ?_) (fun hh => ?_)
  · rw [if_pos hh] at hf
    refine gw_lv [] rfl ?_
    exact Mod_isNamed_p77 ao aa hC N _ _ _ hf
  · rw [if_neg hh] at hf
    refine gw_lv [] rfl ?_
    exact Mod_isNamed_p73 ao aa hC N _ _ _ hf
def Mod_isNamed_b47 (N : Nat) (x0 : Int32) (σ : g_S) : Option (Int32 × g_S) := (Mod_in N x0 216 246 σ).bind fun q54 => if q54.1 = 0 then Mod_isNamed_b60 N x0 q54.2 else Mod_isNamed_b73 N q54.2
theorem Mod_isNamed_p47 (ao aa : Nat → Nat) {X : g_X} (hC : gC X c_Mod_isNamed R_Mod 3 62 1 (some .boolean)) (N : Nat) (x0 : Int32) (σ : g_S) (r : Int32) (σe : g_S) (hf : Mod_isNamed_b47 N x0 σ = some (r, σe)) : gw X (.inl (some (.int r))) (LM ao aa X.2.2.1 σe) (LM ao aa X.2.2.1 σ) [(0, .int x0)] 47 [] := by
  unfold Mod_isNamed_b47 at hf
  refine gw_iload_n hC 0 d_Mod_isNamed_47 rfl rfl ?_
  refine gw_sipush hC 216 d_Mod_isNamed_48 (by decide) ?_
  refine gw_sipush hC 246 d_Mod_isNamed_51 (by decide) ?_
  obtain ⟨q54, hq54, hf⟩ := g_bind hf
  refine gw_callS hC [.int x0, .int 216, .int 246] [] (Mod_in_m _ _ _ ao aa N _ _ _ _ _ _ hq54) kc_Mod_103 ⟨by decide, by decide⟩ (Nat.le_of_ble_eq_true rfl) [.int 246, .int 216, .int x0] [.int q54.1] rfl rfl d_Mod_isNamed_54 ?_
  refine gw_if_ne hC 73 d_Mod_isNamed_57 (by decide) (fun hh => ?_) (fun hh => ?_)
  · rw [if_neg hh] at hf
    refine gw_lv [] rfl ?_
    exact Mod_isNamed_p73 ao aa hC N _ _ _ hf
  · rw [if_pos hh] at hf
    exact Mod_isNamed_p60 ao aa hC N _ _ _ _ hf
def Mod_isNamed_b34 (N : Nat) (x0 : Int32) (σ : g_S) : Option (Int32 × g_S) := (Mod_in N x0 192 214 σ).bind fun q41 => if q41.1 = 0 then Mod_isNamed_b47 N x0 q41.2 else Mod_isNamed_b73 N q41.2
theorem Mod_isNamed_p34 (ao aa : Nat → Nat) {X : g_X} (hC : gC X c_Mod_isNamed R_Mod 3 62 1 (some .boolean)) (N : Nat) (x0 : Int32) (σ : g_S) (r : Int32) (σe : g_S) (hf : Mod_isNamed_b34 N x0 σ = some (r, σe)) : gw X (.inl (some (.int r))) (LM ao aa X.2.2.1 σe) (LM ao aa X.2.2.1 σ) [(0, .int x0)] 34 [] := by
  unfold Mod_isNamed_b34 at hf
  refine gw_iload_n hC 0 d_Mod_isNamed_34 rfl rfl ?_
  refine gw_sipush hC 192 d_Mod_isNamed_35 (by decide) ?_
  refine gw_sipush hC 214 d_Mod_isNamed_38 (by decide) ?_
  obtain ⟨q41, hq41, hf⟩ := g_bind hf
  refine gw_callS hC [.int x0, .int 192, .int 214] [] (Mod_in_m _ _ _ ao aa N _ _ _ _ _ _ hq41) kc_Mod_103 ⟨by decide, by decide⟩ (Nat.le_of_ble_eq_true rfl) [.int 214, .int 192, .int x0] [.int q41.1] rfl rfl d_Mod_isNamed_41 ?_
  refine gw_if_ne hC 73 d_Mod_isNamed_44 (by decide) (fun hh => ?_) (fun hh => ?_)
  · rw [if_neg hh] at hf
    refine gw_lv [] rfl ?_
    exact Mod_isNamed_p73 ao aa hC N _ _ _ hf
  · rw [if_pos hh] at hf
    exact Mod_isNamed_p47 ao aa hC N _ _ _ _ hf
def Mod_isNamed_b27 (N : Nat) (x0 : Int32) (σ : g_S) : Option (Int32 × g_S) := if x0 = 186 then Mod_isNamed_b73 N σ else Mod_isNamed_b34 N x0 σ
theorem Mod_isNamed_p27 (ao aa : Nat → Nat) {X : g_X} (hC : gC X c_Mod_isNamed R_Mod 3 62 1 (some .boolean)) (N : Nat) (x0 : Int32) (σ : g_S) (r : Int32) (σe : g_S) (hf : Mod_isNamed_b27 N x0 σ = some (r, σe)) : gw X (.inl (some (.int r))) (LM ao aa X.2.2.1 σe) (LM ao aa X.2.2.1 σ) [(0, .int x0)] 27 [] := by
  unfold Mod_isNamed_b27 at hf
  refine gw_iload_n hC 0 d_Mod_isNamed_27 rfl rfl ?_
  refine gw_sipush hC 186 d_Mod_isNamed_28 (by decide) ?_
  refine gw_icmp_eq hC 73 d_Mod_isNamed_31 (by decide) (fun hh => ?_) (fun hh => ?_)
  · rw [if_pos hh] at hf
    refine gw_lv [] rfl ?_
    exact Mod_isNamed_p73 ao aa hC N _ _ _ hf
  · rw [if_neg hh] at hf
    exact Mod_isNamed_p34 ao aa hC N _ _ _ _ hf
def Mod_isNamed_b20 (N : Nat) (x0 : Int32) (σ : g_S) : Option (Int32 × g_S) := if x0 = 181 then Mod_isNamed_b73 N σ else Mod_isNamed_b27 N x0 σ
theorem Mod_isNamed_p20 (ao aa : Nat → Nat) {X : g_X} (hC : gC X c_Mod_isNamed R_Mod 3 62 1 (some .boolean)) (N : Nat) (x0 : Int32) (σ : g_S) (r : Int32) (σe : g_S) (hf : Mod_isNamed_b20 N x0 σ = some (r, σe)) : gw X (.inl (some (.int r))) (LM ao aa X.2.2.1 σe) (LM ao aa X.2.2.1 σ) [(0, .int x0)] 20 [] := by
  unfold Mod_isNamed_b20 at hf
  refine gw_iload_n hC 0 d_Mod_isNamed_20 rfl rfl ?_
  refine gw_sipush hC 181 d_Mod_isNamed_21 (by decide) ?_
  refine gw_icmp_eq hC 73 d_Mod_isNamed_24 (by decide) (fun hh => ?_) (fun hh => ?_)
  · rw [if_pos hh] at hf
    refine gw_lv [] rfl ?_
    exact Mod_isNamed_p73 ao aa hC N _ _ _ hf
  · rw [if_neg hh] at hf
    exact Mod_isNamed_p27 ao aa hC N _ _ _ _ hf
def Mod_isNamed_b13 (N : Nat) (x0 : Int32) (σ : g_S) : Option (Int32 × g_S) := if x0 = 170 then Mod_isNamed_b73 N σ else Mod_isNamed_b20 N x0 σ
theorem Mod_isNamed_p13 (ao aa : Nat → Nat) {X : g_X} (hC : gC X c_Mod_isNamed R_Mod 3 62 1 (some .boolean)) (N : Nat) (x0 : Int32) (σ : g_S) (r : Int32) (σe : g_S) (hf : Mod_isNamed_b13 N x0 σ = some (r, σe)) : gw X (.inl (some (.int r))) (LM ao aa X.2.2.1 σe) (LM ao aa X.2.2.1 σ) [(0, .int x0)] 13 [] := by
  unfold Mod_isNamed_b13 at hf
  refine gw_iload_n hC 0 d_Mod_isNamed_13 rfl rfl ?_
  refine gw_sipush hC 170 d_Mod_isNamed_14 (by decide) ?_
  refine gw_icmp_eq hC 73 d_Mod_isNamed_17 (by decide) (fun hh => ?_) (fun hh => ?_)
  · rw [if_pos hh] at hf
    refine gw_lv [] rfl ?_
    exact Mod_isNamed_p73 ao aa hC N _ _ _ hf
  · rw [if_neg hh] at hf
    exact Mod_isNamed_p20 ao aa hC N _ _ _ _ hf
def Mod_isNamed_b7 (N : Nat) (x0 : Int32) (σ : g_S) : Option (Int32 × g_S) := if x0 = 36 then Mod_isNamed_b73 N σ else Mod_isNamed_b13 N x0 σ
theorem Mod_isNamed_p7 (ao aa : Nat → Nat) {X : g_X} (hC : gC X c_Mod_isNamed R_Mod 3 62 1 (some .boolean)) (N : Nat) (x0 : Int32) (σ : g_S) (r : Int32) (σe : g_S) (hf : Mod_isNamed_b7 N x0 σ = some (r, σe)) : gw X (.inl (some (.int r))) (LM ao aa X.2.2.1 σe) (LM ao aa X.2.2.1 σ) [(0, .int x0)] 7 [] := by
  unfold Mod_isNamed_b7 at hf
  refine gw_iload_n hC 0 d_Mod_isNamed_7 rfl rfl ?_
  refine gw_bipush hC 36 d_Mod_isNamed_8 (by decide) ?_
  refine gw_icmp_eq hC 73 d_Mod_isNamed_10 (by decide) (fun hh => ?_) (fun hh => ?_)
  · rw [if_pos hh] at hf
    refine gw_lv [] rfl ?_
    exact Mod_isNamed_p73 ao aa hC N _ _ _ hf
  · rw [if_neg hh] at hf
    exact Mod_isNamed_p13 ao aa hC N _ _ _ _ hf
def Mod_isNamed_b0 (N : Nat) (x0 : Int32) (σ : g_S) : Option (Int32 × g_S) := (Mod_isWord N x0 σ).bind fun q1 => if q1.1 = 0 then Mod_isNamed_b7 N x0 q1.2 else Mod_isNamed_b73 N q1.2
theorem Mod_isNamed_p0 (ao aa : Nat → Nat) {X : g_X} (hC : gC X c_Mod_isNamed R_Mod 3 62 1 (some .boolean)) (N : Nat) (x0 : Int32) (σ : g_S) (r : Int32) (σe : g_S) (hf : Mod_isNamed_b0 N x0 σ = some (r, σe)) : gw X (.inl (some (.int r))) (LM ao aa X.2.2.1 σe) (LM ao aa X.2.2.1 σ) [(0, .int x0)] 0 [] := by
  unfold Mod_isNamed_b0 at hf
  refine gw_iload_n hC 0 d_Mod_isNamed_0 rfl rfl ?_
  obtain ⟨q1, hq1, hf⟩ := g_bind hf
  refine gw_callS hC [.int x0] [] (Mod_isWord_m _ _ _ ao aa N _ _ _ _ hq1) kc_Mod_119 ⟨by decide, by decide⟩ (Nat.le_of_ble_eq_true rfl) [.int x0] [.int q1.1] rfl rfl d_Mod_isNamed_1 ?_
  refine gw_if_ne hC 73 d_Mod_isNamed_4 (by decide) (fun hh => ?_) (fun hh => ?_)
  · rw [if_neg hh] at hf
    refine gw_lv [] rfl ?_
    exact Mod_isNamed_p73 ao aa hC N _ _ _ hf
  · rw [if_pos hh] at hf
    exact Mod_isNamed_p7 ao aa hC N _ _ _ _ hf
def Mod_isNamed (N : Nat) (x0 : Int32) (σ : g_S) : Option (Int32 × g_S) := Mod_isNamed_b0 N x0 σ
theorem Mod_isNamed_m (l : Launch) (D : va_G) (cA : ClassId) (ao aa : Nat → Nat) (N : Nat) (x0 : Int32) (σ : g_S) (r : Int32) (σe : g_S) (hf : Mod_isNamed N x0 σ = some (r, σe)) : Mt l D cA y_Mod_isNamed c_Mod_isNamed 1 (some .boolean) 3 62 [.int x0] (LM ao aa cA σ) (some (.int r)) (LM ao aa cA σe) := by
  refine g_met (by decide +kernel) (by simp [lg_sl, Value.category]) (fun X e1 e2 e3 hC => ?_)
  subst e1 e2 e3
  refine gw_lv [0] rfl ?_
  exact Mod_isNamed_p0 ao aa hC N _ _ (r) _ hf
def Mod_isLineEnd_b31 (N : Nat) (s0 : Int32) (σ : g_S) : Option (Int32 × g_S) := if gB s0 = true then some (s0, σ) else none
theorem Mod_isLineEnd_p31 (ao aa : Nat → Nat) {X : g_X} (hC : gC X c_Mod_isLineEnd R_Mod 0 0 1 (some .boolean)) (N : Nat) (s0 : Int32) (σ : g_S) (r : Int32) (σe : g_S) (hf : Mod_isLineEnd_b31 N s0 σ = some (r, σe)) : gw X (.inl (some (.int r))) (LM ao aa X.2.2.1 σe) (LM ao aa X.2.2.1 σ) [] 31 [.int s0] := by
  unfold Mod_isLineEnd_b31 at hf
  obtain ⟨hg31, hf⟩ := g_guard hf
  cases hf
  exact gw_zret hC hg31 d_Mod_isLineEnd_31
def Mod_isLineEnd_b26 (N : Nat) (σ : g_S) : Option (Int32 × g_S) := Mod_isLineEnd_b31 N 1 σ
theorem Mod_isLineEnd_p26 (ao aa : Nat → Nat) {X : g_X} (hC : gC X c_Mod_isLineEnd R_Mod 0 0 1 (some .boolean)) (N : Nat) (σ : g_S) (r : Int32) (σe : g_S) (hf : Mod_isLineEnd_b26 N σ = some (r, σe)) : gw X (.inl (some (.int r))) (LM ao aa X.2.2.1 σe) (LM ao aa X.2.2.1 σ) [] 26 [] := by
  unfold Mod_isLineEnd_b26 at hf
  refine gw_iconst hC 1 d_Mod_isLineEnd_26 (by decide) ?_
  refine gw_goto hC 31 d_Mod_isLineEnd_27 (by decide) ?_
  exact Mod_isLineEnd_p31 ao aa hC N _ _ _ _ hf
def Mod_isLineEnd_b30 (N : Nat) (σ : g_S) : Option (Int32 × g_S) := Mod_isLineEnd_b31 N 0 σ
theorem Mod_isLineEnd_p30 (ao aa : Nat → Nat) {X : g_X} (hC : gC X c_Mod_isLineEnd R_Mod 0 0 1 (some .boolean)) (N : Nat) (σ : g_S) (r : Int32) (σe : g_S) (hf : Mod_isLineEnd_b30 N σ = some (r, σe)) : gw X (.inl (some (.int r))) (LM ao aa X.2.2.1 σe) (LM ao aa X.2.2.1 σ) [] 30 [] := by
  unfold Mod_isLineEnd_b30 at hf
  refine gw_iconst hC 0 d_Mod_isLineEnd_30 (by decide) ?_
  exact Mod_isLineEnd_p31 ao aa hC N _ _ _ _ hf
def Mod_isLineEnd_b19 (N : Nat) (x0 : Int32) (σ : g_S) : Option (Int32 × g_S) := if x0 = 8233 then Mod_isLineEnd_b26 N σ else Mod_isLineEnd_b30 N σ
theorem Mod_isLineEnd_p19 (ao aa : Nat → Nat) {X : g_X} (hC : gC X c_Mod_isLineEnd R_Mod 0 0 1 (some .boolean)) (N : Nat) (x0 : Int32) (σ : g_S) (r : Int32) (σe : g_S) (hf : Mod_isLineEnd_b19 N x0 σ = some (r, σe)) : gw X (.inl (some (.int r))) (LM ao aa X.2.2.1 σe) (LM ao aa X.2.2.1 σ) [(0, .int x0)] 19 [] := by
  unfold Mod_isLineEnd_b19 at hf
  refine gw_iload_n hC 0 d_Mod_isLineEnd_19 rfl rfl ?_
  refine gw_sipush hC 8233 d_Mod_isLineEnd_20 (by decide) ?_
  refine gw_icmp_ne hC 30 d_Mod_isLineEnd_23 (by decide) (fun hh => ?_) (fun hh => ?_)
  · rw [if_neg hh] at hf
    refine gw_lv [] rfl ?_
    exact Mod_isLineEnd_p30 ao aa hC N _ _ _ hf
  · rw [if_pos hh] at hf
    refine gw_lv [] rfl ?_
    exact Mod_isLineEnd_p26 ao aa hC N _ _ _ hf
def Mod_isLineEnd_b12 (N : Nat) (x0 : Int32) (σ : g_S) : Option (Int32 × g_S) := if x0 = 8232 then Mod_isLineEnd_b26 N σ else Mod_isLineEnd_b19 N x0 σ
theorem Mod_isLineEnd_p12 (ao aa : Nat → Nat) {X : g_X} (hC : gC X c_Mod_isLineEnd R_Mod 0 0 1 (some .boolean)) (N : Nat) (x0 : Int32) (σ : g_S) (r : Int32) (σe : g_S) (hf : Mod_isLineEnd_b12 N x0 σ = some (r, σe)) : gw X (.inl (some (.int r))) (LM ao aa X.2.2.1 σe) (LM ao aa X.2.2.1 σ) [(0, .int x0)] 12 [] := by
  unfold Mod_isLineEnd_b12 at hf
  refine gw_iload_n hC 0 d_Mod_isLineEnd_12 rfl rfl ?_
  refine gw_sipush hC 8232 d_Mod_isLineEnd_13 (by decide) ?_
  refine gw_icmp_eq hC 26 d_Mod_isLineEnd_16 (by decide) (fun hh => ?_) (fun hh => ?_)
  · rw [if_pos hh] at hf
    refine gw_lv [] rfl ?_
    exact Mod_isLineEnd_p26 ao aa hC N _ _ _ hf
  · rw [if_neg hh] at hf
    exact Mod_isLineEnd_p19 ao aa hC N _ _ _ _ hf
def Mod_isLineEnd_b6 (N : Nat) (x0 : Int32) (σ : g_S) : Option (Int32 × g_S) := if x0 = 13 then Mod_isLineEnd_b26 N σ else Mod_isLineEnd_b12 N x0 σ
theorem Mod_isLineEnd_p6 (ao aa : Nat → Nat) {X : g_X} (hC : gC X c_Mod_isLineEnd R_Mod 0 0 1 (some .boolean)) (N : Nat) (x0 : Int32) (σ : g_S) (r : Int32) (σe : g_S) (hf : Mod_isLineEnd_b6 N x0 σ = some (r, σe)) : gw X (.inl (some (.int r))) (LM ao aa X.2.2.1 σe) (LM ao aa X.2.2.1 σ) [(0, .int x0)] 6 [] := by
  unfold Mod_isLineEnd_b6 at hf
  refine gw_iload_n hC 0 d_Mod_isLineEnd_6 rfl rfl ?_
  refine gw_bipush hC 13 d_Mod_isLineEnd_7 (by decide) ?_
  refine gw_icmp_eq hC 26 d_Mod_isLineEnd_9 (by decide) (fun hh => ?_) (fun hh => ?_)
  · rw [if_pos hh] at hf
    refine gw_lv [] rfl ?_
    exact Mod_isLineEnd_p26 ao aa hC N _ _ _ hf
  · rw [if_neg hh] at hf
    exact Mod_isLineEnd_p12 ao aa hC N _ _ _ _ hf
def Mod_isLineEnd_b0 (N : Nat) (x0 : Int32) (σ : g_S) : Option (Int32 × g_S) := if x0 = 10 then Mod_isLineEnd_b26 N σ else Mod_isLineEnd_b6 N x0 σ
theorem Mod_isLineEnd_p0 (ao aa : Nat → Nat) {X : g_X} (hC : gC X c_Mod_isLineEnd R_Mod 0 0 1 (some .boolean)) (N : Nat) (x0 : Int32) (σ : g_S) (r : Int32) (σe : g_S) (hf : Mod_isLineEnd_b0 N x0 σ = some (r, σe)) : gw X (.inl (some (.int r))) (LM ao aa X.2.2.1 σe) (LM ao aa X.2.2.1 σ) [(0, .int x0)] 0 [] := by
  unfold Mod_isLineEnd_b0 at hf
  refine gw_iload_n hC 0 d_Mod_isLineEnd_0 rfl rfl ?_
  refine gw_bipush hC 10 d_Mod_isLineEnd_1 (by decide) ?_
  refine gw_icmp_eq hC 26 d_Mod_isLineEnd_3 (by decide) (fun hh => ?_) (fun hh => ?_)
  · rw [if_pos hh] at hf
    refine gw_lv [] rfl ?_
    exact Mod_isLineEnd_p26 ao aa hC N _ _ _ hf
  · rw [if_neg hh] at hf
    exact Mod_isLineEnd_p6 ao aa hC N _ _ _ _ hf
def Mod_isLineEnd (N : Nat) (x0 : Int32) (σ : g_S) : Option (Int32 × g_S) := Mod_isLineEnd_b0 N x0 σ
theorem Mod_isLineEnd_m (l : Launch) (D : va_G) (cA : ClassId) (ao aa : Nat → Nat) (N : Nat) (x0 : Int32) (σ : g_S) (r : Int32) (σe : g_S) (hf : Mod_isLineEnd N x0 σ = some (r, σe)) : Mt l D cA y_Mod_isLineEnd c_Mod_isLineEnd 1 (some .boolean) 0 0 [.int x0] (LM ao aa cA σ) (some (.int r)) (LM ao aa cA σe) := by
  refine g_met (by decide +kernel) (by simp [lg_sl, Value.category]) (fun X e1 e2 e3 hC => ?_)
  subst e1 e2 e3
  refine gw_lv [0] rfl ?_
  exact Mod_isLineEnd_p0 ao aa hC N _ _ (r) _ hf
def Mod_isBlank_b90 (N : Nat) (s0 : Int32) (σ : g_S) : Option (Int32 × g_S) := if gB s0 = true then some (s0, σ) else none
theorem Mod_isBlank_p90 (ao aa : Nat → Nat) {X : g_X} (hC : gC X c_Mod_isBlank R_Mod 1 22 1 (some .boolean)) (N : Nat) (s0 : Int32) (σ : g_S) (r : Int32) (σe : g_S) (hf : Mod_isBlank_b90 N s0 σ = some (r, σe)) : gw X (.inl (some (.int r))) (LM ao aa X.2.2.1 σe) (LM ao aa X.2.2.1 σ) [] 90 [.int s0] := by
  unfold Mod_isBlank_b90 at hf
  obtain ⟨hg90, hf⟩ := g_guard hf
  cases hf
  exact gw_zret hC hg90 d_Mod_isBlank_90
def Mod_isBlank_b85 (N : Nat) (σ : g_S) : Option (Int32 × g_S) := Mod_isBlank_b90 N 1 σ
theorem Mod_isBlank_p85 (ao aa : Nat → Nat) {X : g_X} (hC : gC X c_Mod_isBlank R_Mod 1 22 1 (some .boolean)) (N : Nat) (σ : g_S) (r : Int32) (σe : g_S) (hf : Mod_isBlank_b85 N σ = some (r, σe)) : gw X (.inl (some (.int r))) (LM ao aa X.2.2.1 σe) (LM ao aa X.2.2.1 σ) [] 85 [] := by
  unfold Mod_isBlank_b85 at hf
  refine gw_iconst hC 1 d_Mod_isBlank_85 (by decide) ?_
  refine gw_goto hC 90 d_Mod_isBlank_86 (by decide) ?_
  exact Mod_isBlank_p90 ao aa hC N _ _ _ _ hf
def Mod_isBlank_b89 (N : Nat) (σ : g_S) : Option (Int32 × g_S) := Mod_isBlank_b90 N 0 σ
theorem Mod_isBlank_p89 (ao aa : Nat → Nat) {X : g_X} (hC : gC X c_Mod_isBlank R_Mod 1 22 1 (some .boolean)) (N : Nat) (σ : g_S) (r : Int32) (σe : g_S) (hf : Mod_isBlank_b89 N σ = some (r, σe)) : gw X (.inl (some (.int r))) (LM ao aa X.2.2.1 σe) (LM ao aa X.2.2.1 σ) [] 89 [] := by
  unfold Mod_isBlank_b89 at hf
  refine gw_iconst hC 0 d_Mod_isBlank_89 (by decide) ?_
  exact Mod_isBlank_p90 ao aa hC N _ _ _ _ hf
def Mod_isBlank_b79 (N : Nat) (x0 : Int32) (σ : g_S) : Option (Int32 × g_S) := if x0 = 65279 then Mod_isBlank_b85 N σ else Mod_isBlank_b89 N σ
theorem Mod_isBlank_p79 (ao aa : Nat → Nat) {X : g_X} (hC : gC X c_Mod_isBlank R_Mod 1 22 1 (some .boolean)) (N : Nat) (x0 : Int32) (σ : g_S) (r : Int32) (σe : g_S) (hf : Mod_isBlank_b79 N x0 σ = some (r, σe)) : gw X (.inl (some (.int r))) (LM ao aa X.2.2.1 σe) (LM ao aa X.2.2.1 σ) [(0, .int x0)] 79 [] := by
  unfold Mod_isBlank_b79 at hf
  refine gw_iload_n hC 0 d_Mod_isBlank_79 rfl rfl ?_
  refine gw_ldc hC 65279 kn_Mod_122 d_Mod_isBlank_80 ?_
  refine gw_icmp_ne hC 89 d_Mod_isBlank_82 (by decide) (fun hh => ?_) (fun hh => ?_)
  · rw [if_neg hh] at hf
    refine gw_lv [] rfl ?_
    exact Mod_isBlank_p89 ao aa hC N _ _ _ hf
  · rw [if_pos hh] at hf
    refine gw_lv [] rfl ?_
    exact Mod_isBlank_p85 ao aa hC N _ _ _ hf
def Mod_isBlank_b72 (N : Nat) (x0 : Int32) (σ : g_S) : Option (Int32 × g_S) := if x0 = 12288 then Mod_isBlank_b85 N σ else Mod_isBlank_b79 N x0 σ
theorem Mod_isBlank_p72 (ao aa : Nat → Nat) {X : g_X} (hC : gC X c_Mod_isBlank R_Mod 1 22 1 (some .boolean)) (N : Nat) (x0 : Int32) (σ : g_S) (r : Int32) (σe : g_S) (hf : Mod_isBlank_b72 N x0 σ = some (r, σe)) : gw X (.inl (some (.int r))) (LM ao aa X.2.2.1 σe) (LM ao aa X.2.2.1 σ) [(0, .int x0)] 72 [] := by
  unfold Mod_isBlank_b72 at hf
  refine gw_iload_n hC 0 d_Mod_isBlank_72 rfl rfl ?_
  refine gw_sipush hC 12288 d_Mod_isBlank_73 (by decide) ?_
  refine gw_icmp_eq hC 85 d_Mod_isBlank_76 (by decide) (fun hh => ?_) (fun hh => ?_)
  · rw [if_pos hh] at hf
    refine gw_lv [] rfl ?_
    exact Mod_isBlank_p85 ao aa hC N _ _ _ hf
  · rw [if_neg hh] at hf
    exact Mod_isBlank_p79 ao aa hC N _ _ _ _ hf
def Mod_isBlank_b65 (N : Nat) (x0 : Int32) (σ : g_S) : Option (Int32 × g_S) := if x0 = 8287 then Mod_isBlank_b85 N σ else Mod_isBlank_b72 N x0 σ
theorem Mod_isBlank_p65 (ao aa : Nat → Nat) {X : g_X} (hC : gC X c_Mod_isBlank R_Mod 1 22 1 (some .boolean)) (N : Nat) (x0 : Int32) (σ : g_S) (r : Int32) (σe : g_S) (hf : Mod_isBlank_b65 N x0 σ = some (r, σe)) : gw X (.inl (some (.int r))) (LM ao aa X.2.2.1 σe) (LM ao aa X.2.2.1 σ) [(0, .int x0)] 65 [] := by
  unfold Mod_isBlank_b65 at hf
  refine gw_iload_n hC 0 d_Mod_isBlank_65 rfl rfl ?_
  refine gw_sipush hC 8287 d_Mod_isBlank_66 (by decide) ?_
  refine gw_icmp_eq hC 85 d_Mod_isBlank_69 (by decide) (fun hh => ?_) (fun hh => ?_)
  · rw [if_pos hh] at hf
    refine gw_lv [] rfl ?_
    exact Mod_isBlank_p85 ao aa hC N _ _ _ hf
  · rw [if_neg hh] at hf
    exact Mod_isBlank_p72 ao aa hC N _ _ _ _ hf
def Mod_isBlank_b58 (N : Nat) (x0 : Int32) (σ : g_S) : Option (Int32 × g_S) := if x0 = 8239 then Mod_isBlank_b85 N σ else Mod_isBlank_b65 N x0 σ
theorem Mod_isBlank_p58 (ao aa : Nat → Nat) {X : g_X} (hC : gC X c_Mod_isBlank R_Mod 1 22 1 (some .boolean)) (N : Nat) (x0 : Int32) (σ : g_S) (r : Int32) (σe : g_S) (hf : Mod_isBlank_b58 N x0 σ = some (r, σe)) : gw X (.inl (some (.int r))) (LM ao aa X.2.2.1 σe) (LM ao aa X.2.2.1 σ) [(0, .int x0)] 58 [] := by
  unfold Mod_isBlank_b58 at hf
  refine gw_iload_n hC 0 d_Mod_isBlank_58 rfl rfl ?_
  refine gw_sipush hC 8239 d_Mod_isBlank_59 (by decide) ?_
  refine gw_icmp_eq hC 85 d_Mod_isBlank_62 (by decide) (fun hh => ?_) (fun hh => ?_)
  · rw [if_pos hh] at hf
    refine gw_lv [] rfl ?_
    exact Mod_isBlank_p85 ao aa hC N _ _ _ hf
  · rw [if_neg hh] at hf
    exact Mod_isBlank_p65 ao aa hC N _ _ _ _ hf
def Mod_isBlank_b45 (N : Nat) (x0 : Int32) (σ : g_S) : Option (Int32 × g_S) := (Mod_in N x0 8192 8202 σ).bind fun q52 => if q52.1 = 0 then Mod_isBlank_b58 N x0 q52.2 else Mod_isBlank_b85 N q52.2
theorem Mod_isBlank_p45 (ao aa : Nat → Nat) {X : g_X} (hC : gC X c_Mod_isBlank R_Mod 1 22 1 (some .boolean)) (N : Nat) (x0 : Int32) (σ : g_S) (r : Int32) (σe : g_S) (hf : Mod_isBlank_b45 N x0 σ = some (r, σe)) : gw X (.inl (some (.int r))) (LM ao aa X.2.2.1 σe) (LM ao aa X.2.2.1 σ) [(0, .int x0)] 45 [] := by
  unfold Mod_isBlank_b45 at hf
  refine gw_iload_n hC 0 d_Mod_isBlank_45 rfl rfl ?_
  refine gw_sipush hC 8192 d_Mod_isBlank_46 (by decide) ?_
  refine gw_sipush hC 8202 d_Mod_isBlank_49 (by decide) ?_
  obtain ⟨q52, hq52, hf⟩ := g_bind hf
  refine gw_callS hC [.int x0, .int 8192, .int 8202] [] (Mod_in_m _ _ _ ao aa N _ _ _ _ _ _ hq52) kc_Mod_103 ⟨by decide, by decide⟩ (Nat.le_of_ble_eq_true rfl) [.int 8202, .int 8192, .int x0] [.int q52.1] rfl rfl d_Mod_isBlank_52 ?_
  refine gw_if_ne hC 85 d_Mod_isBlank_55 (by decide) (fun hh => ?_) (fun hh => ?_)
  · rw [if_neg hh] at hf
    refine gw_lv [] rfl ?_
    exact Mod_isBlank_p85 ao aa hC N _ _ _ hf
  · rw [if_pos hh] at hf
    exact Mod_isBlank_p58 ao aa hC N _ _ _ _ hf
def Mod_isBlank_b38 (N : Nat) (x0 : Int32) (σ : g_S) : Option (Int32 × g_S) := if x0 = 6158 then Mod_isBlank_b85 N σ else Mod_isBlank_b45 N x0 σ
theorem Mod_isBlank_p38 (ao aa : Nat → Nat) {X : g_X} (hC : gC X c_Mod_isBlank R_Mod 1 22 1 (some .boolean)) (N : Nat) (x0 : Int32) (σ : g_S) (r : Int32) (σe : g_S) (hf : Mod_isBlank_b38 N x0 σ = some (r, σe)) : gw X (.inl (some (.int r))) (LM ao aa X.2.2.1 σe) (LM ao aa X.2.2.1 σ) [(0, .int x0)] 38 [] := by
  unfold Mod_isBlank_b38 at hf
  refine gw_iload_n hC 0 d_Mod_isBlank_38 rfl rfl ?_
  refine gw_sipush hC 6158 d_Mod_isBlank_39 (by decide) ?_
  refine gw_icmp_eq hC 85 d_Mod_isBlank_42 (by decide) (fun hh => ?_) (fun hh => ?_)
  · rw [if_pos hh] at hf
    refine gw_lv [] rfl ?_
    exact Mod_isBlank_p85 ao aa hC N _ _ _ hf
  · rw [if_neg hh] at hf
    exact Mod_isBlank_p45 ao aa hC N _ _ _ _ hf
def Mod_isBlank_b31 (N : Nat) (x0 : Int32) (σ : g_S) : Option (Int32 × g_S) := if x0 = 5760 then Mod_isBlank_b85 N σ else Mod_isBlank_b38 N x0 σ
theorem Mod_isBlank_p31 (ao aa : Nat → Nat) {X : g_X} (hC : gC X c_Mod_isBlank R_Mod 1 22 1 (some .boolean)) (N : Nat) (x0 : Int32) (σ : g_S) (r : Int32) (σe : g_S) (hf : Mod_isBlank_b31 N x0 σ = some (r, σe)) : gw X (.inl (some (.int r))) (LM ao aa X.2.2.1 σe) (LM ao aa X.2.2.1 σ) [(0, .int x0)] 31 [] := by
  unfold Mod_isBlank_b31 at hf
  refine gw_iload_n hC 0 d_Mod_isBlank_31 rfl rfl ?_
  refine gw_sipush hC 5760 d_Mod_isBlank_32 (by decide) ?_
  refine gw_icmp_eq hC 85 d_Mod_isBlank_35 (by decide) (fun hh => ?_) (fun hh => ?_)
  · rw [if_pos hh] at hf
    refine gw_lv [] rfl ?_
    exact Mod_isBlank_p85 ao aa hC N _ _ _ hf
  · rw [if_neg hh] at hf
    exact Mod_isBlank_p38 ao aa hC N _ _ _ _ hf
def Mod_isBlank_b24 (N : Nat) (x0 : Int32) (σ : g_S) : Option (Int32 × g_S) := if x0 = 160 then Mod_isBlank_b85 N σ else Mod_isBlank_b31 N x0 σ
theorem Mod_isBlank_p24 (ao aa : Nat → Nat) {X : g_X} (hC : gC X c_Mod_isBlank R_Mod 1 22 1 (some .boolean)) (N : Nat) (x0 : Int32) (σ : g_S) (r : Int32) (σe : g_S) (hf : Mod_isBlank_b24 N x0 σ = some (r, σe)) : gw X (.inl (some (.int r))) (LM ao aa X.2.2.1 σe) (LM ao aa X.2.2.1 σ) [(0, .int x0)] 24 [] := by
  unfold Mod_isBlank_b24 at hf
  refine gw_iload_n hC 0 d_Mod_isBlank_24 rfl rfl ?_
  refine gw_sipush hC 160 d_Mod_isBlank_25 (by decide) ?_
  refine gw_icmp_eq hC 85 d_Mod_isBlank_28 (by decide) (fun hh => ?_) (fun hh => ?_)
  · rw [if_pos hh] at hf
    refine gw_lv [] rfl ?_
    exact Mod_isBlank_p85 ao aa hC N _ _ _ hf
  · rw [if_neg hh] at hf
    exact Mod_isBlank_p31 ao aa hC N _ _ _ _ hf
def Mod_isBlank_b18 (N : Nat) (x0 : Int32) (σ : g_S) : Option (Int32 × g_S) := if x0 = 32 then Mod_isBlank_b85 N σ else Mod_isBlank_b24 N x0 σ
theorem Mod_isBlank_p18 (ao aa : Nat → Nat) {X : g_X} (hC : gC X c_Mod_isBlank R_Mod 1 22 1 (some .boolean)) (N : Nat) (x0 : Int32) (σ : g_S) (r : Int32) (σe : g_S) (hf : Mod_isBlank_b18 N x0 σ = some (r, σe)) : gw X (.inl (some (.int r))) (LM ao aa X.2.2.1 σe) (LM ao aa X.2.2.1 σ) [(0, .int x0)] 18 [] := by
  unfold Mod_isBlank_b18 at hf
  refine gw_iload_n hC 0 d_Mod_isBlank_18 rfl rfl ?_
  refine gw_bipush hC 32 d_Mod_isBlank_19 (by decide) ?_
  refine gw_icmp_eq hC 85 d_Mod_isBlank_21 (by decide) (fun hh => ?_) (fun hh => ?_)
  · rw [if_pos hh] at hf
    refine gw_lv [] rfl ?_
    exact Mod_isBlank_p85 ao aa hC N _ _ _ hf
  · rw [if_neg hh] at hf
    exact Mod_isBlank_p24 ao aa hC N _ _ _ _ hf
def Mod_isBlank_b12 (N : Nat) (x0 : Int32) (σ : g_S) : Option (Int32 × g_S) := if x0 = 12 then Mod_isBlank_b85 N σ else Mod_isBlank_b18 N x0 σ
theorem Mod_isBlank_p12 (ao aa : Nat → Nat) {X : g_X} (hC : gC X c_Mod_isBlank R_Mod 1 22 1 (some .boolean)) (N : Nat) (x0 : Int32) (σ : g_S) (r : Int32) (σe : g_S) (hf : Mod_isBlank_b12 N x0 σ = some (r, σe)) : gw X (.inl (some (.int r))) (LM ao aa X.2.2.1 σe) (LM ao aa X.2.2.1 σ) [(0, .int x0)] 12 [] := by
  unfold Mod_isBlank_b12 at hf
  refine gw_iload_n hC 0 d_Mod_isBlank_12 rfl rfl ?_
  refine gw_bipush hC 12 d_Mod_isBlank_13 (by decide) ?_
  refine gw_icmp_eq hC 85 d_Mod_isBlank_15 (by decide) (fun hh => ?_) (fun hh => ?_)
  · rw [if_pos hh] at hf
    refine gw_lv [] rfl ?_
    exact Mod_isBlank_p85 ao aa hC N _ _ _ hf
  · rw [if_neg hh] at hf
    exact Mod_isBlank_p18 ao aa hC N _ _ _ _ hf
def Mod_isBlank_b6 (N : Nat) (x0 : Int32) (σ : g_S) : Option (Int32 × g_S) := if x0 = 11 then Mod_isBlank_b85 N σ else Mod_isBlank_b12 N x0 σ
theorem Mod_isBlank_p6 (ao aa : Nat → Nat) {X : g_X} (hC : gC X c_Mod_isBlank R_Mod 1 22 1 (some .boolean)) (N : Nat) (x0 : Int32) (σ : g_S) (r : Int32) (σe : g_S) (hf : Mod_isBlank_b6 N x0 σ = some (r, σe)) : gw X (.inl (some (.int r))) (LM ao aa X.2.2.1 σe) (LM ao aa X.2.2.1 σ) [(0, .int x0)] 6 [] := by
  unfold Mod_isBlank_b6 at hf
  refine gw_iload_n hC 0 d_Mod_isBlank_6 rfl rfl ?_
  refine gw_bipush hC 11 d_Mod_isBlank_7 (by decide) ?_
  refine gw_icmp_eq hC 85 d_Mod_isBlank_9 (by decide) (fun hh => ?_) (fun hh => ?_)
  · rw [if_pos hh] at hf
    refine gw_lv [] rfl ?_
    exact Mod_isBlank_p85 ao aa hC N _ _ _ hf
  · rw [if_neg hh] at hf
    exact Mod_isBlank_p12 ao aa hC N _ _ _ _ hf
def Mod_isBlank_b0 (N : Nat) (x0 : Int32) (σ : g_S) : Option (Int32 × g_S) := if x0 = 9 then Mod_isBlank_b85 N σ else Mod_isBlank_b6 N x0 σ
theorem Mod_isBlank_p0 (ao aa : Nat → Nat) {X : g_X} (hC : gC X c_Mod_isBlank R_Mod 1 22 1 (some .boolean)) (N : Nat) (x0 : Int32) (σ : g_S) (r : Int32) (σe : g_S) (hf : Mod_isBlank_b0 N x0 σ = some (r, σe)) : gw X (.inl (some (.int r))) (LM ao aa X.2.2.1 σe) (LM ao aa X.2.2.1 σ) [(0, .int x0)] 0 [] := by
  unfold Mod_isBlank_b0 at hf
  refine gw_iload_n hC 0 d_Mod_isBlank_0 rfl rfl ?_
  refine gw_bipush hC 9 d_Mod_isBlank_1 (by decide) ?_
  refine gw_icmp_eq hC 85 d_Mod_isBlank_3 (by decide) (fun hh => ?_) (fun hh => ?_)
  · rw [if_pos hh] at hf
    refine gw_lv [] rfl ?_
    exact Mod_isBlank_p85 ao aa hC N _ _ _ hf
  · rw [if_neg hh] at hf
    exact Mod_isBlank_p6 ao aa hC N _ _ _ _ hf
def Mod_isBlank (N : Nat) (x0 : Int32) (σ : g_S) : Option (Int32 × g_S) := Mod_isBlank_b0 N x0 σ
theorem Mod_isBlank_m (l : Launch) (D : va_G) (cA : ClassId) (ao aa : Nat → Nat) (N : Nat) (x0 : Int32) (σ : g_S) (r : Int32) (σe : g_S) (hf : Mod_isBlank N x0 σ = some (r, σe)) : Mt l D cA y_Mod_isBlank c_Mod_isBlank 1 (some .boolean) 1 22 [.int x0] (LM ao aa cA σ) (some (.int r)) (LM ao aa cA σe) := by
  refine g_met (by decide +kernel) (by simp [lg_sl, Value.category]) (fun X e1 e2 e3 hC => ?_)
  subst e1 e2 e3
  refine gw_lv [0] rfl ?_
  exact Mod_isBlank_p0 ao aa hC N _ _ (r) _ hf
def Mod_inSet_b35 (N : Nat) (s0 : Int32) (σ : g_S) : Option (Int32 × g_S) := if gB s0 = true then some (s0, σ) else none
theorem Mod_inSet_p35 (ao aa : Nat → Nat) {X : g_X} (hC : gC X c_Mod_inSet R_Mod 3 62 2 (some .boolean)) (N : Nat) (s0 : Int32) (σ : g_S) (r : Int32) (σe : g_S) (hf : Mod_inSet_b35 N s0 σ = some (r, σe)) : gw X (.inl (some (.int r))) (LM ao aa X.2.2.1 σe) (LM ao aa X.2.2.1 σ) [] 35 [.int s0] := by
  unfold Mod_inSet_b35 at hf
  obtain ⟨hg35, hf⟩ := g_guard hf
  cases hf
  exact gw_zret hC hg35 d_Mod_inSet_35
def Mod_inSet_b34 (N : Nat) (σ : g_S) : Option (Int32 × g_S) := Mod_inSet_b35 N 0 σ
theorem Mod_inSet_p34 (ao aa : Nat → Nat) {X : g_X} (hC : gC X c_Mod_inSet R_Mod 3 62 2 (some .boolean)) (N : Nat) (σ : g_S) (r : Int32) (σe : g_S) (hf : Mod_inSet_b34 N σ = some (r, σe)) : gw X (.inl (some (.int r))) (LM ao aa X.2.2.1 σe) (LM ao aa X.2.2.1 σ) [] 34 [] := by
  unfold Mod_inSet_b34 at hf
  refine gw_iconst hC 0 d_Mod_inSet_34 (by decide) ?_
  exact Mod_inSet_p35 ao aa hC N _ _ _ _ hf
def Mod_inSet_b30 (N : Nat) (σ : g_S) : Option (Int32 × g_S) := Mod_inSet_b35 N 1 σ
theorem Mod_inSet_p30 (ao aa : Nat → Nat) {X : g_X} (hC : gC X c_Mod_inSet R_Mod 3 62 2 (some .boolean)) (N : Nat) (σ : g_S) (r : Int32) (σe : g_S) (hf : Mod_inSet_b30 N σ = some (r, σe)) : gw X (.inl (some (.int r))) (LM ao aa X.2.2.1 σe) (LM ao aa X.2.2.1 σ) [] 30 [] := by
  unfold Mod_inSet_b30 at hf
  refine gw_iconst hC 1 d_Mod_inSet_30 (by decide) ?_
  refine gw_goto hC 35 d_Mod_inSet_31 (by decide) ?_
  exact Mod_inSet_p35 ao aa hC N _ _ _ _ hf
def Mod_inSet_b27 (N : Nat) (s0 : Int32) (s1 : Int32) (σ : g_S) : Option (Int32 × g_S) := if s0 = s1 then Mod_inSet_b30 N σ else Mod_inSet_b34 N σ
theorem Mod_inSet_p27 (ao aa : Nat → Nat) {X : g_X} (hC : gC X c_Mod_inSet R_Mod 3 62 2 (some .boolean)) (N : Nat) (s0 : Int32) (s1 : Int32) (σ : g_S) (r : Int32) (σe : g_S) (hf : Mod_inSet_b27 N s0 s1 σ = some (r, σe)) : gw X (.inl (some (.int r))) (LM ao aa X.2.2.1 σe) (LM ao aa X.2.2.1 σ) [] 27 [.int s1, .int s0] := by
  unfold Mod_inSet_b27 at hf
  refine gw_icmp_ne hC 34 d_Mod_inSet_27 (by decide) (fun hh => ?_) (fun hh => ?_)
  · rw [if_neg hh] at hf
    exact Mod_inSet_p34 ao aa hC N _ _ _ hf
  · rw [if_pos hh] at hf
    exact Mod_inSet_p30 ao aa hC N _ _ _ hf
def Mod_inSet_b26 (N : Nat) (s0 : Int32) (σ : g_S) : Option (Int32 × g_S) := Mod_inSet_b27 N s0 0 σ
theorem Mod_inSet_p26 (ao aa : Nat → Nat) {X : g_X} (hC : gC X c_Mod_inSet R_Mod 3 62 2 (some .boolean)) (N : Nat) (s0 : Int32) (σ : g_S) (r : Int32) (σe : g_S) (hf : Mod_inSet_b26 N s0 σ = some (r, σe)) : gw X (.inl (some (.int r))) (LM ao aa X.2.2.1 σe) (LM ao aa X.2.2.1 σ) [] 26 [.int s0] := by
  unfold Mod_inSet_b26 at hf
  refine gw_iconst hC 0 d_Mod_inSet_26 (by decide) ?_
  exact Mod_inSet_p27 ao aa hC N _ _ _ _ _ hf
def Mod_inSet_b22 (N : Nat) (s0 : Int32) (σ : g_S) : Option (Int32 × g_S) := Mod_inSet_b27 N s0 1 σ
theorem Mod_inSet_p22 (ao aa : Nat → Nat) {X : g_X} (hC : gC X c_Mod_inSet R_Mod 3 62 2 (some .boolean)) (N : Nat) (s0 : Int32) (σ : g_S) (r : Int32) (σe : g_S) (hf : Mod_inSet_b22 N s0 σ = some (r, σe)) : gw X (.inl (some (.int r))) (LM ao aa X.2.2.1 σe) (LM ao aa X.2.2.1 σ) [] 22 [.int s0] := by
  unfold Mod_inSet_b22 at hf
  refine gw_iconst hC 1 d_Mod_inSet_22 (by decide) ?_
  refine gw_goto hC 27 d_Mod_inSet_23 (by decide) ?_
  exact Mod_inSet_p27 ao aa hC N _ _ _ _ _ hf
def Mod_inSet_b12 (N : Nat) (x0 : Int32) (x1 : Int32) (σ : g_S) : Option (Int32 × g_S) := (Mod_isDigit N x1 σ).bind fun q13 => if x0 = 100 then Mod_inSet_b22 N q13.1 q13.2 else Mod_inSet_b26 N q13.1 q13.2
theorem Mod_inSet_p12 (ao aa : Nat → Nat) {X : g_X} (hC : gC X c_Mod_inSet R_Mod 3 62 2 (some .boolean)) (N : Nat) (x0 : Int32) (x1 : Int32) (σ : g_S) (r : Int32) (σe : g_S) (hf : Mod_inSet_b12 N x0 x1 σ = some (r, σe)) : gw X (.inl (some (.int r))) (LM ao aa X.2.2.1 σe) (LM ao aa X.2.2.1 σ) [(0, .int x0), (1, .int x1)] 12 [] := by
  unfold Mod_inSet_b12 at hf
  refine gw_iload_n hC 1 d_Mod_inSet_12 rfl rfl ?_
  obtain ⟨q13, hq13, hf⟩ := g_bind hf
  refine gw_callS hC [.int x1] [] (Mod_isDigit_m _ _ _ ao aa N _ _ _ _ hq13) kc_Mod_116 ⟨by decide, by decide⟩ (Nat.le_of_ble_eq_true rfl) [.int x1] [.int q13.1] rfl rfl d_Mod_inSet_13 ?_
  refine gw_iload_n hC 0 d_Mod_inSet_16 rfl rfl ?_
  refine gw_bipush hC 100 d_Mod_inSet_17 (by decide) ?_
  refine gw_icmp_ne hC 26 d_Mod_inSet_19 (by decide) (fun hh => ?_) (fun hh => ?_)
  · rw [if_neg hh] at hf
    refine gw_lv [] rfl ?_
    exact Mod_inSet_p26 ao aa hC N _ _ _ _ hf
  · rw [if_pos hh] at hf
    refine gw_lv [] rfl ?_
    exact Mod_inSet_p22 ao aa hC N _ _ _ _ hf
def Mod_inSet_b71 (N : Nat) (s0 : Int32) (σ : g_S) : Option (Int32 × g_S) := if gB s0 = true then some (s0, σ) else none
theorem Mod_inSet_p71 (ao aa : Nat → Nat) {X : g_X} (hC : gC X c_Mod_inSet R_Mod 3 62 2 (some .boolean)) (N : Nat) (s0 : Int32) (σ : g_S) (r : Int32) (σe : g_S) (hf : Mod_inSet_b71 N s0 σ = some (r, σe)) : gw X (.inl (some (.int r))) (LM ao aa X.2.2.1 σe) (LM ao aa X.2.2.1 σ) [] 71 [.int s0] := by
  unfold Mod_inSet_b71 at hf
  obtain ⟨hg71, hf⟩ := g_guard hf
  cases hf
  exact gw_zret hC hg71 d_Mod_inSet_71
def Mod_inSet_b70 (N : Nat) (σ : g_S) : Option (Int32 × g_S) := Mod_inSet_b71 N 0 σ
theorem Mod_inSet_p70 (ao aa : Nat → Nat) {X : g_X} (hC : gC X c_Mod_inSet R_Mod 3 62 2 (some .boolean)) (N : Nat) (σ : g_S) (r : Int32) (σe : g_S) (hf : Mod_inSet_b70 N σ = some (r, σe)) : gw X (.inl (some (.int r))) (LM ao aa X.2.2.1 σe) (LM ao aa X.2.2.1 σ) [] 70 [] := by
  unfold Mod_inSet_b70 at hf
  refine gw_iconst hC 0 d_Mod_inSet_70 (by decide) ?_
  exact Mod_inSet_p71 ao aa hC N _ _ _ _ hf
def Mod_inSet_b66 (N : Nat) (σ : g_S) : Option (Int32 × g_S) := Mod_inSet_b71 N 1 σ
theorem Mod_inSet_p66 (ao aa : Nat → Nat) {X : g_X} (hC : gC X c_Mod_inSet R_Mod 3 62 2 (some .boolean)) (N : Nat) (σ : g_S) (r : Int32) (σe : g_S) (hf : Mod_inSet_b66 N σ = some (r, σe)) : gw X (.inl (some (.int r))) (LM ao aa X.2.2.1 σe) (LM ao aa X.2.2.1 σ) [] 66 [] := by
  unfold Mod_inSet_b66 at hf
  refine gw_iconst hC 1 d_Mod_inSet_66 (by decide) ?_
  refine gw_goto hC 71 d_Mod_inSet_67 (by decide) ?_
  exact Mod_inSet_p71 ao aa hC N _ _ _ _ hf
def Mod_inSet_b63 (N : Nat) (s0 : Int32) (s1 : Int32) (σ : g_S) : Option (Int32 × g_S) := if s0 = s1 then Mod_inSet_b66 N σ else Mod_inSet_b70 N σ
theorem Mod_inSet_p63 (ao aa : Nat → Nat) {X : g_X} (hC : gC X c_Mod_inSet R_Mod 3 62 2 (some .boolean)) (N : Nat) (s0 : Int32) (s1 : Int32) (σ : g_S) (r : Int32) (σe : g_S) (hf : Mod_inSet_b63 N s0 s1 σ = some (r, σe)) : gw X (.inl (some (.int r))) (LM ao aa X.2.2.1 σe) (LM ao aa X.2.2.1 σ) [] 63 [.int s1, .int s0] := by
  unfold Mod_inSet_b63 at hf
  refine gw_icmp_ne hC 70 d_Mod_inSet_63 (by decide) (fun hh => ?_) (fun hh => ?_)
  · rw [if_neg hh] at hf
    exact Mod_inSet_p70 ao aa hC N _ _ _ hf
  · rw [if_pos hh] at hf
    exact Mod_inSet_p66 ao aa hC N _ _ _ hf
def Mod_inSet_b62 (N : Nat) (s0 : Int32) (σ : g_S) : Option (Int32 × g_S) := Mod_inSet_b63 N s0 0 σ
theorem Mod_inSet_p62 (ao aa : Nat → Nat) {X : g_X} (hC : gC X c_Mod_inSet R_Mod 3 62 2 (some .boolean)) (N : Nat) (s0 : Int32) (σ : g_S) (r : Int32) (σe : g_S) (hf : Mod_inSet_b62 N s0 σ = some (r, σe)) : gw X (.inl (some (.int r))) (LM ao aa X.2.2.1 σe) (LM ao aa X.2.2.1 σ) [] 62 [.int s0] := by
  unfold Mod_inSet_b62 at hf
  refine gw_iconst hC 0 d_Mod_inSet_62 (by decide) ?_
  exact Mod_inSet_p63 ao aa hC N _ _ _ _ _ hf
def Mod_inSet_b58 (N : Nat) (s0 : Int32) (σ : g_S) : Option (Int32 × g_S) := Mod_inSet_b63 N s0 1 σ
theorem Mod_inSet_p58 (ao aa : Nat → Nat) {X : g_X} (hC : gC X c_Mod_inSet R_Mod 3 62 2 (some .boolean)) (N : Nat) (s0 : Int32) (σ : g_S) (r : Int32) (σe : g_S) (hf : Mod_inSet_b58 N s0 σ = some (r, σe)) : gw X (.inl (some (.int r))) (LM ao aa X.2.2.1 σe) (LM ao aa X.2.2.1 σ) [] 58 [.int s0] := by
  unfold Mod_inSet_b58 at hf
  refine gw_iconst hC 1 d_Mod_inSet_58 (by decide) ?_
  refine gw_goto hC 63 d_Mod_inSet_59 (by decide) ?_
  exact Mod_inSet_p63 ao aa hC N _ _ _ _ _ hf
def Mod_inSet_b48 (N : Nat) (x0 : Int32) (x1 : Int32) (σ : g_S) : Option (Int32 × g_S) := (Mod_isWord N x1 σ).bind fun q49 => if x0 = 119 then Mod_inSet_b58 N q49.1 q49.2 else Mod_inSet_b62 N q49.1 q49.2
theorem Mod_inSet_p48 (ao aa : Nat → Nat) {X : g_X} (hC : gC X c_Mod_inSet R_Mod 3 62 2 (some .boolean)) (N : Nat) (x0 : Int32) (x1 : Int32) (σ : g_S) (r : Int32) (σe : g_S) (hf : Mod_inSet_b48 N x0 x1 σ = some (r, σe)) : gw X (.inl (some (.int r))) (LM ao aa X.2.2.1 σe) (LM ao aa X.2.2.1 σ) [(0, .int x0), (1, .int x1)] 48 [] := by
  unfold Mod_inSet_b48 at hf
  refine gw_iload_n hC 1 d_Mod_inSet_48 rfl rfl ?_
  obtain ⟨q49, hq49, hf⟩ := g_bind hf
  refine gw_callS hC [.int x1] [] (Mod_isWord_m _ _ _ ao aa N _ _ _ _ hq49) kc_Mod_119 ⟨by decide, by decide⟩ (Nat.le_of_ble_eq_true rfl) [.int x1] [.int q49.1] rfl rfl d_Mod_inSet_49 ?_
  refine gw_iload_n hC 0 d_Mod_inSet_52 rfl rfl ?_
  refine gw_bipush hC 119 d_Mod_inSet_53 (by decide) ?_
  refine gw_icmp_ne hC 62 d_Mod_inSet_55 (by decide) (fun hh => ?_) (fun hh => ?_)
  · rw [if_neg hh] at hf
    refine gw_lv [] rfl ?_
    exact Mod_inSet_p62 ao aa hC N _ _ _ _ hf
  · rw [if_pos hh] at hf
    refine gw_lv [] rfl ?_
    exact Mod_inSet_p58 ao aa hC N _ _ _ _ hf
def Mod_inSet_b110 (N : Nat) (s0 : Int32) (σ : g_S) : Option (Int32 × g_S) := if gB s0 = true then some (s0, σ) else none
theorem Mod_inSet_p110 (ao aa : Nat → Nat) {X : g_X} (hC : gC X c_Mod_inSet R_Mod 3 62 2 (some .boolean)) (N : Nat) (s0 : Int32) (σ : g_S) (r : Int32) (σe : g_S) (hf : Mod_inSet_b110 N s0 σ = some (r, σe)) : gw X (.inl (some (.int r))) (LM ao aa X.2.2.1 σe) (LM ao aa X.2.2.1 σ) [] 110 [.int s0] := by
  unfold Mod_inSet_b110 at hf
  obtain ⟨hg110, hf⟩ := g_guard hf
  cases hf
  exact gw_zret hC hg110 d_Mod_inSet_110
def Mod_inSet_b109 (N : Nat) (σ : g_S) : Option (Int32 × g_S) := Mod_inSet_b110 N 0 σ
theorem Mod_inSet_p109 (ao aa : Nat → Nat) {X : g_X} (hC : gC X c_Mod_inSet R_Mod 3 62 2 (some .boolean)) (N : Nat) (σ : g_S) (r : Int32) (σe : g_S) (hf : Mod_inSet_b109 N σ = some (r, σe)) : gw X (.inl (some (.int r))) (LM ao aa X.2.2.1 σe) (LM ao aa X.2.2.1 σ) [] 109 [] := by
  unfold Mod_inSet_b109 at hf
  refine gw_iconst hC 0 d_Mod_inSet_109 (by decide) ?_
  exact Mod_inSet_p110 ao aa hC N _ _ _ _ hf
def Mod_inSet_b105 (N : Nat) (σ : g_S) : Option (Int32 × g_S) := Mod_inSet_b110 N 1 σ
theorem Mod_inSet_p105 (ao aa : Nat → Nat) {X : g_X} (hC : gC X c_Mod_inSet R_Mod 3 62 2 (some .boolean)) (N : Nat) (σ : g_S) (r : Int32) (σe : g_S) (hf : Mod_inSet_b105 N σ = some (r, σe)) : gw X (.inl (some (.int r))) (LM ao aa X.2.2.1 σe) (LM ao aa X.2.2.1 σ) [] 105 [] := by
  unfold Mod_inSet_b105 at hf
  refine gw_iconst hC 1 d_Mod_inSet_105 (by decide) ?_
  refine gw_goto hC 110 d_Mod_inSet_106 (by decide) ?_
  exact Mod_inSet_p110 ao aa hC N _ _ _ _ hf
def Mod_inSet_b102 (N : Nat) (s0 : Int32) (s1 : Int32) (σ : g_S) : Option (Int32 × g_S) := if s0 = s1 then Mod_inSet_b105 N σ else Mod_inSet_b109 N σ
theorem Mod_inSet_p102 (ao aa : Nat → Nat) {X : g_X} (hC : gC X c_Mod_inSet R_Mod 3 62 2 (some .boolean)) (N : Nat) (s0 : Int32) (s1 : Int32) (σ : g_S) (r : Int32) (σe : g_S) (hf : Mod_inSet_b102 N s0 s1 σ = some (r, σe)) : gw X (.inl (some (.int r))) (LM ao aa X.2.2.1 σe) (LM ao aa X.2.2.1 σ) [] 102 [.int s1, .int s0] := by
  unfold Mod_inSet_b102 at hf
  refine gw_icmp_ne hC 109 d_Mod_inSet_102 (by decide) (fun hh => ?_) (fun hh => ?_)
  · rw [if_neg hh] at hf
    exact Mod_inSet_p109 ao aa hC N _ _ _ hf
  · rw [if_pos hh] at hf
    exact Mod_inSet_p105 ao aa hC N _ _ _ hf
def Mod_inSet_b101 (N : Nat) (s0 : Int32) (σ : g_S) : Option (Int32 × g_S) := Mod_inSet_b102 N s0 0 σ
theorem Mod_inSet_p101 (ao aa : Nat → Nat) {X : g_X} (hC : gC X c_Mod_inSet R_Mod 3 62 2 (some .boolean)) (N : Nat) (s0 : Int32) (σ : g_S) (r : Int32) (σe : g_S) (hf : Mod_inSet_b101 N s0 σ = some (r, σe)) : gw X (.inl (some (.int r))) (LM ao aa X.2.2.1 σe) (LM ao aa X.2.2.1 σ) [] 101 [.int s0] := by
  unfold Mod_inSet_b101 at hf
  refine gw_iconst hC 0 d_Mod_inSet_101 (by decide) ?_
  exact Mod_inSet_p102 ao aa hC N _ _ _ _ _ hf
def Mod_inSet_b97 (N : Nat) (s0 : Int32) (σ : g_S) : Option (Int32 × g_S) := Mod_inSet_b102 N s0 1 σ
theorem Mod_inSet_p97 (ao aa : Nat → Nat) {X : g_X} (hC : gC X c_Mod_inSet R_Mod 3 62 2 (some .boolean)) (N : Nat) (s0 : Int32) (σ : g_S) (r : Int32) (σe : g_S) (hf : Mod_inSet_b97 N s0 σ = some (r, σe)) : gw X (.inl (some (.int r))) (LM ao aa X.2.2.1 σe) (LM ao aa X.2.2.1 σ) [] 97 [.int s0] := by
  unfold Mod_inSet_b97 at hf
  refine gw_iconst hC 1 d_Mod_inSet_97 (by decide) ?_
  refine gw_goto hC 102 d_Mod_inSet_98 (by decide) ?_
  exact Mod_inSet_p102 ao aa hC N _ _ _ _ _ hf
def Mod_inSet_b91 (N : Nat) (x0 : Int32) (s0 : Int32) (σ : g_S) : Option (Int32 × g_S) := if x0 = 115 then Mod_inSet_b97 N s0 σ else Mod_inSet_b101 N s0 σ
theorem Mod_inSet_p91 (ao aa : Nat → Nat) {X : g_X} (hC : gC X c_Mod_inSet R_Mod 3 62 2 (some .boolean)) (N : Nat) (x0 : Int32) (s0 : Int32) (σ : g_S) (r : Int32) (σe : g_S) (hf : Mod_inSet_b91 N x0 s0 σ = some (r, σe)) : gw X (.inl (some (.int r))) (LM ao aa X.2.2.1 σe) (LM ao aa X.2.2.1 σ) [(0, .int x0)] 91 [.int s0] := by
  unfold Mod_inSet_b91 at hf
  refine gw_iload_n hC 0 d_Mod_inSet_91 rfl rfl ?_
  refine gw_bipush hC 115 d_Mod_inSet_92 (by decide) ?_
  refine gw_icmp_ne hC 101 d_Mod_inSet_94 (by decide) (fun hh => ?_) (fun hh => ?_)
  · rw [if_neg hh] at hf
    refine gw_lv [] rfl ?_
    exact Mod_inSet_p101 ao aa hC N _ _ _ _ hf
  · rw [if_pos hh] at hf
    refine gw_lv [] rfl ?_
    exact Mod_inSet_p97 ao aa hC N _ _ _ _ hf
def Mod_inSet_b86 (N : Nat) (x0 : Int32) (σ : g_S) : Option (Int32 × g_S) := Mod_inSet_b91 N x0 1 σ
theorem Mod_inSet_p86 (ao aa : Nat → Nat) {X : g_X} (hC : gC X c_Mod_inSet R_Mod 3 62 2 (some .boolean)) (N : Nat) (x0 : Int32) (σ : g_S) (r : Int32) (σe : g_S) (hf : Mod_inSet_b86 N x0 σ = some (r, σe)) : gw X (.inl (some (.int r))) (LM ao aa X.2.2.1 σe) (LM ao aa X.2.2.1 σ) [(0, .int x0)] 86 [] := by
  unfold Mod_inSet_b86 at hf
  refine gw_iconst hC 1 d_Mod_inSet_86 (by decide) ?_
  refine gw_goto hC 91 d_Mod_inSet_87 (by decide) ?_
  exact Mod_inSet_p91 ao aa hC N _ _ _ _ _ hf
def Mod_inSet_b90 (N : Nat) (x0 : Int32) (σ : g_S) : Option (Int32 × g_S) := Mod_inSet_b91 N x0 0 σ
theorem Mod_inSet_p90 (ao aa : Nat → Nat) {X : g_X} (hC : gC X c_Mod_inSet R_Mod 3 62 2 (some .boolean)) (N : Nat) (x0 : Int32) (σ : g_S) (r : Int32) (σe : g_S) (hf : Mod_inSet_b90 N x0 σ = some (r, σe)) : gw X (.inl (some (.int r))) (LM ao aa X.2.2.1 σe) (LM ao aa X.2.2.1 σ) [(0, .int x0)] 90 [] := by
  unfold Mod_inSet_b90 at hf
  refine gw_iconst hC 0 d_Mod_inSet_90 (by decide) ?_
  exact Mod_inSet_p91 ao aa hC N _ _ _ _ _ hf
def Mod_inSet_b79 (N : Nat) (x0 : Int32) (x1 : Int32) (σ : g_S) : Option (Int32 × g_S) := (Mod_isLineEnd N x1 σ).bind fun q80 => if q80.1 = 0 then Mod_inSet_b90 N x0 q80.2 else Mod_inSet_b86 N x0 q80.2
theorem Mod_inSet_p79 (ao aa : Nat → Nat) {X : g_X} (hC : gC X c_Mod_inSet R_Mod 3 62 2 (some .boolean)) (N : Nat) (x0 : Int32) (x1 : Int32) (σ : g_S) (r : Int32) (σe : g_S) (hf : Mod_inSet_b79 N x0 x1 σ = some (r, σe)) : gw X (.inl (some (.int r))) (LM ao aa X.2.2.1 σe) (LM ao aa X.2.2.1 σ) [(0, .int x0), (1, .int x1)] 79 [] := by
  unfold Mod_inSet_b79 at hf
  refine gw_iload_n hC 1 d_Mod_inSet_79 rfl rfl ?_
  obtain ⟨q80, hq80, hf⟩ := g_bind hf
  refine gw_callS hC [.int x1] [] (Mod_isLineEnd_m _ _ _ ao aa N _ _ _ _ hq80) kc_Mod_126 ⟨by decide, by decide⟩ (Nat.le_of_ble_eq_true rfl) [.int x1] [.int q80.1] rfl rfl d_Mod_inSet_80 ?_
  refine gw_if_eq hC 90 d_Mod_inSet_83 (by decide) (fun hh => ?_) (fun hh => ?_)
  · rw [if_pos hh] at hf
    refine gw_lv [0] rfl ?_
    exact Mod_inSet_p90 ao aa hC N _ _ _ _ hf
  · rw [if_neg hh] at hf
    refine gw_lv [0] rfl ?_
    exact Mod_inSet_p86 ao aa hC N _ _ _ _ hf
def Mod_inSet_b72 (N : Nat) (x0 : Int32) (x1 : Int32) (σ : g_S) : Option (Int32 × g_S) := (Mod_isBlank N x1 σ).bind fun q73 => if q73.1 = 0 then Mod_inSet_b79 N x0 x1 q73.2 else Mod_inSet_b86 N x0 q73.2
theorem Mod_inSet_p72 (ao aa : Nat → Nat) {X : g_X} (hC : gC X c_Mod_inSet R_Mod 3 62 2 (some .boolean)) (N : Nat) (x0 : Int32) (x1 : Int32) (σ : g_S) (r : Int32) (σe : g_S) (hf : Mod_inSet_b72 N x0 x1 σ = some (r, σe)) : gw X (.inl (some (.int r))) (LM ao aa X.2.2.1 σe) (LM ao aa X.2.2.1 σ) [(0, .int x0), (1, .int x1)] 72 [] := by
  unfold Mod_inSet_b72 at hf
  refine gw_iload_n hC 1 d_Mod_inSet_72 rfl rfl ?_
  obtain ⟨q73, hq73, hf⟩ := g_bind hf
  refine gw_callS hC [.int x1] [] (Mod_isBlank_m _ _ _ ao aa N _ _ _ _ hq73) kc_Mod_123 ⟨by decide, by decide⟩ (Nat.le_of_ble_eq_true rfl) [.int x1] [.int q73.1] rfl rfl d_Mod_inSet_73 ?_
  refine gw_if_ne hC 86 d_Mod_inSet_76 (by decide) (fun hh => ?_) (fun hh => ?_)
  · rw [if_neg hh] at hf
    refine gw_lv [0] rfl ?_
    exact Mod_inSet_p86 ao aa hC N _ _ _ _ hf
  · rw [if_pos hh] at hf
    exact Mod_inSet_p79 ao aa hC N _ _ _ _ _ hf
def Mod_inSet_b42 (N : Nat) (x0 : Int32) (x1 : Int32) (σ : g_S) : Option (Int32 × g_S) := if x0 = 87 then Mod_inSet_b48 N x0 x1 σ else Mod_inSet_b72 N x0 x1 σ
theorem Mod_inSet_p42 (ao aa : Nat → Nat) {X : g_X} (hC : gC X c_Mod_inSet R_Mod 3 62 2 (some .boolean)) (N : Nat) (x0 : Int32) (x1 : Int32) (σ : g_S) (r : Int32) (σe : g_S) (hf : Mod_inSet_b42 N x0 x1 σ = some (r, σe)) : gw X (.inl (some (.int r))) (LM ao aa X.2.2.1 σe) (LM ao aa X.2.2.1 σ) [(0, .int x0), (1, .int x1)] 42 [] := by
  unfold Mod_inSet_b42 at hf
  refine gw_iload_n hC 0 d_Mod_inSet_42 rfl rfl ?_
  refine gw_bipush hC 87 d_Mod_inSet_43 (by decide) ?_
  refine gw_icmp_ne hC 72 d_Mod_inSet_45 (by decide) (fun hh => ?_) (fun hh => ?_)
  · rw [if_neg hh] at hf
    exact Mod_inSet_p72 ao aa hC N _ _ _ _ _ hf
  · rw [if_pos hh] at hf
    exact Mod_inSet_p48 ao aa hC N _ _ _ _ _ hf
def Mod_inSet_b36 (N : Nat) (x0 : Int32) (x1 : Int32) (σ : g_S) : Option (Int32 × g_S) := if x0 = 119 then Mod_inSet_b48 N x0 x1 σ else Mod_inSet_b42 N x0 x1 σ
theorem Mod_inSet_p36 (ao aa : Nat → Nat) {X : g_X} (hC : gC X c_Mod_inSet R_Mod 3 62 2 (some .boolean)) (N : Nat) (x0 : Int32) (x1 : Int32) (σ : g_S) (r : Int32) (σe : g_S) (hf : Mod_inSet_b36 N x0 x1 σ = some (r, σe)) : gw X (.inl (some (.int r))) (LM ao aa X.2.2.1 σe) (LM ao aa X.2.2.1 σ) [(0, .int x0), (1, .int x1)] 36 [] := by
  unfold Mod_inSet_b36 at hf
  refine gw_iload_n hC 0 d_Mod_inSet_36 rfl rfl ?_
  refine gw_bipush hC 119 d_Mod_inSet_37 (by decide) ?_
  refine gw_icmp_eq hC 48 d_Mod_inSet_39 (by decide) (fun hh => ?_) (fun hh => ?_)
  · rw [if_pos hh] at hf
    exact Mod_inSet_p48 ao aa hC N _ _ _ _ _ hf
  · rw [if_neg hh] at hf
    exact Mod_inSet_p42 ao aa hC N _ _ _ _ _ hf
def Mod_inSet_b6 (N : Nat) (x0 : Int32) (x1 : Int32) (σ : g_S) : Option (Int32 × g_S) := if x0 = 68 then Mod_inSet_b12 N x0 x1 σ else Mod_inSet_b36 N x0 x1 σ
theorem Mod_inSet_p6 (ao aa : Nat → Nat) {X : g_X} (hC : gC X c_Mod_inSet R_Mod 3 62 2 (some .boolean)) (N : Nat) (x0 : Int32) (x1 : Int32) (σ : g_S) (r : Int32) (σe : g_S) (hf : Mod_inSet_b6 N x0 x1 σ = some (r, σe)) : gw X (.inl (some (.int r))) (LM ao aa X.2.2.1 σe) (LM ao aa X.2.2.1 σ) [(0, .int x0), (1, .int x1)] 6 [] := by
  unfold Mod_inSet_b6 at hf
  refine gw_iload_n hC 0 d_Mod_inSet_6 rfl rfl ?_
  refine gw_bipush hC 68 d_Mod_inSet_7 (by decide) ?_
  refine gw_icmp_ne hC 36 d_Mod_inSet_9 (by decide) (fun hh => ?_) (fun hh => ?_)
  · rw [if_neg hh] at hf
    exact Mod_inSet_p36 ao aa hC N _ _ _ _ _ hf
  · rw [if_pos hh] at hf
    exact Mod_inSet_p12 ao aa hC N _ _ _ _ _ hf
def Mod_inSet_b0 (N : Nat) (x0 : Int32) (x1 : Int32) (σ : g_S) : Option (Int32 × g_S) := if x0 = 100 then Mod_inSet_b12 N x0 x1 σ else Mod_inSet_b6 N x0 x1 σ
theorem Mod_inSet_p0 (ao aa : Nat → Nat) {X : g_X} (hC : gC X c_Mod_inSet R_Mod 3 62 2 (some .boolean)) (N : Nat) (x0 : Int32) (x1 : Int32) (σ : g_S) (r : Int32) (σe : g_S) (hf : Mod_inSet_b0 N x0 x1 σ = some (r, σe)) : gw X (.inl (some (.int r))) (LM ao aa X.2.2.1 σe) (LM ao aa X.2.2.1 σ) [(0, .int x0), (1, .int x1)] 0 [] := by
  unfold Mod_inSet_b0 at hf
  refine gw_iload_n hC 0 d_Mod_inSet_0 rfl rfl ?_
  refine gw_bipush hC 100 d_Mod_inSet_1 (by decide) ?_
  refine gw_icmp_eq hC 12 d_Mod_inSet_3 (by decide) (fun hh => ?_) (fun hh => ?_)
  · rw [if_pos hh] at hf
    exact Mod_inSet_p12 ao aa hC N _ _ _ _ _ hf
  · rw [if_neg hh] at hf
    exact Mod_inSet_p6 ao aa hC N _ _ _ _ _ hf
def Mod_inSet (N : Nat) (x0 : Int32) (x1 : Int32) (σ : g_S) : Option (Int32 × g_S) := Mod_inSet_b0 N x0 x1 σ
theorem Mod_inSet_m (l : Launch) (D : va_G) (cA : ClassId) (ao aa : Nat → Nat) (N : Nat) (x0 : Int32) (x1 : Int32) (σ : g_S) (r : Int32) (σe : g_S) (hf : Mod_inSet N x0 x1 σ = some (r, σe)) : Mt l D cA y_Mod_inSet c_Mod_inSet 2 (some .boolean) 3 62 [.int x0, .int x1] (LM ao aa cA σ) (some (.int r)) (LM ao aa cA σe) := by
  refine g_met (by decide +kernel) (by simp [lg_sl, Value.category]) (fun X e1 e2 e3 hC => ?_)
  subst e1 e2 e3
  refine gw_lv [0, 1] rfl ?_
  exact Mod_inSet_p0 ao aa hC N _ _ _ (r) _ hf
def Mod_upper_b37 (N : Nat) (x0 : Int32) (σ : g_S) : Option (Int32 × g_S) := some ((x0 - 32), σ)
theorem Mod_upper_p37 (ao aa : Nat → Nat) {X : g_X} (hC : gC X c_Mod_upper R_Mod 1 22 1 (some .int)) (N : Nat) (x0 : Int32) (σ : g_S) (r : Int32) (σe : g_S) (hf : Mod_upper_b37 N x0 σ = some (r, σe)) : gw X (.inl (some (.int r))) (LM ao aa X.2.2.1 σe) (LM ao aa X.2.2.1 σ) [(0, .int x0)] 37 [] := by
  unfold Mod_upper_b37 at hf
  refine gw_iload_n hC 0 d_Mod_upper_37 rfl rfl ?_
  refine gw_bipush hC 32 d_Mod_upper_38 (by decide) ?_
  refine gw_isub hC d_Mod_upper_40 ?_
  cases hf
  exact gw_iret hC d_Mod_upper_41
def Mod_upper_b69 (N : Nat) (s0 : Int32) (σ : g_S) : Option (Int32 × g_S) := some (s0, σ)
theorem Mod_upper_p69 (ao aa : Nat → Nat) {X : g_X} (hC : gC X c_Mod_upper R_Mod 1 22 1 (some .int)) (N : Nat) (s0 : Int32) (σ : g_S) (r : Int32) (σe : g_S) (hf : Mod_upper_b69 N s0 σ = some (r, σe)) : gw X (.inl (some (.int r))) (LM ao aa X.2.2.1 σe) (LM ao aa X.2.2.1 σ) [] 69 [.int s0] := by
  unfold Mod_upper_b69 at hf
  cases hf
  exact gw_iret hC d_Mod_upper_69
def Mod_upper_b68 (N : Nat) (x0 : Int32) (σ : g_S) : Option (Int32 × g_S) := Mod_upper_b69 N x0 σ
theorem Mod_upper_p68 (ao aa : Nat → Nat) {X : g_X} (hC : gC X c_Mod_upper R_Mod 1 22 1 (some .int)) (N : Nat) (x0 : Int32) (σ : g_S) (r : Int32) (σe : g_S) (hf : Mod_upper_b68 N x0 σ = some (r, σe)) : gw X (.inl (some (.int r))) (LM ao aa X.2.2.1 σe) (LM ao aa X.2.2.1 σ) [(0, .int x0)] 68 [] := by
  unfold Mod_upper_b68 at hf
  refine gw_iload_n hC 0 d_Mod_upper_68 rfl rfl ?_
  refine gw_lv [] rfl ?_
  exact Mod_upper_p69 ao aa hC N _ _ _ _ hf
def Mod_upper_b62 (N : Nat) (σ : g_S) : Option (Int32 × g_S) := Mod_upper_b69 N 924 σ
theorem Mod_upper_p62 (ao aa : Nat → Nat) {X : g_X} (hC : gC X c_Mod_upper R_Mod 1 22 1 (some .int)) (N : Nat) (σ : g_S) (r : Int32) (σe : g_S) (hf : Mod_upper_b62 N σ = some (r, σe)) : gw X (.inl (some (.int r))) (LM ao aa X.2.2.1 σe) (LM ao aa X.2.2.1 σ) [] 62 [] := by
  unfold Mod_upper_b62 at hf
  refine gw_sipush hC 924 d_Mod_upper_62 (by decide) ?_
  refine gw_goto hC 69 d_Mod_upper_65 (by decide) ?_
  exact Mod_upper_p69 ao aa hC N _ _ _ _ hf
def Mod_upper_b55 (N : Nat) (x0 : Int32) (σ : g_S) : Option (Int32 × g_S) := if x0 = 181 then Mod_upper_b62 N σ else Mod_upper_b68 N x0 σ
theorem Mod_upper_p55 (ao aa : Nat → Nat) {X : g_X} (hC : gC X c_Mod_upper R_Mod 1 22 1 (some .int)) (N : Nat) (x0 : Int32) (σ : g_S) (r : Int32) (σe : g_S) (hf : Mod_upper_b55 N x0 σ = some (r, σe)) : gw X (.inl (some (.int r))) (LM ao aa X.2.2.1 σe) (LM ao aa X.2.2.1 σ) [(0, .int x0)] 55 [] := by
  unfold Mod_upper_b55 at hf
  refine gw_iload_n hC 0 d_Mod_upper_55 rfl rfl ?_
  refine gw_sipush hC 181 d_Mod_upper_56 (by decide) ?_
  refine gw_icmp_ne hC 68 d_Mod_upper_59 (by decide) (fun hh => ?_) (fun hh => ?_)
  · rw [if_neg hh] at hf
    exact Mod_upper_p68 ao aa hC N _ _ _ _ hf
  · rw [if_pos hh] at hf
    refine gw_lv [] rfl ?_
    exact Mod_upper_p62 ao aa hC N _ _ _ hf
def Mod_upper_b49 (N : Nat) (σ : g_S) : Option (Int32 × g_S) := Mod_upper_b69 N 376 σ
theorem Mod_upper_p49 (ao aa : Nat → Nat) {X : g_X} (hC : gC X c_Mod_upper R_Mod 1 22 1 (some .int)) (N : Nat) (σ : g_S) (r : Int32) (σe : g_S) (hf : Mod_upper_b49 N σ = some (r, σe)) : gw X (.inl (some (.int r))) (LM ao aa X.2.2.1 σe) (LM ao aa X.2.2.1 σ) [] 49 [] := by
  unfold Mod_upper_b49 at hf
  refine gw_sipush hC 376 d_Mod_upper_49 (by decide) ?_
  refine gw_goto hC 69 d_Mod_upper_52 (by decide) ?_
  exact Mod_upper_p69 ao aa hC N _ _ _ _ hf
def Mod_upper_b42 (N : Nat) (x0 : Int32) (σ : g_S) : Option (Int32 × g_S) := if x0 = 255 then Mod_upper_b49 N σ else Mod_upper_b55 N x0 σ
theorem Mod_upper_p42 (ao aa : Nat → Nat) {X : g_X} (hC : gC X c_Mod_upper R_Mod 1 22 1 (some .int)) (N : Nat) (x0 : Int32) (σ : g_S) (r : Int32) (σe : g_S) (hf : Mod_upper_b42 N x0 σ = some (r, σe)) : gw X (.inl (some (.int r))) (LM ao aa X.2.2.1 σe) (LM ao aa X.2.2.1 σ) [(0, .int x0)] 42 [] := by
  unfold Mod_upper_b42 at hf
  refine gw_iload_n hC 0 d_Mod_upper_42 rfl rfl ?_
  refine gw_sipush hC 255 d_Mod_upper_43 (by decide) ?_
  refine gw_icmp_ne hC 55 d_Mod_upper_46 (by decide) (fun hh => ?_) (fun hh => ?_)
  · rw [if_neg hh] at hf
    exact Mod_upper_p55 ao aa hC N _ _ _ _ hf
  · rw [if_pos hh] at hf
    refine gw_lv [] rfl ?_
    exact Mod_upper_p49 ao aa hC N _ _ _ hf
def Mod_upper_b24 (N : Nat) (x0 : Int32) (σ : g_S) : Option (Int32 × g_S) := (Mod_in N x0 248 254 σ).bind fun q31 => if q31.1 = 0 then Mod_upper_b42 N x0 q31.2 else Mod_upper_b37 N x0 q31.2
theorem Mod_upper_p24 (ao aa : Nat → Nat) {X : g_X} (hC : gC X c_Mod_upper R_Mod 1 22 1 (some .int)) (N : Nat) (x0 : Int32) (σ : g_S) (r : Int32) (σe : g_S) (hf : Mod_upper_b24 N x0 σ = some (r, σe)) : gw X (.inl (some (.int r))) (LM ao aa X.2.2.1 σe) (LM ao aa X.2.2.1 σ) [(0, .int x0)] 24 [] := by
  unfold Mod_upper_b24 at hf
  refine gw_iload_n hC 0 d_Mod_upper_24 rfl rfl ?_
  refine gw_sipush hC 248 d_Mod_upper_25 (by decide) ?_
  refine gw_sipush hC 254 d_Mod_upper_28 (by decide) ?_
  obtain ⟨q31, hq31, hf⟩ := g_bind hf
  refine gw_callS hC [.int x0, .int 248, .int 254] [] (Mod_in_m _ _ _ ao aa N _ _ _ _ _ _ hq31) kc_Mod_103 ⟨by decide, by decide⟩ (Nat.le_of_ble_eq_true rfl) [.int 254, .int 248, .int x0] [.int q31.1] rfl rfl d_Mod_upper_31 ?_
  refine gw_if_eq hC 42 d_Mod_upper_34 (by decide) (fun hh => ?_) (fun hh => ?_)
  · rw [if_pos hh] at hf
    exact Mod_upper_p42 ao aa hC N _ _ _ _ hf
  · rw [if_neg hh] at hf
    exact Mod_upper_p37 ao aa hC N _ _ _ _ hf
def Mod_upper_b11 (N : Nat) (x0 : Int32) (σ : g_S) : Option (Int32 × g_S) := (Mod_in N x0 224 246 σ).bind fun q18 => if q18.1 = 0 then Mod_upper_b24 N x0 q18.2 else Mod_upper_b37 N x0 q18.2
theorem Mod_upper_p11 (ao aa : Nat → Nat) {X : g_X} (hC : gC X c_Mod_upper R_Mod 1 22 1 (some .int)) (N : Nat) (x0 : Int32) (σ : g_S) (r : Int32) (σe : g_S) (hf : Mod_upper_b11 N x0 σ = some (r, σe)) : gw X (.inl (some (.int r))) (LM ao aa X.2.2.1 σe) (LM ao aa X.2.2.1 σ) [(0, .int x0)] 11 [] := by
  unfold Mod_upper_b11 at hf
  refine gw_iload_n hC 0 d_Mod_upper_11 rfl rfl ?_
  refine gw_sipush hC 224 d_Mod_upper_12 (by decide) ?_
  refine gw_sipush hC 246 d_Mod_upper_15 (by decide) ?_
  obtain ⟨q18, hq18, hf⟩ := g_bind hf
  refine gw_callS hC [.int x0, .int 224, .int 246] [] (Mod_in_m _ _ _ ao aa N _ _ _ _ _ _ hq18) kc_Mod_103 ⟨by decide, by decide⟩ (Nat.le_of_ble_eq_true rfl) [.int 246, .int 224, .int x0] [.int q18.1] rfl rfl d_Mod_upper_18 ?_
  refine gw_if_ne hC 37 d_Mod_upper_21 (by decide) (fun hh => ?_) (fun hh => ?_)
  · rw [if_neg hh] at hf
    exact Mod_upper_p37 ao aa hC N _ _ _ _ hf
  · rw [if_pos hh] at hf
    exact Mod_upper_p24 ao aa hC N _ _ _ _ hf
def Mod_upper_b0 (N : Nat) (x0 : Int32) (σ : g_S) : Option (Int32 × g_S) := (Mod_in N x0 97 122 σ).bind fun q5 => if q5.1 = 0 then Mod_upper_b11 N x0 q5.2 else Mod_upper_b37 N x0 q5.2
theorem Mod_upper_p0 (ao aa : Nat → Nat) {X : g_X} (hC : gC X c_Mod_upper R_Mod 1 22 1 (some .int)) (N : Nat) (x0 : Int32) (σ : g_S) (r : Int32) (σe : g_S) (hf : Mod_upper_b0 N x0 σ = some (r, σe)) : gw X (.inl (some (.int r))) (LM ao aa X.2.2.1 σe) (LM ao aa X.2.2.1 σ) [(0, .int x0)] 0 [] := by
  unfold Mod_upper_b0 at hf
  refine gw_iload_n hC 0 d_Mod_upper_0 rfl rfl ?_
  refine gw_bipush hC 97 d_Mod_upper_1 (by decide) ?_
  refine gw_bipush hC 122 d_Mod_upper_3 (by decide) ?_
  obtain ⟨q5, hq5, hf⟩ := g_bind hf
  refine gw_callS hC [.int x0, .int 97, .int 122] [] (Mod_in_m _ _ _ ao aa N _ _ _ _ _ _ hq5) kc_Mod_103 ⟨by decide, by decide⟩ (Nat.le_of_ble_eq_true rfl) [.int 122, .int 97, .int x0] [.int q5.1] rfl rfl d_Mod_upper_5 ?_
  refine gw_if_ne hC 37 d_Mod_upper_8 (by decide) (fun hh => ?_) (fun hh => ?_)
  · rw [if_neg hh] at hf
    exact Mod_upper_p37 ao aa hC N _ _ _ _ hf
  · rw [if_pos hh] at hf
    exact Mod_upper_p11 ao aa hC N _ _ _ _ hf
def Mod_upper (N : Nat) (x0 : Int32) (σ : g_S) : Option (Int32 × g_S) := Mod_upper_b0 N x0 σ
theorem Mod_upper_m (l : Launch) (D : va_G) (cA : ClassId) (ao aa : Nat → Nat) (N : Nat) (x0 : Int32) (σ : g_S) (r : Int32) (σe : g_S) (hf : Mod_upper N x0 σ = some (r, σe)) : Mt l D cA y_Mod_upper c_Mod_upper 1 (some .int) 1 22 [.int x0] (LM ao aa cA σ) (some (.int r)) (LM ao aa cA σe) := by
  refine g_met (by decide +kernel) (by simp [lg_sl, Value.category]) (fun X e1 e2 e3 hC => ?_)
  subst e1 e2 e3
  refine gw_lv [0] rfl ?_
  exact Mod_upper_p0 ao aa hC N _ _ (r) _ hf
def Mod_sixteen_b57 (N : Nat) (s0 : Int32) (σ : g_S) : Option (Int32 × g_S) := some (s0, σ)
theorem Mod_sixteen_p57 (ao aa : Nat → Nat) {X : g_X} (hC : gC X c_Mod_sixteen R_Mod 2 42 1 (some .int)) (N : Nat) (s0 : Int32) (σ : g_S) (r : Int32) (σe : g_S) (hf : Mod_sixteen_b57 N s0 σ = some (r, σe)) : gw X (.inl (some (.int r))) (LM ao aa X.2.2.1 σe) (LM ao aa X.2.2.1 σ) [] 57 [.int s0] := by
  unfold Mod_sixteen_b57 at hf
  cases hf
  exact gw_iret hC d_Mod_sixteen_57
def Mod_sixteen_b56 (N : Nat) (σ : g_S) : Option (Int32 × g_S) := Mod_sixteen_b57 N (-1) σ
theorem Mod_sixteen_p56 (ao aa : Nat → Nat) {X : g_X} (hC : gC X c_Mod_sixteen R_Mod 2 42 1 (some .int)) (N : Nat) (σ : g_S) (r : Int32) (σe : g_S) (hf : Mod_sixteen_b56 N σ = some (r, σe)) : gw X (.inl (some (.int r))) (LM ao aa X.2.2.1 σe) (LM ao aa X.2.2.1 σ) [] 56 [] := by
  unfold Mod_sixteen_b56 at hf
  refine gw_iconst hC (-1) d_Mod_sixteen_56 (by decide) ?_
  exact Mod_sixteen_p57 ao aa hC N _ _ _ _ hf
def Mod_sixteen_b46 (N : Nat) (x0 : Int32) (σ : g_S) : Option (Int32 × g_S) := Mod_sixteen_b57 N ((x0 - 65) + 10) σ
theorem Mod_sixteen_p46 (ao aa : Nat → Nat) {X : g_X} (hC : gC X c_Mod_sixteen R_Mod 2 42 1 (some .int)) (N : Nat) (x0 : Int32) (σ : g_S) (r : Int32) (σe : g_S) (hf : Mod_sixteen_b46 N x0 σ = some (r, σe)) : gw X (.inl (some (.int r))) (LM ao aa X.2.2.1 σe) (LM ao aa X.2.2.1 σ) [(0, .int x0)] 46 [] := by
  unfold Mod_sixteen_b46 at hf
  refine gw_iload_n hC 0 d_Mod_sixteen_46 rfl rfl ?_
  refine gw_bipush hC 65 d_Mod_sixteen_47 (by decide) ?_
  refine gw_isub hC d_Mod_sixteen_49 ?_
  refine gw_bipush hC 10 d_Mod_sixteen_50 (by decide) ?_
  refine gw_iadd hC d_Mod_sixteen_52 ?_
  refine gw_goto hC 57 d_Mod_sixteen_53 (by decide) ?_
  refine gw_lv [] rfl ?_
  exact Mod_sixteen_p57 ao aa hC N _ _ _ _ hf
def Mod_sixteen_b35 (N : Nat) (x0 : Int32) (σ : g_S) : Option (Int32 × g_S) := (Mod_in N x0 65 70 σ).bind fun q40 => if q40.1 = 0 then Mod_sixteen_b56 N q40.2 else Mod_sixteen_b46 N x0 q40.2
theorem Mod_sixteen_p35 (ao aa : Nat → Nat) {X : g_X} (hC : gC X c_Mod_sixteen R_Mod 2 42 1 (some .int)) (N : Nat) (x0 : Int32) (σ : g_S) (r : Int32) (σe : g_S) (hf : Mod_sixteen_b35 N x0 σ = some (r, σe)) : gw X (.inl (some (.int r))) (LM ao aa X.2.2.1 σe) (LM ao aa X.2.2.1 σ) [(0, .int x0)] 35 [] := by
  unfold Mod_sixteen_b35 at hf
  refine gw_iload_n hC 0 d_Mod_sixteen_35 rfl rfl ?_
  refine gw_bipush hC 65 d_Mod_sixteen_36 (by decide) ?_
  refine gw_bipush hC 70 d_Mod_sixteen_38 (by decide) ?_
  obtain ⟨q40, hq40, hf⟩ := g_bind hf
  refine gw_callS hC [.int x0, .int 65, .int 70] [] (Mod_in_m _ _ _ ao aa N _ _ _ _ _ _ hq40) kc_Mod_103 ⟨by decide, by decide⟩ (Nat.le_of_ble_eq_true rfl) [.int 70, .int 65, .int x0] [.int q40.1] rfl rfl d_Mod_sixteen_40 ?_
  refine gw_if_eq hC 56 d_Mod_sixteen_43 (by decide) (fun hh => ?_) (fun hh => ?_)
  · rw [if_pos hh] at hf
    refine gw_lv [] rfl ?_
    exact Mod_sixteen_p56 ao aa hC N _ _ _ hf
  · rw [if_neg hh] at hf
    exact Mod_sixteen_p46 ao aa hC N _ _ _ _ hf
def Mod_sixteen_b25 (N : Nat) (x0 : Int32) (σ : g_S) : Option (Int32 × g_S) := Mod_sixteen_b57 N ((x0 - 97) + 10) σ
theorem Mod_sixteen_p25 (ao aa : Nat → Nat) {X : g_X} (hC : gC X c_Mod_sixteen R_Mod 2 42 1 (some .int)) (N : Nat) (x0 : Int32) (σ : g_S) (r : Int32) (σe : g_S) (hf : Mod_sixteen_b25 N x0 σ = some (r, σe)) : gw X (.inl (some (.int r))) (LM ao aa X.2.2.1 σe) (LM ao aa X.2.2.1 σ) [(0, .int x0)] 25 [] := by
  unfold Mod_sixteen_b25 at hf
  refine gw_iload_n hC 0 d_Mod_sixteen_25 rfl rfl ?_
  refine gw_bipush hC 97 d_Mod_sixteen_26 (by decide) ?_
  refine gw_isub hC d_Mod_sixteen_28 ?_
  refine gw_bipush hC 10 d_Mod_sixteen_29 (by decide) ?_
  refine gw_iadd hC d_Mod_sixteen_31 ?_
  refine gw_goto hC 57 d_Mod_sixteen_32 (by decide) ?_
  refine gw_lv [] rfl ?_
  exact Mod_sixteen_p57 ao aa hC N _ _ _ _ hf
def Mod_sixteen_b14 (N : Nat) (x0 : Int32) (σ : g_S) : Option (Int32 × g_S) := (Mod_in N x0 97 102 σ).bind fun q19 => if q19.1 = 0 then Mod_sixteen_b35 N x0 q19.2 else Mod_sixteen_b25 N x0 q19.2
theorem Mod_sixteen_p14 (ao aa : Nat → Nat) {X : g_X} (hC : gC X c_Mod_sixteen R_Mod 2 42 1 (some .int)) (N : Nat) (x0 : Int32) (σ : g_S) (r : Int32) (σe : g_S) (hf : Mod_sixteen_b14 N x0 σ = some (r, σe)) : gw X (.inl (some (.int r))) (LM ao aa X.2.2.1 σe) (LM ao aa X.2.2.1 σ) [(0, .int x0)] 14 [] := by
  unfold Mod_sixteen_b14 at hf
  refine gw_iload_n hC 0 d_Mod_sixteen_14 rfl rfl ?_
  refine gw_bipush hC 97 d_Mod_sixteen_15 (by decide) ?_
  refine gw_bipush hC 102 d_Mod_sixteen_17 (by decide) ?_
  obtain ⟨q19, hq19, hf⟩ := g_bind hf
  refine gw_callS hC [.int x0, .int 97, .int 102] [] (Mod_in_m _ _ _ ao aa N _ _ _ _ _ _ hq19) kc_Mod_103 ⟨by decide, by decide⟩ (Nat.le_of_ble_eq_true rfl) [.int 102, .int 97, .int x0] [.int q19.1] rfl rfl d_Mod_sixteen_19 ?_
  refine gw_if_eq hC 35 d_Mod_sixteen_22 (by decide) (fun hh => ?_) (fun hh => ?_)
  · rw [if_pos hh] at hf
    exact Mod_sixteen_p35 ao aa hC N _ _ _ _ hf
  · rw [if_neg hh] at hf
    exact Mod_sixteen_p25 ao aa hC N _ _ _ _ hf
def Mod_sixteen_b7 (N : Nat) (x0 : Int32) (σ : g_S) : Option (Int32 × g_S) := Mod_sixteen_b57 N (x0 - 48) σ
theorem Mod_sixteen_p7 (ao aa : Nat → Nat) {X : g_X} (hC : gC X c_Mod_sixteen R_Mod 2 42 1 (some .int)) (N : Nat) (x0 : Int32) (σ : g_S) (r : Int32) (σe : g_S) (hf : Mod_sixteen_b7 N x0 σ = some (r, σe)) : gw X (.inl (some (.int r))) (LM ao aa X.2.2.1 σe) (LM ao aa X.2.2.1 σ) [(0, .int x0)] 7 [] := by
  unfold Mod_sixteen_b7 at hf
  refine gw_iload_n hC 0 d_Mod_sixteen_7 rfl rfl ?_
  refine gw_bipush hC 48 d_Mod_sixteen_8 (by decide) ?_
  refine gw_isub hC d_Mod_sixteen_10 ?_
  refine gw_goto hC 57 d_Mod_sixteen_11 (by decide) ?_
  refine gw_lv [] rfl ?_
  exact Mod_sixteen_p57 ao aa hC N _ _ _ _ hf
def Mod_sixteen_b0 (N : Nat) (x0 : Int32) (σ : g_S) : Option (Int32 × g_S) := (Mod_isDigit N x0 σ).bind fun q1 => if q1.1 = 0 then Mod_sixteen_b14 N x0 q1.2 else Mod_sixteen_b7 N x0 q1.2
theorem Mod_sixteen_p0 (ao aa : Nat → Nat) {X : g_X} (hC : gC X c_Mod_sixteen R_Mod 2 42 1 (some .int)) (N : Nat) (x0 : Int32) (σ : g_S) (r : Int32) (σe : g_S) (hf : Mod_sixteen_b0 N x0 σ = some (r, σe)) : gw X (.inl (some (.int r))) (LM ao aa X.2.2.1 σe) (LM ao aa X.2.2.1 σ) [(0, .int x0)] 0 [] := by
  unfold Mod_sixteen_b0 at hf
  refine gw_iload_n hC 0 d_Mod_sixteen_0 rfl rfl ?_
  obtain ⟨q1, hq1, hf⟩ := g_bind hf
  refine gw_callS hC [.int x0] [] (Mod_isDigit_m _ _ _ ao aa N _ _ _ _ hq1) kc_Mod_116 ⟨by decide, by decide⟩ (Nat.le_of_ble_eq_true rfl) [.int x0] [.int q1.1] rfl rfl d_Mod_sixteen_1 ?_
  refine gw_if_eq hC 14 d_Mod_sixteen_4 (by decide) (fun hh => ?_) (fun hh => ?_)
  · rw [if_pos hh] at hf
    exact Mod_sixteen_p14 ao aa hC N _ _ _ _ hf
  · rw [if_neg hh] at hf
    exact Mod_sixteen_p7 ao aa hC N _ _ _ _ hf
def Mod_sixteen (N : Nat) (x0 : Int32) (σ : g_S) : Option (Int32 × g_S) := Mod_sixteen_b0 N x0 σ
theorem Mod_sixteen_m (l : Launch) (D : va_G) (cA : ClassId) (ao aa : Nat → Nat) (N : Nat) (x0 : Int32) (σ : g_S) (r : Int32) (σe : g_S) (hf : Mod_sixteen N x0 σ = some (r, σe)) : Mt l D cA y_Mod_sixteen c_Mod_sixteen 1 (some .int) 2 42 [.int x0] (LM ao aa cA σ) (some (.int r)) (LM ao aa cA σe) := by
  refine g_met (by decide +kernel) (by simp [lg_sl, Value.category]) (fun X e1 e2 e3 hC => ?_)
  subst e1 e2 e3
  refine gw_lv [0] rfl ?_
  exact Mod_sixteen_p0 ao aa hC N _ _ (r) _ hf
def Mod_see_b28 (N : Nat) (s0 : Int32) (σ : g_S) : Option (Int32 × g_S) := some (s0, σ)
theorem Mod_see_p28 (ao aa : Nat → Nat) {X : g_X} (hC : gC X c_Mod_see R_Mod 0 0 2 (some .int)) (N : Nat) (s0 : Int32) (σ : g_S) (r : Int32) (σe : g_S) (hf : Mod_see_b28 N s0 σ = some (r, σe)) : gw X (.inl (some (.int r))) (LM ao aa X.2.2.1 σe) (LM ao aa X.2.2.1 σ) [(0, .ref (ao 0))] 28 [.int s0] := by
  unfold Mod_see_b28 at hf
  cases hf
  exact gw_iret hC d_Mod_see_28
def Mod_see_b27 (N : Nat) (σ : g_S) : Option (Int32 × g_S) := Mod_see_b28 N (-1) σ
theorem Mod_see_p27 (ao aa : Nat → Nat) {X : g_X} (hC : gC X c_Mod_see R_Mod 0 0 2 (some .int)) (N : Nat) (σ : g_S) (r : Int32) (σe : g_S) (hf : Mod_see_b27 N σ = some (r, σe)) : gw X (.inl (some (.int r))) (LM ao aa X.2.2.1 σe) (LM ao aa X.2.2.1 σ) [(0, .ref (ao 0))] 27 [] := by
  unfold Mod_see_b27 at hf
  refine gw_iconst hC (-1) d_Mod_see_27 (by decide) ?_
  exact Mod_see_p28 ao aa hC N _ _ _ _ hf
def Mod_see_b13 (N : Nat) (x1 : Int32) (σ : g_S) : Option (Int32 × g_S) := if gIn ((σ.1 11) + x1) 200 = true then Mod_see_b28 N (σ.2 1 (((σ.1 11) + x1)).toNatClampNeg) σ else none
theorem Mod_see_p13 (ao aa : Nat → Nat) {X : g_X} (hC : gC X c_Mod_see R_Mod 0 0 2 (some .int)) (N : Nat) (x1 : Int32) (σ : g_S) (r : Int32) (σe : g_S) (hf : Mod_see_b13 N x1 σ = some (r, σe)) : gw X (.inl (some (.int r))) (LM ao aa X.2.2.1 σe) (LM ao aa X.2.2.1 σ) [(0, .ref (ao 0)), (1, .int x1)] 13 [] := by
  unfold Mod_see_b13 at hf
  refine gw_aload_n hC 0 d_Mod_see_13 rfl rfl ?_
  refine Mr_Mod_pattern hC kf_Mod_13 d_Mod_see_14 ?_
  refine gw_aload_n hC 0 d_Mod_see_17 rfl rfl ?_
  refine Mg11 hC kf_Mod_129 d_Mod_see_18 (σ.1 11) rfl ?_
  refine gw_iload_n hC 1 d_Mod_see_21 rfl rfl ?_
  refine gw_iadd hC d_Mod_see_22 ?_
  obtain ⟨hg23, hf⟩ := g_guard hf
  refine Mald (j := 1) hC (by decide) hg23 d_Mod_see_23 (σ.2 1 (((σ.1 11) + x1)).toNatClampNeg) rfl ?_
  refine gw_goto hC 28 d_Mod_see_24 (by decide) ?_
  refine gw_lv [0] rfl ?_
  exact Mod_see_p28 ao aa hC N _ _ _ _ hf
def Mod_see_b0 (N : Nat) (x1 : Int32) (σ : g_S) : Option (Int32 × g_S) := if (σ.1 2) ≤ ((σ.1 11) + x1) then Mod_see_b27 N σ else Mod_see_b13 N x1 σ
theorem Mod_see_p0 (ao aa : Nat → Nat) {X : g_X} (hC : gC X c_Mod_see R_Mod 0 0 2 (some .int)) (N : Nat) (x1 : Int32) (σ : g_S) (r : Int32) (σe : g_S) (hf : Mod_see_b0 N x1 σ = some (r, σe)) : gw X (.inl (some (.int r))) (LM ao aa X.2.2.1 σe) (LM ao aa X.2.2.1 σ) [(0, .ref (ao 0)), (1, .int x1)] 0 [] := by
  unfold Mod_see_b0 at hf
  refine gw_aload_n hC 0 d_Mod_see_0 rfl rfl ?_
  refine Mg11 hC kf_Mod_129 d_Mod_see_1 (σ.1 11) rfl ?_
  refine gw_iload_n hC 1 d_Mod_see_4 rfl rfl ?_
  refine gw_iadd hC d_Mod_see_5 ?_
  refine gw_aload_n hC 0 d_Mod_see_6 rfl rfl ?_
  refine Mg2 hC kf_Mod_132 d_Mod_see_7 (σ.1 2) rfl ?_
  refine gw_icmp_ge hC 27 d_Mod_see_10 (by decide) (fun hh => ?_) (fun hh => ?_)
  · rw [if_pos hh] at hf
    refine gw_lv [0] rfl ?_
    exact Mod_see_p27 ao aa hC N _ _ _ hf
  · rw [if_neg hh] at hf
    exact Mod_see_p13 ao aa hC N _ _ _ _ hf
def Mod_see (N : Nat) (x1 : Int32) (σ : g_S) : Option (Int32 × g_S) := Mod_see_b0 N x1 σ
theorem Mod_see_m (l : Launch) (D : va_G) (cA : ClassId) (ao aa : Nat → Nat) (N : Nat) (x1 : Int32) (σ : g_S) (r : Int32) (σe : g_S) (hf : Mod_see N x1 σ = some (r, σe)) : Mt l D cA y_Mod_see c_Mod_see 2 (some .int) 0 0 [.ref (ao 0), .int x1] (LM ao aa cA σ) (some (.int r)) (LM ao aa cA σe) := by
  refine g_met (by decide +kernel) (by simp [lg_sl, Value.category]) (fun X e1 e2 e3 hC => ?_)
  subst e1 e2 e3
  refine gw_lv [0, 1] rfl ?_
  exact Mod_see_p0 ao aa hC N _ _ (r) _ hf
def Mod_fail_b12 (N : Nat) (σ : g_S) : Option (Int32 × g_S) := some (0, σ)
theorem Mod_fail_p12 (ao aa : Nat → Nat) {X : g_X} (hC : gC X c_Mod_fail R_Mod 0 0 2 none) (N : Nat) (σ : g_S) (r : Int32) (σe : g_S) (hf : Mod_fail_b12 N σ = some (r, σe)) : gw X (.inl none) (LM ao aa X.2.2.1 σe) (LM ao aa X.2.2.1 σ) [(0, .ref (ao 0))] 12 [] := by
  unfold Mod_fail_b12 at hf
  cases hf
  exact gw_vret hC d_Mod_fail_12
def Mod_fail_b7 (N : Nat) (x1 : Int32) (σ : g_S) : Option (Int32 × g_S) := Mod_fail_b12 N (gF σ 12 x1)
theorem Mod_fail_p7 (ao aa : Nat → Nat) {X : g_X} (hC : gC X c_Mod_fail R_Mod 0 0 2 none) (N : Nat) (x1 : Int32) (σ : g_S) (r : Int32) (σe : g_S) (hf : Mod_fail_b7 N x1 σ = some (r, σe)) : gw X (.inl none) (LM ao aa X.2.2.1 σe) (LM ao aa X.2.2.1 σ) [(0, .ref (ao 0)), (1, .int x1)] 7 [] := by
  unfold Mod_fail_b7 at hf
  refine gw_aload_n hC 0 d_Mod_fail_7 rfl rfl ?_
  refine gw_iload_n hC 1 d_Mod_fail_8 rfl rfl ?_
  refine Mp12 hC kf_Mod_135 d_Mod_fail_9 ?_
  refine gw_lv [0] rfl ?_
  exact Mod_fail_p12 ao aa hC N _ _ _ hf
def Mod_fail_b0 (N : Nat) (x1 : Int32) (σ : g_S) : Option (Int32 × g_S) := if 0 ≤ (σ.1 12) then Mod_fail_b12 N σ else Mod_fail_b7 N x1 σ
theorem Mod_fail_p0 (ao aa : Nat → Nat) {X : g_X} (hC : gC X c_Mod_fail R_Mod 0 0 2 none) (N : Nat) (x1 : Int32) (σ : g_S) (r : Int32) (σe : g_S) (hf : Mod_fail_b0 N x1 σ = some (r, σe)) : gw X (.inl none) (LM ao aa X.2.2.1 σe) (LM ao aa X.2.2.1 σ) [(0, .ref (ao 0)), (1, .int x1)] 0 [] := by
  unfold Mod_fail_b0 at hf
  refine gw_aload_n hC 0 d_Mod_fail_0 rfl rfl ?_
  refine Mg12 hC kf_Mod_135 d_Mod_fail_1 (σ.1 12) rfl ?_
  refine gw_if_ge hC 12 d_Mod_fail_4 (by decide) (fun hh => ?_) (fun hh => ?_)
  · rw [if_pos hh] at hf
    refine gw_lv [0] rfl ?_
    exact Mod_fail_p12 ao aa hC N _ _ _ hf
  · rw [if_neg hh] at hf
    exact Mod_fail_p7 ao aa hC N _ _ _ _ hf
def Mod_fail (N : Nat) (x1 : Int32) (σ : g_S) : Option (Int32 × g_S) := Mod_fail_b0 N x1 σ
theorem Mod_fail_m (l : Launch) (D : va_G) (cA : ClassId) (ao aa : Nat → Nat) (N : Nat) (x1 : Int32) (σ : g_S) (r : Int32) (σe : g_S) (hf : Mod_fail N x1 σ = some (r, σe)) : Mt l D cA y_Mod_fail c_Mod_fail 2 none 0 0 [.ref (ao 0), .int x1] (LM ao aa cA σ) none (LM ao aa cA σe) := by
  refine g_met (by decide +kernel) (by simp [lg_sl, Value.category]) (fun X e1 e2 e3 hC => ?_)
  subst e1 e2 e3
  refine gw_lv [0, 1] rfl ?_
  exact Mod_fail_p0 ao aa hC N _ _ (r) _ hf
def Mod_node_b0 (N : Nat) (x1 : Int32) (x2 : Int32) (x3 : Int32) (x4 : Int32) (σ : g_S) : Option (Int32 × g_S) := if gIn (σ.1 8) 1300 = true then some ((((σ.1 8) + 1) - 1), (gF (gA (gA (gA (gA (gA (gA (gA (gA (gA σ 3 ((σ.1 8)).toNatClampNeg x1) 4 ((σ.1 8)).toNatClampNeg x2) 5 ((σ.1 8)).toNatClampNeg x3) 6 ((σ.1 8)).toNatClampNeg x4) 7 ((σ.1 8)).toNatClampNeg (-1)) 8 ((σ.1 8)).toNatClampNeg (-1)) 9 ((σ.1 8)).toNatClampNeg (-1)) 10 ((σ.1 8)).toNatClampNeg (σ.1 9)) 11 ((σ.1 8)).toNatClampNeg (σ.1 9)) 8 ((σ.1 8) + 1))) else none
theorem Mod_node_p0 (ao aa : Nat → Nat) {X : g_X} (hC : gC X c_Mod_node R_Mod 0 0 5 (some .int)) (N : Nat) (x1 : Int32) (x2 : Int32) (x3 : Int32) (x4 : Int32) (σ : g_S) (r : Int32) (σe : g_S) (hf : Mod_node_b0 N x1 x2 x3 x4 σ = some (r, σe)) : gw X (.inl (some (.int r))) (LM ao aa X.2.2.1 σe) (LM ao aa X.2.2.1 σ) [(0, .ref (ao 0)), (1, .int x1), (2, .int x2), (3, .int x3), (4, .int x4)] 0 [] := by
  unfold Mod_node_b0 at hf
  refine gw_aload_n hC 0 d_Mod_node_0 rfl rfl ?_
  refine Mr_Mod_kind hC kf_Mod_23 d_Mod_node_1 ?_
  refine gw_aload_n hC 0 d_Mod_node_4 rfl rfl ?_
  refine Mg8 hC kf_Mod_138 d_Mod_node_5 (σ.1 8) rfl ?_
  refine gw_iload_n hC 1 d_Mod_node_8 rfl rfl ?_
  obtain ⟨hg9, hf⟩ := g_guard hf
  refine Mast (j := 3) hC (by decide) hg9 d_Mod_node_9 ?_
  refine gw_aload_n hC 0 d_Mod_node_10 rfl rfl ?_
  refine Mr_Mod_a hC kf_Mod_26 d_Mod_node_11 ?_
  refine gw_aload_n hC 0 d_Mod_node_14 rfl rfl ?_
  refine Mg8 hC kf_Mod_138 d_Mod_node_15 (σ.1 8) rfl ?_
  refine gw_iload_n hC 2 d_Mod_node_18 rfl rfl ?_
  refine Mast (j := 4) hC (by decide) hg9 d_Mod_node_19 ?_
  refine gw_aload_n hC 0 d_Mod_node_20 rfl rfl ?_
  refine Mr_Mod_b hC kf_Mod_29 d_Mod_node_21 ?_
  refine gw_aload_n hC 0 d_Mod_node_24 rfl rfl ?_
  refine Mg8 hC kf_Mod_138 d_Mod_node_25 (σ.1 8) rfl ?_
  refine gw_iload_n hC 3 d_Mod_node_28 rfl rfl ?_
  refine Mast (j := 5) hC (by decide) hg9 d_Mod_node_29 ?_
  refine gw_aload_n hC 0 d_Mod_node_30 rfl rfl ?_
  refine Mr_Mod_c hC kf_Mod_32 d_Mod_node_31 ?_
  refine gw_aload_n hC 0 d_Mod_node_34 rfl rfl ?_
  refine Mg8 hC kf_Mod_138 d_Mod_node_35 (σ.1 8) rfl ?_
  refine gw_iload hC 4 d_Mod_node_38 rfl ?_
  refine Mast (j := 6) hC (by decide) hg9 d_Mod_node_40 ?_
  refine gw_aload_n hC 0 d_Mod_node_41 rfl rfl ?_
  refine Mr_Mod_first hC kf_Mod_35 d_Mod_node_42 ?_
  refine gw_aload_n hC 0 d_Mod_node_45 rfl rfl ?_
  refine Mg8 hC kf_Mod_138 d_Mod_node_46 (σ.1 8) rfl ?_
  refine gw_iconst hC (-1) d_Mod_node_49 (by decide) ?_
  refine Mast (j := 7) hC (by decide) hg9 d_Mod_node_50 ?_
  refine gw_aload_n hC 0 d_Mod_node_51 rfl rfl ?_
  refine Mr_Mod_latest hC kf_Mod_38 d_Mod_node_52 ?_
  refine gw_aload_n hC 0 d_Mod_node_55 rfl rfl ?_
  refine Mg8 hC kf_Mod_138 d_Mod_node_56 (σ.1 8) rfl ?_
  refine gw_iconst hC (-1) d_Mod_node_59 (by decide) ?_
  refine Mast (j := 8) hC (by decide) hg9 d_Mod_node_60 ?_
  refine gw_aload_n hC 0 d_Mod_node_61 rfl rfl ?_
  refine Mr_Mod_behind hC kf_Mod_41 d_Mod_node_62 ?_
  refine gw_aload_n hC 0 d_Mod_node_65 rfl rfl ?_
  refine Mg8 hC kf_Mod_138 d_Mod_node_66 (σ.1 8) rfl ?_
  refine gw_iconst hC (-1) d_Mod_node_69 (by decide) ?_
  refine Mast (j := 9) hC (by decide) hg9 d_Mod_node_70 ?_
  refine gw_aload_n hC 0 d_Mod_node_71 rfl rfl ?_
  refine Mr_Mod_groupFrom hC kf_Mod_44 d_Mod_node_72 ?_
  refine gw_aload_n hC 0 d_Mod_node_75 rfl rfl ?_
  refine Mg8 hC kf_Mod_138 d_Mod_node_76 (σ.1 8) rfl ?_
  refine gw_aload_n hC 0 d_Mod_node_79 rfl rfl ?_
  refine Mg9 hC kf_Mod_141 d_Mod_node_80 (σ.1 9) rfl ?_
  refine Mast (j := 10) hC (by decide) hg9 d_Mod_node_83 ?_
  refine gw_aload_n hC 0 d_Mod_node_84 rfl rfl ?_
  refine Mr_Mod_groupTo hC kf_Mod_47 d_Mod_node_85 ?_
  refine gw_aload_n hC 0 d_Mod_node_88 rfl rfl ?_
  refine Mg8 hC kf_Mod_138 d_Mod_node_89 (σ.1 8) rfl ?_
  refine gw_aload_n hC 0 d_Mod_node_92 rfl rfl ?_
  refine Mg9 hC kf_Mod_141 d_Mod_node_93 (σ.1 9) rfl ?_
  refine Mast (j := 11) hC (by decide) hg9 d_Mod_node_96 ?_
  refine gw_aload_n hC 0 d_Mod_node_97 rfl rfl ?_
  refine gw_dup hC d_Mod_node_98 rfl ?_
  refine Mg8 hC kf_Mod_138 d_Mod_node_99 (σ.1 8) rfl ?_
  refine gw_iconst hC 1 d_Mod_node_102 (by decide) ?_
  refine gw_iadd hC d_Mod_node_103 ?_
  refine Mp8 hC kf_Mod_138 d_Mod_node_104 ?_
  refine gw_aload_n hC 0 d_Mod_node_107 rfl rfl ?_
  refine Mg8 hC kf_Mod_138 d_Mod_node_108 ((σ.1 8) + 1) rfl ?_
  refine gw_iconst hC 1 d_Mod_node_111 (by decide) ?_
  refine gw_isub hC d_Mod_node_112 ?_
  cases hf
  exact gw_iret hC d_Mod_node_113
def Mod_node (N : Nat) (x1 : Int32) (x2 : Int32) (x3 : Int32) (x4 : Int32) (σ : g_S) : Option (Int32 × g_S) := Mod_node_b0 N x1 x2 x3 x4 σ
theorem Mod_node_m (l : Launch) (D : va_G) (cA : ClassId) (ao aa : Nat → Nat) (N : Nat) (x1 : Int32) (x2 : Int32) (x3 : Int32) (x4 : Int32) (σ : g_S) (r : Int32) (σe : g_S) (hf : Mod_node N x1 x2 x3 x4 σ = some (r, σe)) : Mt l D cA y_Mod_node c_Mod_node 5 (some .int) 0 0 [.ref (ao 0), .int x1, .int x2, .int x3, .int x4] (LM ao aa cA σ) (some (.int r)) (LM ao aa cA σe) := by
  refine g_met (by decide +kernel) (by simp [lg_sl, Value.category]) (fun X e1 e2 e3 hC => ?_)
  subst e1 e2 e3
  refine gw_lv [0, 1, 2, 3, 4] rfl ?_
  exact Mod_node_p0 ao aa hC N _ _ _ _ _ (r) _ hf
