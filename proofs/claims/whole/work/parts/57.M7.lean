theorem kc_Mod_290 : g_okV R_Mod 290 y_Mod_doNode c_Mod_doNode 4 (some .int) 2 := ⟨g_mem (List.mem_append_right _ (List.mem_append_right _ (List.mem_append_right _ (List.mem_append_right _ (List.mem_append_left _ (List.mem_of_getElem? (i := 239) rfl)))))) rfl, g_mem (List.mem_append_right _ (List.mem_append_left _ (List.mem_of_getElem? (i := 5) (by decide +kernel)))) rfl, g_mem (List.mem_append_right _ (List.mem_append_right _ (List.mem_append_right _ (List.mem_append_right _ (List.mem_append_left _ (List.mem_of_getElem? (i := 236) (by decide +kernel))))))) rfl, g_mem (List.mem_append_right _ (List.mem_append_right _ (List.mem_append_right _ (List.mem_append_right _ (List.mem_append_left _ (List.mem_of_getElem? (i := 238) (by decide +kernel))))))) rfl, g_mem (List.mem_append_left _ (List.mem_of_getElem? (i := 68) (by decide +kernel))) rfl, by decide +kernel, by decide +kernel, by decide +kernel⟩
theorem kc_Mod_293 : g_okV R_Mod 293 y_Mod_round c_Mod_round 5 (some .int) 1 := ⟨g_mem (List.mem_append_right _ (List.mem_append_right _ (List.mem_append_right _ (List.mem_append_right _ (List.mem_append_right _ (List.mem_of_getElem? (i := 48) rfl)))))) rfl, g_mem (List.mem_append_right _ (List.mem_append_left _ (List.mem_of_getElem? (i := 5) (by decide +kernel)))) rfl, g_mem (List.mem_append_right _ (List.mem_append_right _ (List.mem_append_right _ (List.mem_append_right _ (List.mem_append_right _ (List.mem_of_getElem? (i := 45) (by decide +kernel))))))) rfl, g_mem (List.mem_append_right _ (List.mem_append_right _ (List.mem_append_right _ (List.mem_append_right _ (List.mem_append_right _ (List.mem_of_getElem? (i := 47) (by decide +kernel))))))) rfl, g_mem (List.mem_append_left _ (List.mem_of_getElem? (i := 77) (by decide +kernel))) rfl, by decide +kernel, by decide +kernel, by decide +kernel⟩
theorem kc_Mod_296 : g_okV R_Mod 296 y_Mod_anew c_Mod_anew 4 (some .int) 1 := ⟨g_mem (List.mem_append_right _ (List.mem_append_right _ (List.mem_append_right _ (List.mem_append_right _ (List.mem_append_right _ (List.mem_of_getElem? (i := 52) rfl)))))) rfl, g_mem (List.mem_append_right _ (List.mem_append_left _ (List.mem_of_getElem? (i := 5) (by decide +kernel)))) rfl, g_mem (List.mem_append_right _ (List.mem_append_right _ (List.mem_append_right _ (List.mem_append_right _ (List.mem_append_right _ (List.mem_of_getElem? (i := 49) (by decide +kernel))))))) rfl, g_mem (List.mem_append_right _ (List.mem_append_right _ (List.mem_append_right _ (List.mem_append_right _ (List.mem_append_right _ (List.mem_of_getElem? (i := 51) (by decide +kernel))))))) rfl, g_mem (List.mem_append_left _ (List.mem_of_getElem? (i := 78) (by decide +kernel))) rfl, by decide +kernel, by decide +kernel, by decide +kernel⟩
theorem kc_Mod_299 : g_okV R_Mod 299 y_Mod_endRound c_Mod_endRound 2 (some .int) 1 := ⟨g_mem (List.mem_append_right _ (List.mem_append_right _ (List.mem_append_right _ (List.mem_append_right _ (List.mem_append_right _ (List.mem_of_getElem? (i := 56) rfl)))))) rfl, g_mem (List.mem_append_right _ (List.mem_append_left _ (List.mem_of_getElem? (i := 5) (by decide +kernel)))) rfl, g_mem (List.mem_append_right _ (List.mem_append_right _ (List.mem_append_right _ (List.mem_append_right _ (List.mem_append_right _ (List.mem_of_getElem? (i := 53) (by decide +kernel))))))) rfl, g_mem (List.mem_append_right _ (List.mem_append_right _ (List.mem_append_right _ (List.mem_append_right _ (List.mem_append_right _ (List.mem_of_getElem? (i := 55) (by decide +kernel))))))) rfl, g_mem (List.mem_append_left _ (List.mem_of_getElem? (i := 79) (by decide +kernel))) rfl, by decide +kernel, by decide +kernel, by decide +kernel⟩
theorem kc_Mod_302 : g_okV R_Mod 302 y_Mod_endLook c_Mod_endLook 2 (some .int) 1 := ⟨g_mem (List.mem_append_right _ (List.mem_append_right _ (List.mem_append_right _ (List.mem_append_right _ (List.mem_append_right _ (List.mem_of_getElem? (i := 60) rfl)))))) rfl, g_mem (List.mem_append_right _ (List.mem_append_left _ (List.mem_of_getElem? (i := 5) (by decide +kernel)))) rfl, g_mem (List.mem_append_right _ (List.mem_append_right _ (List.mem_append_right _ (List.mem_append_right _ (List.mem_append_right _ (List.mem_of_getElem? (i := 57) (by decide +kernel))))))) rfl, g_mem (List.mem_append_right _ (List.mem_append_right _ (List.mem_append_right _ (List.mem_append_right _ (List.mem_append_right _ (List.mem_of_getElem? (i := 59) (by decide +kernel))))))) rfl, g_mem (List.mem_append_left _ (List.mem_of_getElem? (i := 80) (by decide +kernel))) rfl, by decide +kernel, by decide +kernel, by decide +kernel⟩
theorem kc_Mod_308 : g_okV R_Mod 308 y_Mod_pop c_Mod_pop 3 (some .int) 0 := ⟨g_mem (List.mem_append_right _ (List.mem_append_right _ (List.mem_append_right _ (List.mem_append_right _ (List.mem_append_right _ (List.mem_of_getElem? (i := 64) rfl)))))) rfl, g_mem (List.mem_append_right _ (List.mem_append_left _ (List.mem_of_getElem? (i := 5) (by decide +kernel)))) rfl, g_mem (List.mem_append_right _ (List.mem_append_right _ (List.mem_append_right _ (List.mem_append_right _ (List.mem_append_right _ (List.mem_of_getElem? (i := 61) (by decide +kernel))))))) rfl, g_mem (List.mem_append_right _ (List.mem_append_right _ (List.mem_append_right _ (List.mem_append_right _ (List.mem_append_right _ (List.mem_of_getElem? (i := 63) (by decide +kernel))))))) rfl, g_mem (List.mem_append_left _ (List.mem_of_getElem? (i := 81) (by decide +kernel))) rfl, by decide +kernel, by decide +kernel, by decide +kernel⟩
theorem kc_Mod_305 : g_okV R_Mod 305 y_Mod_perform c_Mod_perform 3 (some .int) 1 := ⟨g_mem (List.mem_append_right _ (List.mem_append_right _ (List.mem_append_right _ (List.mem_append_right _ (List.mem_append_left _ (List.mem_of_getElem? (i := 235) rfl)))))) rfl, g_mem (List.mem_append_right _ (List.mem_append_left _ (List.mem_of_getElem? (i := 5) (by decide +kernel)))) rfl, g_mem (List.mem_append_right _ (List.mem_append_right _ (List.mem_append_right _ (List.mem_append_right _ (List.mem_append_left _ (List.mem_of_getElem? (i := 232) (by decide +kernel))))))) rfl, g_mem (List.mem_append_right _ (List.mem_append_right _ (List.mem_append_right _ (List.mem_append_right _ (List.mem_append_left _ (List.mem_of_getElem? (i := 234) (by decide +kernel))))))) rfl, g_mem (List.mem_append_left _ (List.mem_of_getElem? (i := 67) (by decide +kernel))) rfl, by decide +kernel, by decide +kernel, by decide +kernel⟩
theorem d_Mod_round_0 : decode c_Mod_round 0 = .ok (.aload_n 0, 1) := by decide +kernel
theorem d_Mod_round_1 : decode c_Mod_round 1 = .ok (.getfield 72, 3) := by decide +kernel
theorem d_Mod_round_4 : decode c_Mod_round 4 = .ok (.iload_n 1, 1) := by decide +kernel
theorem d_Mod_round_5 : decode c_Mod_round 5 = .ok (.iaload, 1) := by decide +kernel
theorem d_Mod_round_6 : decode c_Mod_round 6 = .ok (.istore_n 2, 1) := by decide +kernel
theorem d_Mod_round_7 : decode c_Mod_round 7 = .ok (.aload_n 0, 1) := by decide +kernel
theorem d_Mod_round_8 : decode c_Mod_round 8 = .ok (.invokevirtual 283, 3) := by decide +kernel
theorem d_Mod_round_11 : decode c_Mod_round 11 = .ok (.ifCond .ne 6, 3) := by decide +kernel
theorem d_Mod_round_14 : decode c_Mod_round 14 = .ok (.bipush (-2), 2) := by decide +kernel
theorem d_Mod_round_16 : decode c_Mod_round 16 = .ok (.ireturn, 1) := by decide +kernel
theorem d_Mod_round_17 : decode c_Mod_round 17 = .ok (.aload_n 0, 1) := by decide +kernel
theorem d_Mod_round_18 : decode c_Mod_round 18 = .ok (.getfield 81, 3) := by decide +kernel
theorem d_Mod_round_21 : decode c_Mod_round 21 = .ok (.iload_n 1, 1) := by decide +kernel
theorem d_Mod_round_22 : decode c_Mod_round 22 = .ok (.iaload, 1) := by decide +kernel
theorem d_Mod_round_23 : decode c_Mod_round 23 = .ok (.ifCond .ne 10, 3) := by decide +kernel
theorem d_Mod_round_26 : decode c_Mod_round 26 = .ok (.aload_n 0, 1) := by decide +kernel
theorem d_Mod_round_27 : decode c_Mod_round 27 = .ok (.getfield 75, 3) := by decide +kernel
theorem d_Mod_round_30 : decode c_Mod_round 30 = .ok (.iload_n 1, 1) := by decide +kernel
theorem d_Mod_round_31 : decode c_Mod_round 31 = .ok (.iaload, 1) := by decide +kernel
theorem d_Mod_round_32 : decode c_Mod_round 32 = .ok (.ireturn, 1) := by decide +kernel
theorem d_Mod_round_33 : decode c_Mod_round 33 = .ok (.aload_n 0, 1) := by decide +kernel
theorem d_Mod_round_34 : decode c_Mod_round 34 = .ok (.iconst 5, 1) := by decide +kernel
theorem d_Mod_round_35 : decode c_Mod_round 35 = .ok (.iload_n 2, 1) := by decide +kernel
theorem d_Mod_round_36 : decode c_Mod_round 36 = .ok (.aload_n 0, 1) := by decide +kernel
theorem d_Mod_round_37 : decode c_Mod_round 37 = .ok (.getfield 75, 3) := by decide +kernel
theorem d_Mod_round_40 : decode c_Mod_round 40 = .ok (.iload_n 1, 1) := by decide +kernel
theorem d_Mod_round_41 : decode c_Mod_round 41 = .ok (.iaload, 1) := by decide +kernel
theorem d_Mod_round_42 : decode c_Mod_round 42 = .ok (.aload_n 0, 1) := by decide +kernel
theorem d_Mod_round_43 : decode c_Mod_round 43 = .ok (.getfield 78, 3) := by decide +kernel
theorem d_Mod_round_46 : decode c_Mod_round 46 = .ok (.iload_n 1, 1) := by decide +kernel
theorem d_Mod_round_47 : decode c_Mod_round 47 = .ok (.iaload, 1) := by decide +kernel
theorem d_Mod_round_48 : decode c_Mod_round 48 = .ok (.aload_n 0, 1) := by decide +kernel
theorem d_Mod_round_49 : decode c_Mod_round 49 = .ok (.getfield 81, 3) := by decide +kernel
theorem d_Mod_round_52 : decode c_Mod_round 52 = .ok (.iload_n 1, 1) := by decide +kernel
theorem d_Mod_round_53 : decode c_Mod_round 53 = .ok (.iaload, 1) := by decide +kernel
theorem d_Mod_round_54 : decode c_Mod_round 54 = .ok (.iconst 0, 1) := by decide +kernel
theorem d_Mod_round_55 : decode c_Mod_round 55 = .ok (.invokevirtual 275, 3) := by decide +kernel
theorem d_Mod_round_58 : decode c_Mod_round 58 = .ok (.istore_n 3, 1) := by decide +kernel
theorem d_Mod_round_59 : decode c_Mod_round 59 = .ok (.aload_n 0, 1) := by decide +kernel
theorem d_Mod_round_60 : decode c_Mod_round 60 = .ok (.getfield 78, 3) := by decide +kernel
theorem d_Mod_round_63 : decode c_Mod_round 63 = .ok (.iload_n 1, 1) := by decide +kernel
theorem d_Mod_round_64 : decode c_Mod_round 64 = .ok (.iaload, 1) := by decide +kernel
theorem d_Mod_round_65 : decode c_Mod_round 65 = .ok (.ifCond .le 5, 3) := by decide +kernel
theorem d_Mod_round_68 : decode c_Mod_round 68 = .ok (.iload_n 3, 1) := by decide +kernel
theorem d_Mod_round_69 : decode c_Mod_round 69 = .ok (.ireturn, 1) := by decide +kernel
theorem d_Mod_round_70 : decode c_Mod_round 70 = .ok (.aload_n 0, 1) := by decide +kernel
theorem d_Mod_round_71 : decode c_Mod_round 71 = .ok (.getfield 32, 3) := by decide +kernel
theorem d_Mod_round_74 : decode c_Mod_round 74 = .ok (.iload_n 2, 1) := by decide +kernel
theorem d_Mod_round_75 : decode c_Mod_round 75 = .ok (.iaload, 1) := by decide +kernel
theorem d_Mod_round_76 : decode c_Mod_round 76 = .ok (.iconst 1, 1) := by decide +kernel
theorem d_Mod_round_77 : decode c_Mod_round 77 = .ok (.if_icmp .ne 7, 3) := by decide +kernel
theorem d_Mod_round_80 : decode c_Mod_round 80 = .ok (.iconst 1, 1) := by decide +kernel
theorem d_Mod_round_81 : decode c_Mod_round 81 = .ok (.goto 4, 3) := by decide +kernel
theorem d_Mod_round_84 : decode c_Mod_round 84 = .ok (.iconst 0, 1) := by decide +kernel
theorem d_Mod_round_85 : decode c_Mod_round 85 = .ok (.istore 4, 2) := by decide +kernel
theorem d_Mod_round_87 : decode c_Mod_round 87 = .ok (.aload_n 0, 1) := by decide +kernel
theorem d_Mod_round_88 : decode c_Mod_round 88 = .ok (.iload 4, 2) := by decide +kernel
theorem d_Mod_round_90 : decode c_Mod_round 90 = .ok (.ifCond .eq 7, 3) := by decide +kernel
theorem d_Mod_round_93 : decode c_Mod_round 93 = .ok (.iload_n 3, 1) := by decide +kernel
theorem d_Mod_round_94 : decode c_Mod_round 94 = .ok (.goto 9, 3) := by decide +kernel
theorem d_Mod_round_97 : decode c_Mod_round 97 = .ok (.aload_n 0, 1) := by decide +kernel
theorem d_Mod_round_98 : decode c_Mod_round 98 = .ok (.getfield 75, 3) := by decide +kernel
theorem d_Mod_round_101 : decode c_Mod_round 101 = .ok (.iload_n 1, 1) := by decide +kernel
theorem d_Mod_round_102 : decode c_Mod_round 102 = .ok (.iaload, 1) := by decide +kernel
theorem d_Mod_round_103 : decode c_Mod_round 103 = .ok (.aload_n 0, 1) := by decide +kernel
theorem d_Mod_round_104 : decode c_Mod_round 104 = .ok (.getfield 129, 3) := by decide +kernel
theorem d_Mod_round_107 : decode c_Mod_round 107 = .ok (.iconst 0, 1) := by decide +kernel
theorem d_Mod_round_108 : decode c_Mod_round 108 = .ok (.invokevirtual 279, 3) := by decide +kernel
theorem d_Mod_round_111 : decode c_Mod_round 111 = .ok (.iload 4, 2) := by decide +kernel
theorem d_Mod_round_113 : decode c_Mod_round 113 = .ok (.ifCond .eq 12, 3) := by decide +kernel
theorem d_Mod_round_116 : decode c_Mod_round 116 = .ok (.aload_n 0, 1) := by decide +kernel
theorem d_Mod_round_117 : decode c_Mod_round 117 = .ok (.getfield 75, 3) := by decide +kernel
theorem d_Mod_round_120 : decode c_Mod_round 120 = .ok (.iload_n 1, 1) := by decide +kernel
theorem d_Mod_round_121 : decode c_Mod_round 121 = .ok (.iaload, 1) := by decide +kernel
theorem d_Mod_round_122 : decode c_Mod_round 122 = .ok (.goto 4, 3) := by decide +kernel
theorem d_Mod_round_125 : decode c_Mod_round 125 = .ok (.iload_n 3, 1) := by decide +kernel
theorem d_Mod_round_126 : decode c_Mod_round 126 = .ok (.ireturn, 1) := by decide +kernel
theorem d_Mod_endRound_0 : decode c_Mod_endRound 0 = .ok (.aload_n 0, 1) := by decide +kernel
theorem d_Mod_endRound_1 : decode c_Mod_endRound 1 = .ok (.getfield 78, 3) := by decide +kernel
theorem d_Mod_endRound_4 : decode c_Mod_endRound 4 = .ok (.iload_n 1, 1) := by decide +kernel
theorem d_Mod_endRound_5 : decode c_Mod_endRound 5 = .ok (.iaload, 1) := by decide +kernel
theorem d_Mod_endRound_6 : decode c_Mod_endRound 6 = .ok (.ifCond .ne 18, 3) := by decide +kernel
theorem d_Mod_endRound_9 : decode c_Mod_endRound 9 = .ok (.aload_n 0, 1) := by decide +kernel
theorem d_Mod_endRound_10 : decode c_Mod_endRound 10 = .ok (.getfield 129, 3) := by decide +kernel
theorem d_Mod_endRound_13 : decode c_Mod_endRound 13 = .ok (.aload_n 0, 1) := by decide +kernel
theorem d_Mod_endRound_14 : decode c_Mod_endRound 14 = .ok (.getfield 84, 3) := by decide +kernel
theorem d_Mod_endRound_17 : decode c_Mod_endRound 17 = .ok (.iload_n 1, 1) := by decide +kernel
theorem d_Mod_endRound_18 : decode c_Mod_endRound 18 = .ok (.iaload, 1) := by decide +kernel
theorem d_Mod_endRound_19 : decode c_Mod_endRound 19 = .ok (.if_icmp .ne 5, 3) := by decide +kernel
theorem d_Mod_endRound_22 : decode c_Mod_endRound 22 = .ok (.iconst (-1), 1) := by decide +kernel
theorem d_Mod_endRound_23 : decode c_Mod_endRound 23 = .ok (.ireturn, 1) := by decide +kernel
theorem d_Mod_endRound_24 : decode c_Mod_endRound 24 = .ok (.aload_n 0, 1) := by decide +kernel
theorem d_Mod_endRound_25 : decode c_Mod_endRound 25 = .ok (.iconst 4, 1) := by decide +kernel
theorem d_Mod_endRound_26 : decode c_Mod_endRound 26 = .ok (.aload_n 0, 1) := by decide +kernel
theorem d_Mod_endRound_27 : decode c_Mod_endRound 27 = .ok (.getfield 72, 3) := by decide +kernel
theorem d_Mod_endRound_30 : decode c_Mod_endRound 30 = .ok (.iload_n 1, 1) := by decide +kernel
theorem d_Mod_endRound_31 : decode c_Mod_endRound 31 = .ok (.iaload, 1) := by decide +kernel
theorem d_Mod_endRound_32 : decode c_Mod_endRound 32 = .ok (.aload_n 0, 1) := by decide +kernel
theorem d_Mod_endRound_33 : decode c_Mod_endRound 33 = .ok (.getfield 75, 3) := by decide +kernel
theorem d_Mod_endRound_36 : decode c_Mod_endRound 36 = .ok (.iload_n 1, 1) := by decide +kernel
theorem d_Mod_endRound_37 : decode c_Mod_endRound 37 = .ok (.iaload, 1) := by decide +kernel
theorem d_Mod_endRound_38 : decode c_Mod_endRound 38 = .ok (.aload_n 0, 1) := by decide +kernel
theorem d_Mod_endRound_39 : decode c_Mod_endRound 39 = .ok (.getfield 78, 3) := by decide +kernel
theorem d_Mod_endRound_42 : decode c_Mod_endRound 42 = .ok (.iload_n 1, 1) := by decide +kernel
theorem d_Mod_endRound_43 : decode c_Mod_endRound 43 = .ok (.iaload, 1) := by decide +kernel
theorem d_Mod_endRound_44 : decode c_Mod_endRound 44 = .ok (.ifCond .ne 7, 3) := by decide +kernel
theorem d_Mod_endRound_47 : decode c_Mod_endRound 47 = .ok (.iconst 0, 1) := by decide +kernel
theorem d_Mod_endRound_48 : decode c_Mod_endRound 48 = .ok (.goto 11, 3) := by decide +kernel
theorem d_Mod_endRound_51 : decode c_Mod_endRound 51 = .ok (.aload_n 0, 1) := by decide +kernel
theorem d_Mod_endRound_52 : decode c_Mod_endRound 52 = .ok (.getfield 78, 3) := by decide +kernel
theorem d_Mod_endRound_55 : decode c_Mod_endRound 55 = .ok (.iload_n 1, 1) := by decide +kernel
theorem d_Mod_endRound_56 : decode c_Mod_endRound 56 = .ok (.iaload, 1) := by decide +kernel
theorem d_Mod_endRound_57 : decode c_Mod_endRound 57 = .ok (.iconst 1, 1) := by decide +kernel
theorem d_Mod_endRound_58 : decode c_Mod_endRound 58 = .ok (.isub, 1) := by decide +kernel
theorem d_Mod_endRound_59 : decode c_Mod_endRound 59 = .ok (.aload_n 0, 1) := by decide +kernel
theorem d_Mod_endRound_60 : decode c_Mod_endRound 60 = .ok (.getfield 81, 3) := by decide +kernel
theorem d_Mod_endRound_63 : decode c_Mod_endRound 63 = .ok (.iload_n 1, 1) := by decide +kernel
theorem d_Mod_endRound_64 : decode c_Mod_endRound 64 = .ok (.iaload, 1) := by decide +kernel
theorem d_Mod_endRound_65 : decode c_Mod_endRound 65 = .ok (.ldc 190, 2) := by decide +kernel
theorem d_Mod_endRound_67 : decode c_Mod_endRound 67 = .ok (.if_icmp .ne 8, 3) := by decide +kernel
theorem d_Mod_endRound_70 : decode c_Mod_endRound 70 = .ok (.ldc 190, 2) := by decide +kernel
theorem d_Mod_endRound_72 : decode c_Mod_endRound 72 = .ok (.goto 11, 3) := by decide +kernel
theorem d_Mod_endRound_75 : decode c_Mod_endRound 75 = .ok (.aload_n 0, 1) := by decide +kernel
theorem d_Mod_endRound_76 : decode c_Mod_endRound 76 = .ok (.getfield 81, 3) := by decide +kernel
theorem d_Mod_endRound_79 : decode c_Mod_endRound 79 = .ok (.iload_n 1, 1) := by decide +kernel
theorem d_Mod_endRound_80 : decode c_Mod_endRound 80 = .ok (.iaload, 1) := by decide +kernel
theorem d_Mod_endRound_81 : decode c_Mod_endRound 81 = .ok (.iconst 1, 1) := by decide +kernel
theorem d_Mod_endRound_82 : decode c_Mod_endRound 82 = .ok (.isub, 1) := by decide +kernel
theorem d_Mod_endRound_83 : decode c_Mod_endRound 83 = .ok (.iconst 0, 1) := by decide +kernel
theorem d_Mod_endRound_84 : decode c_Mod_endRound 84 = .ok (.invokevirtual 275, 3) := by decide +kernel
theorem d_Mod_endRound_87 : decode c_Mod_endRound 87 = .ok (.ireturn, 1) := by decide +kernel
theorem d_Mod_endLook_0 : decode c_Mod_endLook 0 = .ok (.aload_n 0, 1) := by decide +kernel
theorem d_Mod_endLook_1 : decode c_Mod_endLook 1 = .ok (.aload_n 0, 1) := by decide +kernel
theorem d_Mod_endLook_2 : decode c_Mod_endLook 2 = .ok (.getfield 81, 3) := by decide +kernel
theorem d_Mod_endLook_5 : decode c_Mod_endLook 5 = .ok (.iload_n 1, 1) := by decide +kernel
theorem d_Mod_endLook_6 : decode c_Mod_endLook 6 = .ok (.iaload, 1) := by decide +kernel
theorem d_Mod_endLook_7 : decode c_Mod_endLook 7 = .ok (.iconst 1, 1) := by decide +kernel
theorem d_Mod_endLook_8 : decode c_Mod_endLook 8 = .ok (.isub, 1) := by decide +kernel
theorem d_Mod_endLook_9 : decode c_Mod_endLook 9 = .ok (.putfield 244, 3) := by decide +kernel
theorem d_Mod_endLook_12 : decode c_Mod_endLook 12 = .ok (.aload_n 0, 1) := by decide +kernel
theorem d_Mod_endLook_13 : decode c_Mod_endLook 13 = .ok (.getfield 23, 3) := by decide +kernel
theorem d_Mod_endLook_16 : decode c_Mod_endLook 16 = .ok (.aload_n 0, 1) := by decide +kernel
theorem d_Mod_endLook_17 : decode c_Mod_endLook 17 = .ok (.getfield 72, 3) := by decide +kernel
theorem d_Mod_endLook_20 : decode c_Mod_endLook 20 = .ok (.iload_n 1, 1) := by decide +kernel
theorem d_Mod_endLook_21 : decode c_Mod_endLook 21 = .ok (.iaload, 1) := by decide +kernel
theorem d_Mod_endLook_22 : decode c_Mod_endLook 22 = .ok (.iaload, 1) := by decide +kernel
theorem d_Mod_endLook_23 : decode c_Mod_endLook 23 = .ok (.bipush 15, 2) := by decide +kernel
theorem d_Mod_endLook_25 : decode c_Mod_endLook 25 = .ok (.if_icmp .ne 5, 3) := by decide +kernel
theorem d_Mod_endLook_28 : decode c_Mod_endLook 28 = .ok (.iconst (-1), 1) := by decide +kernel
theorem d_Mod_endLook_29 : decode c_Mod_endLook 29 = .ok (.ireturn, 1) := by decide +kernel
theorem d_Mod_endLook_30 : decode c_Mod_endLook 30 = .ok (.aload_n 0, 1) := by decide +kernel
theorem d_Mod_endLook_31 : decode c_Mod_endLook 31 = .ok (.aload_n 0, 1) := by decide +kernel
theorem d_Mod_endLook_32 : decode c_Mod_endLook 32 = .ok (.getfield 78, 3) := by decide +kernel
theorem d_Mod_endLook_35 : decode c_Mod_endLook 35 = .ok (.iload_n 1, 1) := by decide +kernel
theorem d_Mod_endLook_36 : decode c_Mod_endLook 36 = .ok (.iaload, 1) := by decide +kernel
theorem d_Mod_endLook_37 : decode c_Mod_endLook 37 = .ok (.putfield 129, 3) := by decide +kernel
theorem d_Mod_endLook_40 : decode c_Mod_endLook 40 = .ok (.aload_n 0, 1) := by decide +kernel
theorem d_Mod_endLook_41 : decode c_Mod_endLook 41 = .ok (.getfield 75, 3) := by decide +kernel
theorem d_Mod_endLook_44 : decode c_Mod_endLook 44 = .ok (.iload_n 1, 1) := by decide +kernel
theorem d_Mod_endLook_45 : decode c_Mod_endLook 45 = .ok (.iaload, 1) := by decide +kernel
theorem d_Mod_endLook_46 : decode c_Mod_endLook 46 = .ok (.ireturn, 1) := by decide +kernel
theorem d_Mod_perform_0 : decode c_Mod_perform 0 = .ok (.aload_n 0, 1) := by decide +kernel
theorem d_Mod_perform_1 : decode c_Mod_perform 1 = .ok (.getfield 72, 3) := by decide +kernel
theorem d_Mod_perform_4 : decode c_Mod_perform 4 = .ok (.iload_n 1, 1) := by decide +kernel
theorem d_Mod_perform_5 : decode c_Mod_perform 5 = .ok (.iaload, 1) := by decide +kernel
theorem d_Mod_perform_6 : decode c_Mod_perform 6 = .ok (.istore_n 2, 1) := by decide +kernel
theorem d_Mod_perform_7 : decode c_Mod_perform 7 = .ok (.aload_n 0, 1) := by decide +kernel
theorem d_Mod_perform_8 : decode c_Mod_perform 8 = .ok (.getfield 69, 3) := by decide +kernel
theorem d_Mod_perform_11 : decode c_Mod_perform 11 = .ok (.iload_n 1, 1) := by decide +kernel
theorem d_Mod_perform_12 : decode c_Mod_perform 12 = .ok (.iaload, 1) := by decide +kernel
theorem d_Mod_perform_13 : decode c_Mod_perform 13 = .ok (.tableswitch 232 0 6 #[43, 55, 126, 169, 214, 220, 226], 43) := by decide +kernel
theorem d_Mod_perform_56 : decode c_Mod_perform 56 = .ok (.aload_n 0, 1) := by decide +kernel
theorem d_Mod_perform_57 : decode c_Mod_perform 57 = .ok (.iload_n 2, 1) := by decide +kernel
theorem d_Mod_perform_58 : decode c_Mod_perform 58 = .ok (.aload_n 0, 1) := by decide +kernel
theorem d_Mod_perform_59 : decode c_Mod_perform 59 = .ok (.getfield 75, 3) := by decide +kernel
theorem d_Mod_perform_62 : decode c_Mod_perform 62 = .ok (.iload_n 1, 1) := by decide +kernel
theorem d_Mod_perform_63 : decode c_Mod_perform 63 = .ok (.iaload, 1) := by decide +kernel
theorem d_Mod_perform_64 : decode c_Mod_perform 64 = .ok (.invokevirtual 290, 3) := by decide +kernel
theorem d_Mod_perform_67 : decode c_Mod_perform 67 = .ok (.ireturn, 1) := by decide +kernel
theorem d_Mod_perform_68 : decode c_Mod_perform 68 = .ok (.aload_n 0, 1) := by decide +kernel
theorem d_Mod_perform_69 : decode c_Mod_perform 69 = .ok (.getfield 41, 3) := by decide +kernel
theorem d_Mod_perform_72 : decode c_Mod_perform 72 = .ok (.iload_n 2, 1) := by decide +kernel
theorem d_Mod_perform_73 : decode c_Mod_perform 73 = .ok (.iaload, 1) := by decide +kernel
theorem d_Mod_perform_74 : decode c_Mod_perform 74 = .ok (.ifCond .lt 32, 3) := by decide +kernel
theorem d_Mod_perform_77 : decode c_Mod_perform 77 = .ok (.aload_n 0, 1) := by decide +kernel
theorem d_Mod_perform_78 : decode c_Mod_perform 78 = .ok (.aload_n 0, 1) := by decide +kernel
theorem d_Mod_perform_79 : decode c_Mod_perform 79 = .ok (.iconst 1, 1) := by decide +kernel
theorem d_Mod_perform_80 : decode c_Mod_perform 80 = .ok (.aload_n 0, 1) := by decide +kernel
theorem d_Mod_perform_81 : decode c_Mod_perform 81 = .ok (.getfield 41, 3) := by decide +kernel
theorem d_Mod_perform_84 : decode c_Mod_perform 84 = .ok (.iload_n 2, 1) := by decide +kernel
theorem d_Mod_perform_85 : decode c_Mod_perform 85 = .ok (.iaload, 1) := by decide +kernel
theorem d_Mod_perform_86 : decode c_Mod_perform 86 = .ok (.aload_n 0, 1) := by decide +kernel
theorem d_Mod_perform_87 : decode c_Mod_perform 87 = .ok (.getfield 75, 3) := by decide +kernel
theorem d_Mod_perform_90 : decode c_Mod_perform 90 = .ok (.iload_n 1, 1) := by decide +kernel
theorem d_Mod_perform_91 : decode c_Mod_perform 91 = .ok (.iaload, 1) := by decide +kernel
theorem d_Mod_perform_92 : decode c_Mod_perform 92 = .ok (.iconst 0, 1) := by decide +kernel
theorem d_Mod_perform_93 : decode c_Mod_perform 93 = .ok (.iconst 0, 1) := by decide +kernel
theorem d_Mod_perform_94 : decode c_Mod_perform 94 = .ok (.iconst 0, 1) := by decide +kernel
theorem d_Mod_perform_95 : decode c_Mod_perform 95 = .ok (.invokevirtual 275, 3) := by decide +kernel
theorem d_Mod_perform_98 : decode c_Mod_perform 98 = .ok (.aload_n 0, 1) := by decide +kernel
theorem d_Mod_perform_99 : decode c_Mod_perform 99 = .ok (.getfield 129, 3) := by decide +kernel
theorem d_Mod_perform_102 : decode c_Mod_perform 102 = .ok (.iconst 0, 1) := by decide +kernel
theorem d_Mod_perform_103 : decode c_Mod_perform 103 = .ok (.invokevirtual 279, 3) := by decide +kernel
theorem d_Mod_perform_106 : decode c_Mod_perform 106 = .ok (.aload_n 0, 1) := by decide +kernel
theorem d_Mod_perform_107 : decode c_Mod_perform 107 = .ok (.invokevirtual 283, 3) := by decide +kernel
theorem d_Mod_perform_110 : decode c_Mod_perform 110 = .ok (.ifCond .eq 26, 3) := by decide +kernel
theorem d_Mod_perform_113 : decode c_Mod_perform 113 = .ok (.aload_n 0, 1) := by decide +kernel
theorem d_Mod_perform_114 : decode c_Mod_perform 114 = .ok (.iconst 2, 1) := by decide +kernel
theorem d_Mod_perform_115 : decode c_Mod_perform 115 = .ok (.aload_n 0, 1) := by decide +kernel
theorem d_Mod_perform_116 : decode c_Mod_perform 116 = .ok (.getfield 35, 3) := by decide +kernel
theorem d_Mod_perform_119 : decode c_Mod_perform 119 = .ok (.iload_n 2, 1) := by decide +kernel
theorem d_Mod_perform_120 : decode c_Mod_perform 120 = .ok (.iaload, 1) := by decide +kernel
theorem d_Mod_perform_121 : decode c_Mod_perform 121 = .ok (.aload_n 0, 1) := by decide +kernel
theorem d_Mod_perform_122 : decode c_Mod_perform 122 = .ok (.getfield 75, 3) := by decide +kernel
theorem d_Mod_perform_125 : decode c_Mod_perform 125 = .ok (.iload_n 1, 1) := by decide +kernel
theorem d_Mod_perform_126 : decode c_Mod_perform 126 = .ok (.iaload, 1) := by decide +kernel
theorem d_Mod_perform_127 : decode c_Mod_perform 127 = .ok (.iconst 0, 1) := by decide +kernel
theorem d_Mod_perform_128 : decode c_Mod_perform 128 = .ok (.iconst 0, 1) := by decide +kernel
theorem d_Mod_perform_129 : decode c_Mod_perform 129 = .ok (.iconst 0, 1) := by decide +kernel
theorem d_Mod_perform_130 : decode c_Mod_perform 130 = .ok (.invokevirtual 275, 3) := by decide +kernel
theorem d_Mod_perform_133 : decode c_Mod_perform 133 = .ok (.goto 5, 3) := by decide +kernel
theorem d_Mod_perform_136 : decode c_Mod_perform 136 = .ok (.bipush (-2), 2) := by decide +kernel
theorem d_Mod_perform_138 : decode c_Mod_perform 138 = .ok (.ireturn, 1) := by decide +kernel
theorem d_Mod_perform_139 : decode c_Mod_perform 139 = .ok (.iload_n 2, 1) := by decide +kernel
theorem d_Mod_perform_140 : decode c_Mod_perform 140 = .ok (.ifCond .ge 12, 3) := by decide +kernel
theorem d_Mod_perform_143 : decode c_Mod_perform 143 = .ok (.aload_n 0, 1) := by decide +kernel
theorem d_Mod_perform_144 : decode c_Mod_perform 144 = .ok (.getfield 75, 3) := by decide +kernel
theorem d_Mod_perform_147 : decode c_Mod_perform 147 = .ok (.iload_n 1, 1) := by decide +kernel
theorem d_Mod_perform_148 : decode c_Mod_perform 148 = .ok (.iaload, 1) := by decide +kernel
theorem d_Mod_perform_149 : decode c_Mod_perform 149 = .ok (.goto 32, 3) := by decide +kernel
theorem d_Mod_perform_152 : decode c_Mod_perform 152 = .ok (.aload_n 0, 1) := by decide +kernel
theorem d_Mod_perform_153 : decode c_Mod_perform 153 = .ok (.iconst 0, 1) := by decide +kernel
theorem d_Mod_perform_154 : decode c_Mod_perform 154 = .ok (.iload_n 2, 1) := by decide +kernel
theorem d_Mod_perform_155 : decode c_Mod_perform 155 = .ok (.aload_n 0, 1) := by decide +kernel
theorem d_Mod_perform_156 : decode c_Mod_perform 156 = .ok (.iconst 2, 1) := by decide +kernel
theorem d_Mod_perform_157 : decode c_Mod_perform 157 = .ok (.aload_n 0, 1) := by decide +kernel
theorem d_Mod_perform_158 : decode c_Mod_perform 158 = .ok (.getfield 41, 3) := by decide +kernel
theorem d_Mod_perform_161 : decode c_Mod_perform 161 = .ok (.iload_n 2, 1) := by decide +kernel
theorem d_Mod_perform_162 : decode c_Mod_perform 162 = .ok (.iaload, 1) := by decide +kernel
theorem d_Mod_perform_163 : decode c_Mod_perform 163 = .ok (.aload_n 0, 1) := by decide +kernel
theorem d_Mod_perform_164 : decode c_Mod_perform 164 = .ok (.getfield 75, 3) := by decide +kernel
theorem d_Mod_perform_167 : decode c_Mod_perform 167 = .ok (.iload_n 1, 1) := by decide +kernel
theorem d_Mod_perform_168 : decode c_Mod_perform 168 = .ok (.iaload, 1) := by decide +kernel
theorem d_Mod_perform_169 : decode c_Mod_perform 169 = .ok (.iconst 0, 1) := by decide +kernel
theorem d_Mod_perform_170 : decode c_Mod_perform 170 = .ok (.iconst 0, 1) := by decide +kernel
theorem d_Mod_perform_171 : decode c_Mod_perform 171 = .ok (.iconst 0, 1) := by decide +kernel
theorem d_Mod_perform_172 : decode c_Mod_perform 172 = .ok (.invokevirtual 275, 3) := by decide +kernel
theorem d_Mod_perform_175 : decode c_Mod_perform 175 = .ok (.iconst 0, 1) := by decide +kernel
theorem d_Mod_perform_176 : decode c_Mod_perform 176 = .ok (.iconst 0, 1) := by decide +kernel
theorem d_Mod_perform_177 : decode c_Mod_perform 177 = .ok (.iconst 0, 1) := by decide +kernel
theorem d_Mod_perform_178 : decode c_Mod_perform 178 = .ok (.invokevirtual 275, 3) := by decide +kernel
theorem d_Mod_perform_181 : decode c_Mod_perform 181 = .ok (.ireturn, 1) := by decide +kernel
theorem d_Mod_perform_182 : decode c_Mod_perform 182 = .ok (.aload_n 0, 1) := by decide +kernel
theorem d_Mod_perform_183 : decode c_Mod_perform 183 = .ok (.getfield 65, 3) := by decide +kernel
theorem d_Mod_perform_186 : decode c_Mod_perform 186 = .ok (.iconst 2, 1) := by decide +kernel
theorem d_Mod_perform_187 : decode c_Mod_perform 187 = .ok (.aload_n 0, 1) := by decide +kernel
theorem d_Mod_perform_188 : decode c_Mod_perform 188 = .ok (.getfield 26, 3) := by decide +kernel
theorem d_Mod_perform_191 : decode c_Mod_perform 191 = .ok (.iload_n 2, 1) := by decide +kernel
theorem d_Mod_perform_192 : decode c_Mod_perform 192 = .ok (.iaload, 1) := by decide +kernel
theorem d_Mod_perform_193 : decode c_Mod_perform 193 = .ok (.imul, 1) := by decide +kernel
theorem d_Mod_perform_194 : decode c_Mod_perform 194 = .ok (.aload_n 0, 1) := by decide +kernel
theorem d_Mod_perform_195 : decode c_Mod_perform 195 = .ok (.getfield 78, 3) := by decide +kernel
theorem d_Mod_perform_198 : decode c_Mod_perform 198 = .ok (.iload_n 1, 1) := by decide +kernel
theorem d_Mod_perform_199 : decode c_Mod_perform 199 = .ok (.iaload, 1) := by decide +kernel
theorem d_Mod_perform_200 : decode c_Mod_perform 200 = .ok (.iastore, 1) := by decide +kernel
theorem d_Mod_perform_201 : decode c_Mod_perform 201 = .ok (.aload_n 0, 1) := by decide +kernel
theorem d_Mod_perform_202 : decode c_Mod_perform 202 = .ok (.getfield 65, 3) := by decide +kernel
theorem d_Mod_perform_205 : decode c_Mod_perform 205 = .ok (.iconst 2, 1) := by decide +kernel
theorem d_Mod_perform_206 : decode c_Mod_perform 206 = .ok (.aload_n 0, 1) := by decide +kernel
theorem d_Mod_perform_207 : decode c_Mod_perform 207 = .ok (.getfield 26, 3) := by decide +kernel
theorem d_Mod_perform_210 : decode c_Mod_perform 210 = .ok (.iload_n 2, 1) := by decide +kernel
theorem d_Mod_perform_211 : decode c_Mod_perform 211 = .ok (.iaload, 1) := by decide +kernel
theorem d_Mod_perform_212 : decode c_Mod_perform 212 = .ok (.imul, 1) := by decide +kernel
theorem d_Mod_perform_213 : decode c_Mod_perform 213 = .ok (.iconst 1, 1) := by decide +kernel
theorem d_Mod_perform_214 : decode c_Mod_perform 214 = .ok (.iadd, 1) := by decide +kernel
theorem d_Mod_perform_215 : decode c_Mod_perform 215 = .ok (.aload_n 0, 1) := by decide +kernel
theorem d_Mod_perform_216 : decode c_Mod_perform 216 = .ok (.getfield 129, 3) := by decide +kernel
theorem d_Mod_perform_219 : decode c_Mod_perform 219 = .ok (.iastore, 1) := by decide +kernel
theorem d_Mod_perform_220 : decode c_Mod_perform 220 = .ok (.aload_n 0, 1) := by decide +kernel
theorem d_Mod_perform_221 : decode c_Mod_perform 221 = .ok (.getfield 75, 3) := by decide +kernel
theorem d_Mod_perform_224 : decode c_Mod_perform 224 = .ok (.iload_n 1, 1) := by decide +kernel
theorem d_Mod_perform_225 : decode c_Mod_perform 225 = .ok (.iaload, 1) := by decide +kernel
theorem d_Mod_perform_226 : decode c_Mod_perform 226 = .ok (.ireturn, 1) := by decide +kernel
theorem d_Mod_perform_227 : decode c_Mod_perform 227 = .ok (.aload_n 0, 1) := by decide +kernel
theorem d_Mod_perform_228 : decode c_Mod_perform 228 = .ok (.iload_n 1, 1) := by decide +kernel
theorem d_Mod_perform_229 : decode c_Mod_perform 229 = .ok (.invokevirtual 293, 3) := by decide +kernel
theorem d_Mod_perform_232 : decode c_Mod_perform 232 = .ok (.ireturn, 1) := by decide +kernel
theorem d_Mod_perform_233 : decode c_Mod_perform 233 = .ok (.aload_n 0, 1) := by decide +kernel
theorem d_Mod_perform_234 : decode c_Mod_perform 234 = .ok (.iload_n 1, 1) := by decide +kernel
theorem d_Mod_perform_235 : decode c_Mod_perform 235 = .ok (.invokevirtual 296, 3) := by decide +kernel
theorem d_Mod_perform_238 : decode c_Mod_perform 238 = .ok (.ireturn, 1) := by decide +kernel
theorem d_Mod_perform_239 : decode c_Mod_perform 239 = .ok (.aload_n 0, 1) := by decide +kernel
theorem d_Mod_perform_240 : decode c_Mod_perform 240 = .ok (.iload_n 1, 1) := by decide +kernel
theorem d_Mod_perform_241 : decode c_Mod_perform 241 = .ok (.invokevirtual 299, 3) := by decide +kernel
theorem d_Mod_perform_244 : decode c_Mod_perform 244 = .ok (.ireturn, 1) := by decide +kernel
theorem d_Mod_perform_245 : decode c_Mod_perform 245 = .ok (.aload_n 0, 1) := by decide +kernel
theorem d_Mod_perform_246 : decode c_Mod_perform 246 = .ok (.iload_n 1, 1) := by decide +kernel
theorem d_Mod_perform_247 : decode c_Mod_perform 247 = .ok (.invokevirtual 302, 3) := by decide +kernel
theorem d_Mod_perform_250 : decode c_Mod_perform 250 = .ok (.ireturn, 1) := by decide +kernel
theorem d_Mod_tryAt_0 : decode c_Mod_tryAt 0 = .ok (.aload_n 0, 1) := by decide +kernel
theorem d_Mod_tryAt_1 : decode c_Mod_tryAt 1 = .ok (.iconst 0, 1) := by decide +kernel
theorem d_Mod_tryAt_2 : decode c_Mod_tryAt 2 = .ok (.putfield 241, 3) := by decide +kernel
theorem d_Mod_tryAt_5 : decode c_Mod_tryAt 5 = .ok (.aload_n 0, 1) := by decide +kernel
theorem d_Mod_tryAt_6 : decode c_Mod_tryAt 6 = .ok (.iconst 0, 1) := by decide +kernel
theorem d_Mod_tryAt_7 : decode c_Mod_tryAt 7 = .ok (.putfield 244, 3) := by decide +kernel
theorem d_Mod_tryAt_10 : decode c_Mod_tryAt 10 = .ok (.aload_n 0, 1) := by decide +kernel
theorem d_Mod_tryAt_11 : decode c_Mod_tryAt 11 = .ok (.iload_n 1, 1) := by decide +kernel
theorem d_Mod_tryAt_12 : decode c_Mod_tryAt 12 = .ok (.putfield 129, 3) := by decide +kernel
theorem d_Mod_tryAt_15 : decode c_Mod_tryAt 15 = .ok (.iconst 0, 1) := by decide +kernel
theorem d_Mod_tryAt_16 : decode c_Mod_tryAt 16 = .ok (.istore_n 2, 1) := by decide +kernel
theorem d_Mod_tryAt_17 : decode c_Mod_tryAt 17 = .ok (.iload_n 2, 1) := by decide +kernel
theorem d_Mod_tryAt_18 : decode c_Mod_tryAt 18 = .ok (.bipush 42, 2) := by decide +kernel
theorem d_Mod_tryAt_20 : decode c_Mod_tryAt 20 = .ok (.if_icmp .ge 16, 3) := by decide +kernel
theorem d_Mod_tryAt_23 : decode c_Mod_tryAt 23 = .ok (.aload_n 0, 1) := by decide +kernel
theorem d_Mod_tryAt_24 : decode c_Mod_tryAt 24 = .ok (.getfield 65, 3) := by decide +kernel
theorem d_Mod_tryAt_27 : decode c_Mod_tryAt 27 = .ok (.iload_n 2, 1) := by decide +kernel
theorem d_Mod_tryAt_28 : decode c_Mod_tryAt 28 = .ok (.iconst (-1), 1) := by decide +kernel
theorem d_Mod_tryAt_29 : decode c_Mod_tryAt 29 = .ok (.iastore, 1) := by decide +kernel
theorem d_Mod_tryAt_30 : decode c_Mod_tryAt 30 = .ok (.iinc 2 1, 3) := by decide +kernel
theorem d_Mod_tryAt_33 : decode c_Mod_tryAt 33 = .ok (.goto (-16), 3) := by decide +kernel
theorem d_Mod_tryAt_36 : decode c_Mod_tryAt 36 = .ok (.aload_n 0, 1) := by decide +kernel
theorem d_Mod_tryAt_37 : decode c_Mod_tryAt 37 = .ok (.iconst 0, 1) := by decide +kernel
theorem d_Mod_tryAt_38 : decode c_Mod_tryAt 38 = .ok (.iconst 0, 1) := by decide +kernel
theorem d_Mod_tryAt_39 : decode c_Mod_tryAt 39 = .ok (.aload_n 0, 1) := by decide +kernel
theorem d_Mod_tryAt_40 : decode c_Mod_tryAt 40 = .ok (.bipush 8, 2) := by decide +kernel
theorem d_Mod_tryAt_42 : decode c_Mod_tryAt 42 = .ok (.iconst 0, 1) := by decide +kernel
theorem d_Mod_tryAt_43 : decode c_Mod_tryAt 43 = .ok (.iconst 0, 1) := by decide +kernel
theorem d_Mod_tryAt_44 : decode c_Mod_tryAt 44 = .ok (.iconst 0, 1) := by decide +kernel
theorem d_Mod_tryAt_45 : decode c_Mod_tryAt 45 = .ok (.iconst 0, 1) := by decide +kernel
theorem d_Mod_tryAt_46 : decode c_Mod_tryAt 46 = .ok (.iconst 0, 1) := by decide +kernel
theorem d_Mod_tryAt_47 : decode c_Mod_tryAt 47 = .ok (.invokevirtual 275, 3) := by decide +kernel
theorem d_Mod_tryAt_50 : decode c_Mod_tryAt 50 = .ok (.iconst 0, 1) := by decide +kernel
theorem d_Mod_tryAt_51 : decode c_Mod_tryAt 51 = .ok (.iconst 0, 1) := by decide +kernel
theorem d_Mod_tryAt_52 : decode c_Mod_tryAt 52 = .ok (.iconst 0, 1) := by decide +kernel
theorem d_Mod_tryAt_53 : decode c_Mod_tryAt 53 = .ok (.invokevirtual 275, 3) := by decide +kernel
theorem d_Mod_tryAt_56 : decode c_Mod_tryAt 56 = .ok (.istore_n 2, 1) := by decide +kernel
theorem d_Mod_tryAt_57 : decode c_Mod_tryAt 57 = .ok (.iload_n 2, 1) := by decide +kernel
theorem d_Mod_tryAt_58 : decode c_Mod_tryAt 58 = .ok (.ifCond .lt 41, 3) := by decide +kernel
theorem d_Mod_tryAt_61 : decode c_Mod_tryAt 61 = .ok (.aload_n 0, 1) := by decide +kernel
theorem d_Mod_tryAt_62 : decode c_Mod_tryAt 62 = .ok (.getfield 69, 3) := by decide +kernel
theorem d_Mod_tryAt_65 : decode c_Mod_tryAt 65 = .ok (.iload_n 2, 1) := by decide +kernel
theorem d_Mod_tryAt_66 : decode c_Mod_tryAt 66 = .ok (.iaload, 1) := by decide +kernel
theorem d_Mod_tryAt_67 : decode c_Mod_tryAt 67 = .ok (.bipush 8, 2) := by decide +kernel
theorem d_Mod_tryAt_69 : decode c_Mod_tryAt 69 = .ok (.if_icmp .eq 30, 3) := by decide +kernel
theorem d_Mod_tryAt_72 : decode c_Mod_tryAt 72 = .ok (.aload_n 0, 1) := by decide +kernel
theorem d_Mod_tryAt_73 : decode c_Mod_tryAt 73 = .ok (.iload_n 2, 1) := by decide +kernel
theorem d_Mod_tryAt_74 : decode c_Mod_tryAt 74 = .ok (.invokevirtual 305, 3) := by decide +kernel
theorem d_Mod_tryAt_77 : decode c_Mod_tryAt 77 = .ok (.istore_n 2, 1) := by decide +kernel
theorem d_Mod_tryAt_78 : decode c_Mod_tryAt 78 = .ok (.iload_n 2, 1) := by decide +kernel
theorem d_Mod_tryAt_79 : decode c_Mod_tryAt 79 = .ok (.iconst (-1), 1) := by decide +kernel
theorem d_Mod_tryAt_80 : decode c_Mod_tryAt 80 = .ok (.if_icmp .ne 11, 3) := by decide +kernel
theorem d_Mod_tryAt_83 : decode c_Mod_tryAt 83 = .ok (.aload_n 0, 1) := by decide +kernel
theorem d_Mod_tryAt_84 : decode c_Mod_tryAt 84 = .ok (.invokevirtual 308, 3) := by decide +kernel
theorem d_Mod_tryAt_87 : decode c_Mod_tryAt 87 = .ok (.istore_n 2, 1) := by decide +kernel
theorem d_Mod_tryAt_88 : decode c_Mod_tryAt 88 = .ok (.goto (-31), 3) := by decide +kernel
theorem d_Mod_tryAt_91 : decode c_Mod_tryAt 91 = .ok (.iload_n 2, 1) := by decide +kernel
theorem d_Mod_tryAt_92 : decode c_Mod_tryAt 92 = .ok (.bipush (-2), 2) := by decide +kernel
theorem d_Mod_tryAt_94 : decode c_Mod_tryAt 94 = .ok (.if_icmp .ne (-37), 3) := by decide +kernel
theorem d_Mod_tryAt_97 : decode c_Mod_tryAt 97 = .ok (.iconst 2, 1) := by decide +kernel
theorem d_Mod_tryAt_98 : decode c_Mod_tryAt 98 = .ok (.ireturn, 1) := by decide +kernel
theorem d_Mod_tryAt_99 : decode c_Mod_tryAt 99 = .ok (.iload_n 2, 1) := by decide +kernel
theorem d_Mod_tryAt_100 : decode c_Mod_tryAt 100 = .ok (.ifCond .ge 5, 3) := by decide +kernel
theorem d_Mod_tryAt_103 : decode c_Mod_tryAt 103 = .ok (.iconst 0, 1) := by decide +kernel
theorem d_Mod_tryAt_104 : decode c_Mod_tryAt 104 = .ok (.ireturn, 1) := by decide +kernel
theorem d_Mod_tryAt_105 : decode c_Mod_tryAt 105 = .ok (.aload_n 0, 1) := by decide +kernel
theorem d_Mod_tryAt_106 : decode c_Mod_tryAt 106 = .ok (.getfield 65, 3) := by decide +kernel
theorem d_Mod_tryAt_109 : decode c_Mod_tryAt 109 = .ok (.iconst 0, 1) := by decide +kernel
theorem d_Mod_tryAt_110 : decode c_Mod_tryAt 110 = .ok (.iload_n 1, 1) := by decide +kernel
theorem d_Mod_tryAt_111 : decode c_Mod_tryAt 111 = .ok (.iastore, 1) := by decide +kernel
theorem d_Mod_tryAt_112 : decode c_Mod_tryAt 112 = .ok (.aload_n 0, 1) := by decide +kernel
theorem d_Mod_tryAt_113 : decode c_Mod_tryAt 113 = .ok (.getfield 65, 3) := by decide +kernel
theorem d_Mod_tryAt_116 : decode c_Mod_tryAt 116 = .ok (.iconst 1, 1) := by decide +kernel
theorem d_Mod_tryAt_117 : decode c_Mod_tryAt 117 = .ok (.aload_n 0, 1) := by decide +kernel
theorem d_Mod_tryAt_118 : decode c_Mod_tryAt 118 = .ok (.getfield 129, 3) := by decide +kernel
theorem d_Mod_tryAt_121 : decode c_Mod_tryAt 121 = .ok (.iastore, 1) := by decide +kernel
theorem d_Mod_tryAt_122 : decode c_Mod_tryAt 122 = .ok (.iconst 1, 1) := by decide +kernel
theorem d_Mod_tryAt_123 : decode c_Mod_tryAt 123 = .ok (.ireturn, 1) := by decide +kernel
theorem d_Mod_begins_0 : decode c_Mod_begins 0 = .ok (.aload_n 0, 1) := by decide +kernel
theorem d_Mod_begins_1 : decode c_Mod_begins 1 = .ok (.iload_n 1, 1) := by decide +kernel
theorem d_Mod_begins_2 : decode c_Mod_begins 2 = .ok (.iconst 0, 1) := by decide +kernel
theorem d_Mod_begins_3 : decode c_Mod_begins 3 = .ok (.aload_n 0, 1) := by decide +kernel
theorem d_Mod_begins_4 : decode c_Mod_begins 4 = .ok (.getfield 238, 3) := by decide +kernel
theorem d_Mod_begins_7 : decode c_Mod_begins 7 = .ok (.invokestatic 103, 3) := by decide +kernel
theorem d_Mod_begins_10 : decode c_Mod_begins 10 = .ok (.ifCond .eq 14, 3) := by decide +kernel
theorem d_Mod_begins_13 : decode c_Mod_begins 13 = .ok (.iload_n 2, 1) := by decide +kernel
theorem d_Mod_begins_14 : decode c_Mod_begins 14 = .ok (.iconst 1, 1) := by decide +kernel
theorem d_Mod_begins_15 : decode c_Mod_begins 15 = .ok (.sipush 10000, 3) := by decide +kernel
theorem d_Mod_begins_18 : decode c_Mod_begins 18 = .ok (.invokestatic 103, 3) := by decide +kernel
theorem d_Mod_begins_21 : decode c_Mod_begins 21 = .ok (.ifCond .ne 7, 3) := by decide +kernel
theorem d_Mod_begins_24 : decode c_Mod_begins 24 = .ok (.iconst 1, 1) := by decide +kernel
theorem d_Mod_begins_25 : decode c_Mod_begins 25 = .ok (.goto 15, 3) := by decide +kernel
theorem d_Mod_begins_28 : decode c_Mod_begins 28 = .ok (.aload_n 0, 1) := by decide +kernel
theorem d_Mod_begins_29 : decode c_Mod_begins 29 = .ok (.getfield 226, 3) := by decide +kernel
theorem d_Mod_begins_32 : decode c_Mod_begins 32 = .ok (.ifCond .ne 7, 3) := by decide +kernel
theorem d_Mod_begins_35 : decode c_Mod_begins 35 = .ok (.iconst 2, 1) := by decide +kernel
theorem d_Mod_begins_36 : decode c_Mod_begins 36 = .ok (.goto 4, 3) := by decide +kernel
theorem d_Mod_begins_39 : decode c_Mod_begins 39 = .ok (.iconst 0, 1) := by decide +kernel
theorem d_Mod_begins_40 : decode c_Mod_begins 40 = .ok (.putfield 100, 3) := by decide +kernel
theorem d_Mod_begins_43 : decode c_Mod_begins 43 = .ok (.aload_n 0, 1) := by decide +kernel
theorem d_Mod_begins_44 : decode c_Mod_begins 44 = .ok (.getfield 100, 3) := by decide +kernel
theorem d_Mod_begins_47 : decode c_Mod_begins 47 = .ok (.ifCond .le 5, 3) := by decide +kernel
theorem d_Mod_begins_50 : decode c_Mod_begins 50 = .ok (.iconst 0, 1) := by decide +kernel
theorem d_Mod_begins_51 : decode c_Mod_begins 51 = .ok (.ireturn, 1) := by decide +kernel
theorem d_Mod_begins_52 : decode c_Mod_begins 52 = .ok (.aload_n 0, 1) := by decide +kernel
theorem d_Mod_begins_53 : decode c_Mod_begins 53 = .ok (.iconst 0, 1) := by decide +kernel
theorem d_Mod_begins_54 : decode c_Mod_begins 54 = .ok (.putfield 222, 3) := by decide +kernel
theorem d_Mod_begins_57 : decode c_Mod_begins 57 = .ok (.aload_n 0, 1) := by decide +kernel
theorem d_Mod_begins_58 : decode c_Mod_begins 58 = .ok (.iconst 0, 1) := by decide +kernel
theorem d_Mod_begins_59 : decode c_Mod_begins 59 = .ok (.putfield 247, 3) := by decide +kernel
theorem d_Mod_begins_62 : decode c_Mod_begins 62 = .ok (.aload_n 0, 1) := by decide +kernel
theorem d_Mod_begins_63 : decode c_Mod_begins 63 = .ok (.iload_n 2, 1) := by decide +kernel
theorem d_Mod_begins_64 : decode c_Mod_begins 64 = .ok (.putfield 250, 3) := by decide +kernel
theorem d_Mod_begins_67 : decode c_Mod_begins 67 = .ok (.iconst 1, 1) := by decide +kernel
theorem d_Mod_begins_68 : decode c_Mod_begins 68 = .ok (.ireturn, 1) := by decide +kernel
def Mod_round_b126 (N : Nat) (s0 : Int32) (σ : g_S) : Option (Int32 × g_S) := some (s0, σ)
theorem Mod_round_p126 (ao aa : Nat → Nat) {X : g_X} (hC : gC X c_Mod_round R_Mod 1 26 5 (some .int)) (N : Nat) (s0 : Int32) (σ : g_S) (r : Int32) (σe : g_S) (hf : Mod_round_b126 N s0 σ = some (r, σe)) : gw X (.inl (some (.int r))) (LM ao aa X.2.2.1 σe) (LM ao aa X.2.2.1 σ) [(0, .ref (ao 0))] 126 [.int s0] := by
  unfold Mod_round_b126 at hf
  cases hf
  exact gw_iret hC d_Mod_round_126
def Mod_round_b125 (N : Nat) (x3 : Int32) (σ : g_S) : Option (Int32 × g_S) := Mod_round_b126 N x3 σ
theorem Mod_round_p125 (ao aa : Nat → Nat) {X : g_X} (hC : gC X c_Mod_round R_Mod 1 26 5 (some .int)) (N : Nat) (x3 : Int32) (σ : g_S) (r : Int32) (σe : g_S) (hf : Mod_round_b125 N x3 σ = some (r, σe)) : gw X (.inl (some (.int r))) (LM ao aa X.2.2.1 σe) (LM ao aa X.2.2.1 σ) [(0, .ref (ao 0)), (3, .int x3)] 125 [] := by
  unfold Mod_round_b125 at hf
  refine gw_iload_n hC 1 d_Mod_round_125 rfl rfl ?_
  refine gw_lv [0] rfl ?_
  exact Mod_round_p126 ao aa hC N _ _ _ _ hf
def Mod_round_b116 (N : Nat) (x1 : Int32) (σ : g_S) : Option (Int32 × g_S) := if gIn x1 90000 = true then Mod_round_b126 N (σ.2 20 (x1).toNatClampNeg) σ else none
theorem Mod_round_p116 (ao aa : Nat → Nat) {X : g_X} (hC : gC X c_Mod_round R_Mod 1 26 5 (some .int)) (N : Nat) (x1 : Int32) (σ : g_S) (r : Int32) (σe : g_S) (hf : Mod_round_b116 N x1 σ = some (r, σe)) : gw X (.inl (some (.int r))) (LM ao aa X.2.2.1 σe) (LM ao aa X.2.2.1 σ) [(0, .ref (ao 0)), (1, .int x1)] 116 [] := by
  unfold Mod_round_b116 at hf
  refine gw_aload_n hC 0 d_Mod_round_116 rfl rfl ?_
  refine Mr_Mod_next hC kf_Mod_75 d_Mod_round_117 ?_
  refine gw_iload_n hC 1 d_Mod_round_120 rfl rfl ?_
  obtain ⟨hg121, hf⟩ := g_guard hf
  refine Mald (j := 20) hC (by decide) hg121 d_Mod_round_121 (σ.2 20 (x1).toNatClampNeg) rfl ?_
  refine gw_goto hC 126 d_Mod_round_122 (by decide) ?_
  refine gw_lv [0] rfl ?_
  exact Mod_round_p126 ao aa hC N _ _ _ _ hf
def Mod_round_b103 (N : Nat) (x1 : Int32) (x3 : Int32) (x4 : Int32) (s1 : Int32) (σ : g_S) : Option (Int32 × g_S) := (Mod_push N s1 (σ.1 11) 0 σ).bind fun q108 => if x4 = 0 then Mod_round_b125 N x3 q108.2 else Mod_round_b116 N x1 q108.2
theorem Mod_round_p103 (ao aa : Nat → Nat) {X : g_X} (hC : gC X c_Mod_round R_Mod 1 26 5 (some .int)) (N : Nat) (x1 : Int32) (x3 : Int32) (x4 : Int32) (s1 : Int32) (σ : g_S) (r : Int32) (σe : g_S) (hf : Mod_round_b103 N x1 x3 x4 s1 σ = some (r, σe)) : gw X (.inl (some (.int r))) (LM ao aa X.2.2.1 σe) (LM ao aa X.2.2.1 σ) [(0, .ref (ao 0)), (1, .int x1), (3, .int x3), (4, .int x4)] 103 [.int s1, .ref (ao 0)] := by
  unfold Mod_round_b103 at hf
  refine gw_aload_n hC 0 d_Mod_round_103 rfl rfl ?_
  refine Mg11 hC kf_Mod_129 d_Mod_round_104 (σ.1 11) rfl ?_
  refine gw_iconst hC 0 d_Mod_round_107 (by decide) ?_
  obtain ⟨q108, hq108, hf⟩ := g_bind hf
  refine gw_callV hC [.int s1, .int (σ.1 11), .int 0] [] (Mod_push_m _ _ _ ao aa N _ _ _ _ _ _ hq108) kc_Mod_279 0 (g_lay_obj rfl) rfl rfl ⟨by decide, by decide⟩ (Nat.le_of_ble_eq_true rfl) [.int 0, .int (σ.1 11), .int s1, .ref (ao 0)] [] rfl rfl d_Mod_round_108 ?_
  refine gw_iload hC 3 d_Mod_round_111 rfl ?_
  refine gw_if_eq hC 125 d_Mod_round_113 (by decide) (fun hh => ?_) (fun hh => ?_)
  · rw [if_pos hh] at hf
    refine gw_lv [0, 2] rfl ?_
    exact Mod_round_p125 ao aa hC N _ _ _ _ hf
  · rw [if_neg hh] at hf
    refine gw_lv [0, 1] rfl ?_
    exact Mod_round_p116 ao aa hC N _ _ _ _ hf
def Mod_round_b97 (N : Nat) (x1 : Int32) (x3 : Int32) (x4 : Int32) (σ : g_S) : Option (Int32 × g_S) := if gIn x1 90000 = true then Mod_round_b103 N x1 x3 x4 (σ.2 20 (x1).toNatClampNeg) σ else none
theorem Mod_round_p97 (ao aa : Nat → Nat) {X : g_X} (hC : gC X c_Mod_round R_Mod 1 26 5 (some .int)) (N : Nat) (x1 : Int32) (x3 : Int32) (x4 : Int32) (σ : g_S) (r : Int32) (σe : g_S) (hf : Mod_round_b97 N x1 x3 x4 σ = some (r, σe)) : gw X (.inl (some (.int r))) (LM ao aa X.2.2.1 σe) (LM ao aa X.2.2.1 σ) [(0, .ref (ao 0)), (1, .int x1), (3, .int x3), (4, .int x4)] 97 [.ref (ao 0)] := by
  unfold Mod_round_b97 at hf
  refine gw_aload_n hC 0 d_Mod_round_97 rfl rfl ?_
  refine Mr_Mod_next hC kf_Mod_75 d_Mod_round_98 ?_
  refine gw_iload_n hC 1 d_Mod_round_101 rfl rfl ?_
  obtain ⟨hg102, hf⟩ := g_guard hf
  refine Mald (j := 20) hC (by decide) hg102 d_Mod_round_102 (σ.2 20 (x1).toNatClampNeg) rfl ?_
  exact Mod_round_p103 ao aa hC N _ _ _ _ _ _ _ hf
def Mod_round_b93 (N : Nat) (x1 : Int32) (x3 : Int32) (x4 : Int32) (σ : g_S) : Option (Int32 × g_S) := Mod_round_b103 N x1 x3 x4 x3 σ
theorem Mod_round_p93 (ao aa : Nat → Nat) {X : g_X} (hC : gC X c_Mod_round R_Mod 1 26 5 (some .int)) (N : Nat) (x1 : Int32) (x3 : Int32) (x4 : Int32) (σ : g_S) (r : Int32) (σe : g_S) (hf : Mod_round_b93 N x1 x3 x4 σ = some (r, σe)) : gw X (.inl (some (.int r))) (LM ao aa X.2.2.1 σe) (LM ao aa X.2.2.1 σ) [(0, .ref (ao 0)), (1, .int x1), (3, .int x3), (4, .int x4)] 93 [.ref (ao 0)] := by
  unfold Mod_round_b93 at hf
  refine gw_iload_n hC 2 d_Mod_round_93 rfl rfl ?_
  refine gw_goto hC 103 d_Mod_round_94 (by decide) ?_
  exact Mod_round_p103 ao aa hC N _ _ _ _ _ _ _ hf
def Mod_round_b85 (N : Nat) (x1 : Int32) (x3 : Int32) (s0 : Int32) (σ : g_S) : Option (Int32 × g_S) := if s0 = 0 then Mod_round_b97 N x1 x3 s0 σ else Mod_round_b93 N x1 x3 s0 σ
theorem Mod_round_p85 (ao aa : Nat → Nat) {X : g_X} (hC : gC X c_Mod_round R_Mod 1 26 5 (some .int)) (N : Nat) (x1 : Int32) (x3 : Int32) (s0 : Int32) (σ : g_S) (r : Int32) (σe : g_S) (hf : Mod_round_b85 N x1 x3 s0 σ = some (r, σe)) : gw X (.inl (some (.int r))) (LM ao aa X.2.2.1 σe) (LM ao aa X.2.2.1 σ) [(0, .ref (ao 0)), (1, .int x1), (3, .int x3)] 85 [.int s0] := by
  unfold Mod_round_b85 at hf
  refine gw_istore hC [(4, .int s0), (0, .ref (ao 0)), (1, .int x1), (3, .int x3)] d_Mod_round_85 (by decide) rfl ?_
  refine gw_aload_n hC 1 d_Mod_round_87 rfl rfl ?_
  refine gw_iload hC 0 d_Mod_round_88 rfl ?_
  refine gw_if_eq hC 97 d_Mod_round_90 (by decide) (fun hh => ?_) (fun hh => ?_)
  · rw [if_pos hh] at hf
    refine gw_lv [1, 2, 3, 0] rfl ?_
    exact Mod_round_p97 ao aa hC N _ _ _ _ _ _ hf
  · rw [if_neg hh] at hf
    refine gw_lv [1, 2, 3, 0] rfl ?_
    exact Mod_round_p93 ao aa hC N _ _ _ _ _ _ hf
def Mod_round_b84 (N : Nat) (x1 : Int32) (x3 : Int32) (σ : g_S) : Option (Int32 × g_S) := Mod_round_b85 N x1 x3 0 σ
theorem Mod_round_p84 (ao aa : Nat → Nat) {X : g_X} (hC : gC X c_Mod_round R_Mod 1 26 5 (some .int)) (N : Nat) (x1 : Int32) (x3 : Int32) (σ : g_S) (r : Int32) (σe : g_S) (hf : Mod_round_b84 N x1 x3 σ = some (r, σe)) : gw X (.inl (some (.int r))) (LM ao aa X.2.2.1 σe) (LM ao aa X.2.2.1 σ) [(0, .ref (ao 0)), (1, .int x1), (3, .int x3)] 84 [] := by
  unfold Mod_round_b84 at hf
  refine gw_iconst hC 0 d_Mod_round_84 (by decide) ?_
  exact Mod_round_p85 ao aa hC N _ _ _ _ _ _ hf
def Mod_round_b80 (N : Nat) (x1 : Int32) (x3 : Int32) (σ : g_S) : Option (Int32 × g_S) := Mod_round_b85 N x1 x3 1 σ
theorem Mod_round_p80 (ao aa : Nat → Nat) {X : g_X} (hC : gC X c_Mod_round R_Mod 1 26 5 (some .int)) (N : Nat) (x1 : Int32) (x3 : Int32) (σ : g_S) (r : Int32) (σe : g_S) (hf : Mod_round_b80 N x1 x3 σ = some (r, σe)) : gw X (.inl (some (.int r))) (LM ao aa X.2.2.1 σe) (LM ao aa X.2.2.1 σ) [(0, .ref (ao 0)), (1, .int x1), (3, .int x3)] 80 [] := by
  unfold Mod_round_b80 at hf
  refine gw_iconst hC 1 d_Mod_round_80 (by decide) ?_
  refine gw_goto hC 85 d_Mod_round_81 (by decide) ?_
  exact Mod_round_p85 ao aa hC N _ _ _ _ _ _ hf
def Mod_round_b70 (N : Nat) (x1 : Int32) (x2 : Int32) (x3 : Int32) (σ : g_S) : Option (Int32 × g_S) := if gIn x2 1300 = true then if (σ.2 6 (x2).toNatClampNeg) = 1 then Mod_round_b80 N x1 x3 σ else Mod_round_b84 N x1 x3 σ else none
theorem Mod_round_p70 (ao aa : Nat → Nat) {X : g_X} (hC : gC X c_Mod_round R_Mod 1 26 5 (some .int)) (N : Nat) (x1 : Int32) (x2 : Int32) (x3 : Int32) (σ : g_S) (r : Int32) (σe : g_S) (hf : Mod_round_b70 N x1 x2 x3 σ = some (r, σe)) : gw X (.inl (some (.int r))) (LM ao aa X.2.2.1 σe) (LM ao aa X.2.2.1 σ) [(0, .ref (ao 0)), (1, .int x1), (2, .int x2), (3, .int x3)] 70 [] := by
  unfold Mod_round_b70 at hf
  refine gw_aload_n hC 0 d_Mod_round_70 rfl rfl ?_
  refine Mr_Mod_c hC kf_Mod_32 d_Mod_round_71 ?_
  refine gw_iload_n hC 2 d_Mod_round_74 rfl rfl ?_
  obtain ⟨hg75, hf⟩ := g_guard hf
  refine Mald (j := 6) hC (by decide) hg75 d_Mod_round_75 (σ.2 6 (x2).toNatClampNeg) rfl ?_
  refine gw_iconst hC 1 d_Mod_round_76 (by decide) ?_
  refine gw_icmp_ne hC 84 d_Mod_round_77 (by decide) (fun hh => ?_) (fun hh => ?_)
  · rw [if_neg hh] at hf
    refine gw_lv [0, 1, 3] rfl ?_
    exact Mod_round_p84 ao aa hC N _ _ _ _ _ hf
  · rw [if_pos hh] at hf
    refine gw_lv [0, 1, 3] rfl ?_
    exact Mod_round_p80 ao aa hC N _ _ _ _ _ hf
def Mod_round_b68 (N : Nat) (x3 : Int32) (σ : g_S) : Option (Int32 × g_S) := some (x3, σ)
theorem Mod_round_p68 (ao aa : Nat → Nat) {X : g_X} (hC : gC X c_Mod_round R_Mod 1 26 5 (some .int)) (N : Nat) (x3 : Int32) (σ : g_S) (r : Int32) (σe : g_S) (hf : Mod_round_b68 N x3 σ = some (r, σe)) : gw X (.inl (some (.int r))) (LM ao aa X.2.2.1 σe) (LM ao aa X.2.2.1 σ) [(0, .ref (ao 0)), (3, .int x3)] 68 [] := by
  unfold Mod_round_b68 at hf
  refine gw_iload_n hC 1 d_Mod_round_68 rfl rfl ?_
  cases hf
  exact gw_iret hC d_Mod_round_69
def Mod_round_b33 (N : Nat) (x1 : Int32) (x2 : Int32) (σ : g_S) : Option (Int32 × g_S) := if gIn x1 90000 = true then (Mod_row N 5 x2 (σ.2 20 (x1).toNatClampNeg) (σ.2 21 (x1).toNatClampNeg) (σ.2 22 (x1).toNatClampNeg) 0 σ).bind fun q55 => if (q55.2.2 21 (x1).toNatClampNeg) ≤ 0 then Mod_round_b70 N x1 x2 q55.1 q55.2 else Mod_round_b68 N q55.1 q55.2 else none
theorem Mod_round_p33 (ao aa : Nat → Nat) {X : g_X} (hC : gC X c_Mod_round R_Mod 1 26 5 (some .int)) (N : Nat) (x1 : Int32) (x2 : Int32) (σ : g_S) (r : Int32) (σe : g_S) (hf : Mod_round_b33 N x1 x2 σ = some (r, σe)) : gw X (.inl (some (.int r))) (LM ao aa X.2.2.1 σe) (LM ao aa X.2.2.1 σ) [(0, .ref (ao 0)), (1, .int x1), (2, .int x2)] 33 [] := by
  unfold Mod_round_b33 at hf
  refine gw_aload_n hC 0 d_Mod_round_33 rfl rfl ?_
  refine gw_iconst hC 5 d_Mod_round_34 (by decide) ?_
  refine gw_iload_n hC 2 d_Mod_round_35 rfl rfl ?_
  refine gw_aload_n hC 0 d_Mod_round_36 rfl rfl ?_
  refine Mr_Mod_next hC kf_Mod_75 d_Mod_round_37 ?_
  refine gw_iload_n hC 1 d_Mod_round_40 rfl rfl ?_
  obtain ⟨hg41, hf⟩ := g_guard hf
  refine Mald (j := 20) hC (by decide) hg41 d_Mod_round_41 (σ.2 20 (x1).toNatClampNeg) rfl ?_
  refine gw_aload_n hC 0 d_Mod_round_42 rfl rfl ?_
  refine Mr_Mod_x hC kf_Mod_78 d_Mod_round_43 ?_
  refine gw_iload_n hC 1 d_Mod_round_46 rfl rfl ?_
  refine Mald (j := 21) hC (by decide) hg41 d_Mod_round_47 (σ.2 21 (x1).toNatClampNeg) rfl ?_
  refine gw_aload_n hC 0 d_Mod_round_48 rfl rfl ?_
  refine Mr_Mod_y hC kf_Mod_81 d_Mod_round_49 ?_
  refine gw_iload_n hC 1 d_Mod_round_52 rfl rfl ?_
  refine Mald (j := 22) hC (by decide) hg41 d_Mod_round_53 (σ.2 22 (x1).toNatClampNeg) rfl ?_
  refine gw_iconst hC 0 d_Mod_round_54 (by decide) ?_
  obtain ⟨q55, hq55, hf⟩ := g_bind hf
  refine gw_callV hC [.int 5, .int x2, .int (σ.2 20 (x1).toNatClampNeg), .int (σ.2 21 (x1).toNatClampNeg), .int (σ.2 22 (x1).toNatClampNeg), .int 0] [] (Mod_row_m _ _ _ ao aa N _ _ _ _ _ _ _ _ _ hq55) kc_Mod_275 0 (g_lay_obj rfl) rfl rfl ⟨by decide, by decide⟩ (Nat.le_of_ble_eq_true rfl) [.int 0, .int (σ.2 22 (x1).toNatClampNeg), .int (σ.2 21 (x1).toNatClampNeg), .int (σ.2 20 (x1).toNatClampNeg), .int x2, .int 5, .ref (ao 0)] [.int q55.1] rfl rfl d_Mod_round_55 ?_
  refine gw_istore_n hC [(3, .int q55.1), (0, .ref (ao 0)), (1, .int x1), (2, .int x2)] d_Mod_round_58 rfl (by decide) rfl ?_
  refine gw_aload_n hC 1 d_Mod_round_59 rfl rfl ?_
  refine Mr_Mod_x hC kf_Mod_78 d_Mod_round_60 ?_
  refine gw_iload_n hC 2 d_Mod_round_63 rfl rfl ?_
  refine Mald (j := 21) hC (by decide) hg41 d_Mod_round_64 (q55.2.2 21 (x1).toNatClampNeg) rfl ?_
  refine gw_if_le hC 70 d_Mod_round_65 (by decide) (fun hh => ?_) (fun hh => ?_)
  · rw [if_pos hh] at hf
    refine gw_lv [1, 2, 3, 0] rfl ?_
    exact Mod_round_p70 ao aa hC N _ _ _ _ _ _ hf
  · rw [if_neg hh] at hf
    refine gw_lv [1, 0] rfl ?_
    exact Mod_round_p68 ao aa hC N _ _ _ _ hf
def Mod_round_b26 (N : Nat) (x1 : Int32) (σ : g_S) : Option (Int32 × g_S) := if gIn x1 90000 = true then some ((σ.2 20 (x1).toNatClampNeg), σ) else none
theorem Mod_round_p26 (ao aa : Nat → Nat) {X : g_X} (hC : gC X c_Mod_round R_Mod 1 26 5 (some .int)) (N : Nat) (x1 : Int32) (σ : g_S) (r : Int32) (σe : g_S) (hf : Mod_round_b26 N x1 σ = some (r, σe)) : gw X (.inl (some (.int r))) (LM ao aa X.2.2.1 σe) (LM ao aa X.2.2.1 σ) [(0, .ref (ao 0)), (1, .int x1)] 26 [] := by
  unfold Mod_round_b26 at hf
  refine gw_aload_n hC 0 d_Mod_round_26 rfl rfl ?_
  refine Mr_Mod_next hC kf_Mod_75 d_Mod_round_27 ?_
  refine gw_iload_n hC 1 d_Mod_round_30 rfl rfl ?_
  obtain ⟨hg31, hf⟩ := g_guard hf
  refine Mald (j := 20) hC (by decide) hg31 d_Mod_round_31 (σ.2 20 (x1).toNatClampNeg) rfl ?_
  cases hf
  exact gw_iret hC d_Mod_round_32
def Mod_round_b17 (N : Nat) (x1 : Int32) (x2 : Int32) (σ : g_S) : Option (Int32 × g_S) := if gIn x1 90000 = true then if (σ.2 22 (x1).toNatClampNeg) = 0 then Mod_round_b26 N x1 σ else Mod_round_b33 N x1 x2 σ else none
theorem Mod_round_p17 (ao aa : Nat → Nat) {X : g_X} (hC : gC X c_Mod_round R_Mod 1 26 5 (some .int)) (N : Nat) (x1 : Int32) (x2 : Int32) (σ : g_S) (r : Int32) (σe : g_S) (hf : Mod_round_b17 N x1 x2 σ = some (r, σe)) : gw X (.inl (some (.int r))) (LM ao aa X.2.2.1 σe) (LM ao aa X.2.2.1 σ) [(0, .ref (ao 0)), (1, .int x1), (2, .int x2)] 17 [] := by
  unfold Mod_round_b17 at hf
  refine gw_aload_n hC 0 d_Mod_round_17 rfl rfl ?_
  refine Mr_Mod_y hC kf_Mod_81 d_Mod_round_18 ?_
  refine gw_iload_n hC 1 d_Mod_round_21 rfl rfl ?_
  obtain ⟨hg22, hf⟩ := g_guard hf
  refine Mald (j := 22) hC (by decide) hg22 d_Mod_round_22 (σ.2 22 (x1).toNatClampNeg) rfl ?_
  refine gw_if_ne hC 33 d_Mod_round_23 (by decide) (fun hh => ?_) (fun hh => ?_)
  · rw [if_neg hh] at hf
    exact Mod_round_p33 ao aa hC N _ _ _ _ _ hf
  · rw [if_pos hh] at hf
    refine gw_lv [0, 1] rfl ?_
    exact Mod_round_p26 ao aa hC N _ _ _ _ hf
def Mod_round_b14 (N : Nat) (σ : g_S) : Option (Int32 × g_S) := some ((-2), σ)
theorem Mod_round_p14 (ao aa : Nat → Nat) {X : g_X} (hC : gC X c_Mod_round R_Mod 1 26 5 (some .int)) (N : Nat) (σ : g_S) (r : Int32) (σe : g_S) (hf : Mod_round_b14 N σ = some (r, σe)) : gw X (.inl (some (.int r))) (LM ao aa X.2.2.1 σe) (LM ao aa X.2.2.1 σ) [(0, .ref (ao 0))] 14 [] := by
  unfold Mod_round_b14 at hf
  refine gw_bipush hC (-2) d_Mod_round_14 (by decide) ?_
  cases hf
  exact gw_iret hC d_Mod_round_16
def Mod_round_b0 (N : Nat) (x1 : Int32) (σ : g_S) : Option (Int32 × g_S) := if gIn x1 90000 = true then (Mod_spends N σ).bind fun q8 => if q8.1 = 0 then Mod_round_b14 N q8.2 else Mod_round_b17 N x1 (σ.2 19 (x1).toNatClampNeg) q8.2 else none
theorem Mod_round_p0 (ao aa : Nat → Nat) {X : g_X} (hC : gC X c_Mod_round R_Mod 1 26 5 (some .int)) (N : Nat) (x1 : Int32) (σ : g_S) (r : Int32) (σe : g_S) (hf : Mod_round_b0 N x1 σ = some (r, σe)) : gw X (.inl (some (.int r))) (LM ao aa X.2.2.1 σe) (LM ao aa X.2.2.1 σ) [(0, .ref (ao 0)), (1, .int x1)] 0 [] := by
  unfold Mod_round_b0 at hf
  refine gw_aload_n hC 0 d_Mod_round_0 rfl rfl ?_
  refine Mr_Mod_which hC kf_Mod_72 d_Mod_round_1 ?_
  refine gw_iload_n hC 1 d_Mod_round_4 rfl rfl ?_
  obtain ⟨hg5, hf⟩ := g_guard hf
  refine Mald (j := 19) hC (by decide) hg5 d_Mod_round_5 (σ.2 19 (x1).toNatClampNeg) rfl ?_
  refine gw_istore_n hC [(2, .int (σ.2 19 (x1).toNatClampNeg)), (0, .ref (ao 0)), (1, .int x1)] d_Mod_round_6 rfl (by decide) rfl ?_
  refine gw_aload_n hC 1 d_Mod_round_7 rfl rfl ?_
  obtain ⟨q8, hq8, hf⟩ := g_bind hf
  refine gw_callV hC [] [] (Mod_spends_m _ _ _ ao aa N _ _ _ hq8) kc_Mod_283 0 (g_lay_obj rfl) rfl rfl ⟨by decide, by decide⟩ (Nat.le_of_ble_eq_true rfl) [.ref (ao 0)] [.int q8.1] rfl rfl d_Mod_round_8 ?_
  refine gw_if_ne hC 17 d_Mod_round_11 (by decide) (fun hh => ?_) (fun hh => ?_)
  · rw [if_neg hh] at hf
    refine gw_lv [1, 2, 0] rfl ?_
    exact Mod_round_p17 ao aa hC N _ _ _ _ _ hf
  · rw [if_pos hh] at hf
    refine gw_lv [1] rfl ?_
    exact Mod_round_p14 ao aa hC N _ _ _ hf
def Mod_round (N : Nat) (x1 : Int32) (σ : g_S) : Option (Int32 × g_S) := Mod_round_b0 N x1 σ
theorem Mod_round_m (l : Launch) (D : va_G) (cA : ClassId) (ao aa : Nat → Nat) (N : Nat) (x1 : Int32) (σ : g_S) (r : Int32) (σe : g_S) (hf : Mod_round N x1 σ = some (r, σe)) : Mt l D cA y_Mod_round c_Mod_round 5 (some .int) 1 26 [.ref (ao 0), .int x1] (LM ao aa cA σ) (some (.int r)) (LM ao aa cA σe) := by
  refine g_met (by decide +kernel) (by simp [lg_sl, Value.category]) (fun X e1 e2 e3 hC => ?_)
  subst e1 e2 e3
  refine gw_lv [0, 1] rfl ?_
  exact Mod_round_p0 ao aa hC N _ _ (r) _ hf
def Mod_endRound_b83 (N : Nat) (s1 : Int32) (s2 : Int32) (s3 : Int32) (s4 : Int32) (s5 : Int32) (σ : g_S) : Option (Int32 × g_S) := (Mod_row N s1 s2 s3 s4 s5 0 σ).bind fun q84 => some (q84.1, q84.2)
theorem Mod_endRound_p83 (ao aa : Nat → Nat) {X : g_X} (hC : gC X c_Mod_endRound R_Mod 1 26 2 (some .int)) (N : Nat) (s1 : Int32) (s2 : Int32) (s3 : Int32) (s4 : Int32) (s5 : Int32) (σ : g_S) (r : Int32) (σe : g_S) (hf : Mod_endRound_b83 N s1 s2 s3 s4 s5 σ = some (r, σe)) : gw X (.inl (some (.int r))) (LM ao aa X.2.2.1 σe) (LM ao aa X.2.2.1 σ) [(0, .ref (ao 0))] 83 [.int s5, .int s4, .int s3, .int s2, .int s1, .ref (ao 0)] := by
  unfold Mod_endRound_b83 at hf
  refine gw_iconst hC 0 d_Mod_endRound_83 (by decide) ?_
  obtain ⟨q84, hq84, hf⟩ := g_bind hf
  refine gw_callV hC [.int s1, .int s2, .int s3, .int s4, .int s5, .int 0] [] (Mod_row_m _ _ _ ao aa N _ _ _ _ _ _ _ _ _ hq84) kc_Mod_275 0 (g_lay_obj rfl) rfl rfl ⟨by decide, by decide⟩ (Nat.le_of_ble_eq_true rfl) [.int 0, .int s5, .int s4, .int s3, .int s2, .int s1, .ref (ao 0)] [.int q84.1] rfl rfl d_Mod_endRound_84 ?_
  cases hf
  exact gw_iret hC d_Mod_endRound_87
def Mod_endRound_b75 (N : Nat) (x1 : Int32) (s1 : Int32) (s2 : Int32) (s3 : Int32) (s4 : Int32) (σ : g_S) : Option (Int32 × g_S) := if gIn x1 90000 = true then Mod_endRound_b83 N s1 s2 s3 s4 ((σ.2 22 (x1).toNatClampNeg) - 1) σ else none
theorem Mod_endRound_p75 (ao aa : Nat → Nat) {X : g_X} (hC : gC X c_Mod_endRound R_Mod 1 26 2 (some .int)) (N : Nat) (x1 : Int32) (s1 : Int32) (s2 : Int32) (s3 : Int32) (s4 : Int32) (σ : g_S) (r : Int32) (σe : g_S) (hf : Mod_endRound_b75 N x1 s1 s2 s3 s4 σ = some (r, σe)) : gw X (.inl (some (.int r))) (LM ao aa X.2.2.1 σe) (LM ao aa X.2.2.1 σ) [(0, .ref (ao 0)), (1, .int x1)] 75 [.int s4, .int s3, .int s2, .int s1, .ref (ao 0)] := by
  unfold Mod_endRound_b75 at hf
  refine gw_aload_n hC 0 d_Mod_endRound_75 rfl rfl ?_
  refine Mr_Mod_y hC kf_Mod_81 d_Mod_endRound_76 ?_
  refine gw_iload_n hC 1 d_Mod_endRound_79 rfl rfl ?_
  obtain ⟨hg80, hf⟩ := g_guard hf
  refine Mald (j := 22) hC (by decide) hg80 d_Mod_endRound_80 (σ.2 22 (x1).toNatClampNeg) rfl ?_
  refine gw_iconst hC 1 d_Mod_endRound_81 (by decide) ?_
  refine gw_isub hC d_Mod_endRound_82 ?_
  refine gw_lv [0] rfl ?_
  exact Mod_endRound_p83 ao aa hC N _ _ _ _ _ _ _ _ hf
def Mod_endRound_b70 (N : Nat) (s1 : Int32) (s2 : Int32) (s3 : Int32) (s4 : Int32) (σ : g_S) : Option (Int32 × g_S) := Mod_endRound_b83 N s1 s2 s3 s4 1000000 σ
theorem Mod_endRound_p70 (ao aa : Nat → Nat) {X : g_X} (hC : gC X c_Mod_endRound R_Mod 1 26 2 (some .int)) (N : Nat) (s1 : Int32) (s2 : Int32) (s3 : Int32) (s4 : Int32) (σ : g_S) (r : Int32) (σe : g_S) (hf : Mod_endRound_b70 N s1 s2 s3 s4 σ = some (r, σe)) : gw X (.inl (some (.int r))) (LM ao aa X.2.2.1 σe) (LM ao aa X.2.2.1 σ) [(0, .ref (ao 0))] 70 [.int s4, .int s3, .int s2, .int s1, .ref (ao 0)] := by
  unfold Mod_endRound_b70 at hf
  refine gw_ldc hC 1000000 kn_Mod_190 d_Mod_endRound_70 ?_
  refine gw_goto hC 83 d_Mod_endRound_72 (by decide) ?_
  exact Mod_endRound_p83 ao aa hC N _ _ _ _ _ _ _ _ hf
def Mod_endRound_b59 (N : Nat) (x1 : Int32) (s1 : Int32) (s2 : Int32) (s3 : Int32) (s4 : Int32) (σ : g_S) : Option (Int32 × g_S) := if gIn x1 90000 = true then if (σ.2 22 (x1).toNatClampNeg) = 1000000 then Mod_endRound_b70 N s1 s2 s3 s4 σ else Mod_endRound_b75 N x1 s1 s2 s3 s4 σ else none
theorem Mod_endRound_p59 (ao aa : Nat → Nat) {X : g_X} (hC : gC X c_Mod_endRound R_Mod 1 26 2 (some .int)) (N : Nat) (x1 : Int32) (s1 : Int32) (s2 : Int32) (s3 : Int32) (s4 : Int32) (σ : g_S) (r : Int32) (σe : g_S) (hf : Mod_endRound_b59 N x1 s1 s2 s3 s4 σ = some (r, σe)) : gw X (.inl (some (.int r))) (LM ao aa X.2.2.1 σe) (LM ao aa X.2.2.1 σ) [(0, .ref (ao 0)), (1, .int x1)] 59 [.int s4, .int s3, .int s2, .int s1, .ref (ao 0)] := by
  unfold Mod_endRound_b59 at hf
  refine gw_aload_n hC 0 d_Mod_endRound_59 rfl rfl ?_
  refine Mr_Mod_y hC kf_Mod_81 d_Mod_endRound_60 ?_
  refine gw_iload_n hC 1 d_Mod_endRound_63 rfl rfl ?_
  obtain ⟨hg64, hf⟩ := g_guard hf
  refine Mald (j := 22) hC (by decide) hg64 d_Mod_endRound_64 (σ.2 22 (x1).toNatClampNeg) rfl ?_
  refine gw_ldc hC 1000000 kn_Mod_190 d_Mod_endRound_65 ?_
  refine gw_icmp_ne hC 75 d_Mod_endRound_67 (by decide) (fun hh => ?_) (fun hh => ?_)
  · rw [if_neg hh] at hf
    exact Mod_endRound_p75 ao aa hC N _ _ _ _ _ _ _ _ hf
  · rw [if_pos hh] at hf
    refine gw_lv [0] rfl ?_
    exact Mod_endRound_p70 ao aa hC N _ _ _ _ _ _ _ hf
def Mod_endRound_b51 (N : Nat) (x1 : Int32) (s1 : Int32) (s2 : Int32) (s3 : Int32) (σ : g_S) : Option (Int32 × g_S) := if gIn x1 90000 = true then Mod_endRound_b59 N x1 s1 s2 s3 ((σ.2 21 (x1).toNatClampNeg) - 1) σ else none
theorem Mod_endRound_p51 (ao aa : Nat → Nat) {X : g_X} (hC : gC X c_Mod_endRound R_Mod 1 26 2 (some .int)) (N : Nat) (x1 : Int32) (s1 : Int32) (s2 : Int32) (s3 : Int32) (σ : g_S) (r : Int32) (σe : g_S) (hf : Mod_endRound_b51 N x1 s1 s2 s3 σ = some (r, σe)) : gw X (.inl (some (.int r))) (LM ao aa X.2.2.1 σe) (LM ao aa X.2.2.1 σ) [(0, .ref (ao 0)), (1, .int x1)] 51 [.int s3, .int s2, .int s1, .ref (ao 0)] := by
  unfold Mod_endRound_b51 at hf
  refine gw_aload_n hC 0 d_Mod_endRound_51 rfl rfl ?_
  refine Mr_Mod_x hC kf_Mod_78 d_Mod_endRound_52 ?_
  refine gw_iload_n hC 1 d_Mod_endRound_55 rfl rfl ?_
  obtain ⟨hg56, hf⟩ := g_guard hf
  refine Mald (j := 21) hC (by decide) hg56 d_Mod_endRound_56 (σ.2 21 (x1).toNatClampNeg) rfl ?_
  refine gw_iconst hC 1 d_Mod_endRound_57 (by decide) ?_
  refine gw_isub hC d_Mod_endRound_58 ?_
  exact Mod_endRound_p59 ao aa hC N _ _ _ _ _ _ _ _ hf
def Mod_endRound_b47 (N : Nat) (x1 : Int32) (s1 : Int32) (s2 : Int32) (s3 : Int32) (σ : g_S) : Option (Int32 × g_S) := Mod_endRound_b59 N x1 s1 s2 s3 0 σ
theorem Mod_endRound_p47 (ao aa : Nat → Nat) {X : g_X} (hC : gC X c_Mod_endRound R_Mod 1 26 2 (some .int)) (N : Nat) (x1 : Int32) (s1 : Int32) (s2 : Int32) (s3 : Int32) (σ : g_S) (r : Int32) (σe : g_S) (hf : Mod_endRound_b47 N x1 s1 s2 s3 σ = some (r, σe)) : gw X (.inl (some (.int r))) (LM ao aa X.2.2.1 σe) (LM ao aa X.2.2.1 σ) [(0, .ref (ao 0)), (1, .int x1)] 47 [.int s3, .int s2, .int s1, .ref (ao 0)] := by
  unfold Mod_endRound_b47 at hf
  refine gw_iconst hC 0 d_Mod_endRound_47 (by decide) ?_
  refine gw_goto hC 59 d_Mod_endRound_48 (by decide) ?_
  exact Mod_endRound_p59 ao aa hC N _ _ _ _ _ _ _ _ hf
def Mod_endRound_b24 (N : Nat) (x1 : Int32) (σ : g_S) : Option (Int32 × g_S) := if gIn x1 90000 = true then if (σ.2 21 (x1).toNatClampNeg) = 0 then Mod_endRound_b47 N x1 4 (σ.2 19 (x1).toNatClampNeg) (σ.2 20 (x1).toNatClampNeg) σ else Mod_endRound_b51 N x1 4 (σ.2 19 (x1).toNatClampNeg) (σ.2 20 (x1).toNatClampNeg) σ else none
theorem Mod_endRound_p24 (ao aa : Nat → Nat) {X : g_X} (hC : gC X c_Mod_endRound R_Mod 1 26 2 (some .int)) (N : Nat) (x1 : Int32) (σ : g_S) (r : Int32) (σe : g_S) (hf : Mod_endRound_b24 N x1 σ = some (r, σe)) : gw X (.inl (some (.int r))) (LM ao aa X.2.2.1 σe) (LM ao aa X.2.2.1 σ) [(0, .ref (ao 0)), (1, .int x1)] 24 [] := by
  unfold Mod_endRound_b24 at hf
  refine gw_aload_n hC 0 d_Mod_endRound_24 rfl rfl ?_
  refine gw_iconst hC 4 d_Mod_endRound_25 (by decide) ?_
  refine gw_aload_n hC 0 d_Mod_endRound_26 rfl rfl ?_
  refine Mr_Mod_which hC kf_Mod_72 d_Mod_endRound_27 ?_
  refine gw_iload_n hC 1 d_Mod_endRound_30 rfl rfl ?_
  obtain ⟨hg31, hf⟩ := g_guard hf
  refine Mald (j := 19) hC (by decide) hg31 d_Mod_endRound_31 (σ.2 19 (x1).toNatClampNeg) rfl ?_
  refine gw_aload_n hC 0 d_Mod_endRound_32 rfl rfl ?_
  refine Mr_Mod_next hC kf_Mod_75 d_Mod_endRound_33 ?_
  refine gw_iload_n hC 1 d_Mod_endRound_36 rfl rfl ?_
  refine Mald (j := 20) hC (by decide) hg31 d_Mod_endRound_37 (σ.2 20 (x1).toNatClampNeg) rfl ?_
  refine gw_aload_n hC 0 d_Mod_endRound_38 rfl rfl ?_
  refine Mr_Mod_x hC kf_Mod_78 d_Mod_endRound_39 ?_
  refine gw_iload_n hC 1 d_Mod_endRound_42 rfl rfl ?_
  refine Mald (j := 21) hC (by decide) hg31 d_Mod_endRound_43 (σ.2 21 (x1).toNatClampNeg) rfl ?_
  refine gw_if_ne hC 51 d_Mod_endRound_44 (by decide) (fun hh => ?_) (fun hh => ?_)
  · rw [if_neg hh] at hf
    exact Mod_endRound_p51 ao aa hC N _ _ _ _ _ _ _ hf
  · rw [if_pos hh] at hf
    exact Mod_endRound_p47 ao aa hC N _ _ _ _ _ _ _ hf
def Mod_endRound_b22 (N : Nat) (σ : g_S) : Option (Int32 × g_S) := some ((-1), σ)
theorem Mod_endRound_p22 (ao aa : Nat → Nat) {X : g_X} (hC : gC X c_Mod_endRound R_Mod 1 26 2 (some .int)) (N : Nat) (σ : g_S) (r : Int32) (σe : g_S) (hf : Mod_endRound_b22 N σ = some (r, σe)) : gw X (.inl (some (.int r))) (LM ao aa X.2.2.1 σe) (LM ao aa X.2.2.1 σ) [(0, .ref (ao 0))] 22 [] := by
  unfold Mod_endRound_b22 at hf
  refine gw_iconst hC (-1) d_Mod_endRound_22 (by decide) ?_
  cases hf
  exact gw_iret hC d_Mod_endRound_23
def Mod_endRound_b9 (N : Nat) (x1 : Int32) (σ : g_S) : Option (Int32 × g_S) := if gIn x1 90000 = true then if (σ.1 11) = (σ.2 23 (x1).toNatClampNeg) then Mod_endRound_b22 N σ else Mod_endRound_b24 N x1 σ else none
theorem Mod_endRound_p9 (ao aa : Nat → Nat) {X : g_X} (hC : gC X c_Mod_endRound R_Mod 1 26 2 (some .int)) (N : Nat) (x1 : Int32) (σ : g_S) (r : Int32) (σe : g_S) (hf : Mod_endRound_b9 N x1 σ = some (r, σe)) : gw X (.inl (some (.int r))) (LM ao aa X.2.2.1 σe) (LM ao aa X.2.2.1 σ) [(0, .ref (ao 0)), (1, .int x1)] 9 [] := by
  unfold Mod_endRound_b9 at hf
  refine gw_aload_n hC 0 d_Mod_endRound_9 rfl rfl ?_
  refine Mg11 hC kf_Mod_129 d_Mod_endRound_10 (σ.1 11) rfl ?_
  refine gw_aload_n hC 0 d_Mod_endRound_13 rfl rfl ?_
  refine Mr_Mod_z hC kf_Mod_84 d_Mod_endRound_14 ?_
  refine gw_iload_n hC 1 d_Mod_endRound_17 rfl rfl ?_
  obtain ⟨hg18, hf⟩ := g_guard hf
  refine Mald (j := 23) hC (by decide) hg18 d_Mod_endRound_18 (σ.2 23 (x1).toNatClampNeg) rfl ?_
  refine gw_icmp_ne hC 24 d_Mod_endRound_19 (by decide) (fun hh => ?_) (fun hh => ?_)
  · rw [if_neg hh] at hf
    exact Mod_endRound_p24 ao aa hC N _ _ _ _ hf
  · rw [if_pos hh] at hf
    refine gw_lv [0] rfl ?_
    exact Mod_endRound_p22 ao aa hC N _ _ _ hf
def Mod_endRound_b0 (N : Nat) (x1 : Int32) (σ : g_S) : Option (Int32 × g_S) := if gIn x1 90000 = true then if (σ.2 21 (x1).toNatClampNeg) = 0 then Mod_endRound_b9 N x1 σ else Mod_endRound_b24 N x1 σ else none
theorem Mod_endRound_p0 (ao aa : Nat → Nat) {X : g_X} (hC : gC X c_Mod_endRound R_Mod 1 26 2 (some .int)) (N : Nat) (x1 : Int32) (σ : g_S) (r : Int32) (σe : g_S) (hf : Mod_endRound_b0 N x1 σ = some (r, σe)) : gw X (.inl (some (.int r))) (LM ao aa X.2.2.1 σe) (LM ao aa X.2.2.1 σ) [(0, .ref (ao 0)), (1, .int x1)] 0 [] := by
  unfold Mod_endRound_b0 at hf
  refine gw_aload_n hC 0 d_Mod_endRound_0 rfl rfl ?_
  refine Mr_Mod_x hC kf_Mod_78 d_Mod_endRound_1 ?_
  refine gw_iload_n hC 1 d_Mod_endRound_4 rfl rfl ?_
  obtain ⟨hg5, hf⟩ := g_guard hf
  refine Mald (j := 21) hC (by decide) hg5 d_Mod_endRound_5 (σ.2 21 (x1).toNatClampNeg) rfl ?_
  refine gw_if_ne hC 24 d_Mod_endRound_6 (by decide) (fun hh => ?_) (fun hh => ?_)
  · rw [if_neg hh] at hf
    exact Mod_endRound_p24 ao aa hC N _ _ _ _ hf
  · rw [if_pos hh] at hf
    exact Mod_endRound_p9 ao aa hC N _ _ _ _ hf
def Mod_endRound (N : Nat) (x1 : Int32) (σ : g_S) : Option (Int32 × g_S) := Mod_endRound_b0 N x1 σ
theorem Mod_endRound_m (l : Launch) (D : va_G) (cA : ClassId) (ao aa : Nat → Nat) (N : Nat) (x1 : Int32) (σ : g_S) (r : Int32) (σe : g_S) (hf : Mod_endRound N x1 σ = some (r, σe)) : Mt l D cA y_Mod_endRound c_Mod_endRound 2 (some .int) 1 26 [.ref (ao 0), .int x1] (LM ao aa cA σ) (some (.int r)) (LM ao aa cA σe) := by
  refine g_met (by decide +kernel) (by simp [lg_sl, Value.category]) (fun X e1 e2 e3 hC => ?_)
  subst e1 e2 e3
  refine gw_lv [0, 1] rfl ?_
  exact Mod_endRound_p0 ao aa hC N _ _ (r) _ hf
def Mod_endLook_b30 (N : Nat) (x1 : Int32) (σ : g_S) : Option (Int32 × g_S) := if gIn x1 90000 = true then some ((σ.2 20 (x1).toNatClampNeg), (gF σ 11 (σ.2 21 (x1).toNatClampNeg))) else none
theorem Mod_endLook_p30 (ao aa : Nat → Nat) {X : g_X} (hC : gC X c_Mod_endLook R_Mod 0 0 2 (some .int)) (N : Nat) (x1 : Int32) (σ : g_S) (r : Int32) (σe : g_S) (hf : Mod_endLook_b30 N x1 σ = some (r, σe)) : gw X (.inl (some (.int r))) (LM ao aa X.2.2.1 σe) (LM ao aa X.2.2.1 σ) [(0, .ref (ao 0)), (1, .int x1)] 30 [] := by
  unfold Mod_endLook_b30 at hf
  refine gw_aload_n hC 0 d_Mod_endLook_30 rfl rfl ?_
  refine gw_aload_n hC 0 d_Mod_endLook_31 rfl rfl ?_
  refine Mr_Mod_x hC kf_Mod_78 d_Mod_endLook_32 ?_
  refine gw_iload_n hC 1 d_Mod_endLook_35 rfl rfl ?_
  obtain ⟨hg36, hf⟩ := g_guard hf
  refine Mald (j := 21) hC (by decide) hg36 d_Mod_endLook_36 (σ.2 21 (x1).toNatClampNeg) rfl ?_
  refine Mp11 hC kf_Mod_129 d_Mod_endLook_37 ?_
  refine gw_aload_n hC 0 d_Mod_endLook_40 rfl rfl ?_
  refine Mr_Mod_next hC kf_Mod_75 d_Mod_endLook_41 ?_
  refine gw_iload_n hC 1 d_Mod_endLook_44 rfl rfl ?_
  refine Mald (j := 20) hC (by decide) hg36 d_Mod_endLook_45 (σ.2 20 (x1).toNatClampNeg) rfl ?_
  cases hf
  exact gw_iret hC d_Mod_endLook_46
def Mod_endLook_b28 (N : Nat) (σ : g_S) : Option (Int32 × g_S) := some ((-1), σ)
theorem Mod_endLook_p28 (ao aa : Nat → Nat) {X : g_X} (hC : gC X c_Mod_endLook R_Mod 0 0 2 (some .int)) (N : Nat) (σ : g_S) (r : Int32) (σe : g_S) (hf : Mod_endLook_b28 N σ = some (r, σe)) : gw X (.inl (some (.int r))) (LM ao aa X.2.2.1 σe) (LM ao aa X.2.2.1 σ) [(0, .ref (ao 0))] 28 [] := by
  unfold Mod_endLook_b28 at hf
  refine gw_iconst hC (-1) d_Mod_endLook_28 (by decide) ?_
  cases hf
  exact gw_iret hC d_Mod_endLook_29
def Mod_endLook_b0 (N : Nat) (x1 : Int32) (σ : g_S) : Option (Int32 × g_S) := if gIn x1 90000 = true then if gIn (σ.2 19 (x1).toNatClampNeg) 1300 = true then if (σ.2 3 ((σ.2 19 (x1).toNatClampNeg)).toNatClampNeg) = 15 then Mod_endLook_b28 N (gF σ 19 ((σ.2 22 (x1).toNatClampNeg) - 1)) else Mod_endLook_b30 N x1 (gF σ 19 ((σ.2 22 (x1).toNatClampNeg) - 1)) else none else none
theorem Mod_endLook_p0 (ao aa : Nat → Nat) {X : g_X} (hC : gC X c_Mod_endLook R_Mod 0 0 2 (some .int)) (N : Nat) (x1 : Int32) (σ : g_S) (r : Int32) (σe : g_S) (hf : Mod_endLook_b0 N x1 σ = some (r, σe)) : gw X (.inl (some (.int r))) (LM ao aa X.2.2.1 σe) (LM ao aa X.2.2.1 σ) [(0, .ref (ao 0)), (1, .int x1)] 0 [] := by
  unfold Mod_endLook_b0 at hf
  refine gw_aload_n hC 0 d_Mod_endLook_0 rfl rfl ?_
  refine gw_aload_n hC 0 d_Mod_endLook_1 rfl rfl ?_
  refine Mr_Mod_y hC kf_Mod_81 d_Mod_endLook_2 ?_
  refine gw_iload_n hC 1 d_Mod_endLook_5 rfl rfl ?_
  obtain ⟨hg6, hf⟩ := g_guard hf
  refine Mald (j := 22) hC (by decide) hg6 d_Mod_endLook_6 (σ.2 22 (x1).toNatClampNeg) rfl ?_
  refine gw_iconst hC 1 d_Mod_endLook_7 (by decide) ?_
  refine gw_isub hC d_Mod_endLook_8 ?_
  refine Mp19 hC kf_Mod_244 d_Mod_endLook_9 ?_
  refine gw_aload_n hC 0 d_Mod_endLook_12 rfl rfl ?_
  refine Mr_Mod_kind hC kf_Mod_23 d_Mod_endLook_13 ?_
  refine gw_aload_n hC 0 d_Mod_endLook_16 rfl rfl ?_
  refine Mr_Mod_which hC kf_Mod_72 d_Mod_endLook_17 ?_
  refine gw_iload_n hC 1 d_Mod_endLook_20 rfl rfl ?_
  refine Mald (j := 19) hC (by decide) hg6 d_Mod_endLook_21 (σ.2 19 (x1).toNatClampNeg) rfl ?_
  obtain ⟨hg22, hf⟩ := g_guard hf
  refine Mald (j := 3) hC (by decide) hg22 d_Mod_endLook_22 (σ.2 3 ((σ.2 19 (x1).toNatClampNeg)).toNatClampNeg) rfl ?_
  refine gw_bipush hC 15 d_Mod_endLook_23 (by decide) ?_
  refine gw_icmp_ne hC 30 d_Mod_endLook_25 (by decide) (fun hh => ?_) (fun hh => ?_)
  · rw [if_neg hh] at hf
    exact Mod_endLook_p30 ao aa hC N _ _ _ _ hf
  · rw [if_pos hh] at hf
    refine gw_lv [0] rfl ?_
    exact Mod_endLook_p28 ao aa hC N _ _ _ hf
def Mod_endLook (N : Nat) (x1 : Int32) (σ : g_S) : Option (Int32 × g_S) := Mod_endLook_b0 N x1 σ
theorem Mod_endLook_m (l : Launch) (D : va_G) (cA : ClassId) (ao aa : Nat → Nat) (N : Nat) (x1 : Int32) (σ : g_S) (r : Int32) (σe : g_S) (hf : Mod_endLook N x1 σ = some (r, σe)) : Mt l D cA y_Mod_endLook c_Mod_endLook 2 (some .int) 0 0 [.ref (ao 0), .int x1] (LM ao aa cA σ) (some (.int r)) (LM ao aa cA σe) := by
  refine g_met (by decide +kernel) (by simp [lg_sl, Value.category]) (fun X e1 e2 e3 hC => ?_)
  subst e1 e2 e3
  refine gw_lv [0, 1] rfl ?_
  exact Mod_endLook_p0 ao aa hC N _ _ (r) _ hf
def Mod_perform_b56 (N : Nat) (x1 : Int32) (x2 : Int32) (σ : g_S) : Option (Int32 × g_S) := if gIn x1 90000 = true then (Mod_doNode N x2 (σ.2 20 (x1).toNatClampNeg) σ).bind fun q64 => some (q64.1, q64.2) else none
theorem Mod_perform_p56 (ao aa : Nat → Nat) {X : g_X} (hC : gC X c_Mod_perform R_Mod 8 176 3 (some .int)) (N : Nat) (x1 : Int32) (x2 : Int32) (σ : g_S) (r : Int32) (σe : g_S) (hf : Mod_perform_b56 N x1 x2 σ = some (r, σe)) : gw X (.inl (some (.int r))) (LM ao aa X.2.2.1 σe) (LM ao aa X.2.2.1 σ) [(0, .ref (ao 0)), (1, .int x1), (2, .int x2)] 56 [] := by
  unfold Mod_perform_b56 at hf
  refine gw_aload_n hC 0 d_Mod_perform_56 rfl rfl ?_
  refine gw_iload_n hC 2 d_Mod_perform_57 rfl rfl ?_
  refine gw_aload_n hC 0 d_Mod_perform_58 rfl rfl ?_
  refine Mr_Mod_next hC kf_Mod_75 d_Mod_perform_59 ?_
  refine gw_iload_n hC 1 d_Mod_perform_62 rfl rfl ?_
  obtain ⟨hg63, hf⟩ := g_guard hf
  refine Mald (j := 20) hC (by decide) hg63 d_Mod_perform_63 (σ.2 20 (x1).toNatClampNeg) rfl ?_
  obtain ⟨q64, hq64, hf⟩ := g_bind hf
  refine gw_callV hC [.int x2, .int (σ.2 20 (x1).toNatClampNeg)] [] (Mod_doNode_m _ _ _ ao aa N _ _ _ _ _ hq64) kc_Mod_290 0 (g_lay_obj rfl) rfl rfl ⟨by decide, by decide⟩ (Nat.le_of_ble_eq_true rfl) [.int (σ.2 20 (x1).toNatClampNeg), .int x2, .ref (ao 0)] [.int q64.1] rfl rfl d_Mod_perform_64 ?_
  cases hf
  exact gw_iret hC d_Mod_perform_67
def Mod_perform_b138 (N : Nat) (s0 : Int32) (σ : g_S) : Option (Int32 × g_S) := some (s0, σ)
theorem Mod_perform_p138 (ao aa : Nat → Nat) {X : g_X} (hC : gC X c_Mod_perform R_Mod 8 176 3 (some .int)) (N : Nat) (s0 : Int32) (σ : g_S) (r : Int32) (σe : g_S) (hf : Mod_perform_b138 N s0 σ = some (r, σe)) : gw X (.inl (some (.int r))) (LM ao aa X.2.2.1 σe) (LM ao aa X.2.2.1 σ) [(0, .ref (ao 0))] 138 [.int s0] := by
  unfold Mod_perform_b138 at hf
  cases hf
  exact gw_iret hC d_Mod_perform_138
def Mod_perform_b136 (N : Nat) (σ : g_S) : Option (Int32 × g_S) := Mod_perform_b138 N (-2) σ
theorem Mod_perform_p136 (ao aa : Nat → Nat) {X : g_X} (hC : gC X c_Mod_perform R_Mod 8 176 3 (some .int)) (N : Nat) (σ : g_S) (r : Int32) (σe : g_S) (hf : Mod_perform_b136 N σ = some (r, σe)) : gw X (.inl (some (.int r))) (LM ao aa X.2.2.1 σe) (LM ao aa X.2.2.1 σ) [(0, .ref (ao 0))] 136 [] := by
  unfold Mod_perform_b136 at hf
  refine gw_bipush hC (-2) d_Mod_perform_136 (by decide) ?_
  exact Mod_perform_p138 ao aa hC N _ _ _ _ hf
def Mod_perform_b113 (N : Nat) (x1 : Int32) (x2 : Int32) (σ : g_S) : Option (Int32 × g_S) := if gIn x2 1300 = true then if gIn x1 90000 = true then (Mod_row N 2 (σ.2 7 (x2).toNatClampNeg) (σ.2 20 (x1).toNatClampNeg) 0 0 0 σ).bind fun q130 => Mod_perform_b138 N q130.1 q130.2 else none else none
theorem Mod_perform_p113 (ao aa : Nat → Nat) {X : g_X} (hC : gC X c_Mod_perform R_Mod 8 176 3 (some .int)) (N : Nat) (x1 : Int32) (x2 : Int32) (σ : g_S) (r : Int32) (σe : g_S) (hf : Mod_perform_b113 N x1 x2 σ = some (r, σe)) : gw X (.inl (some (.int r))) (LM ao aa X.2.2.1 σe) (LM ao aa X.2.2.1 σ) [(0, .ref (ao 0)), (1, .int x1), (2, .int x2)] 113 [] := by
  unfold Mod_perform_b113 at hf
  refine gw_aload_n hC 0 d_Mod_perform_113 rfl rfl ?_
  refine gw_iconst hC 2 d_Mod_perform_114 (by decide) ?_
  refine gw_aload_n hC 0 d_Mod_perform_115 rfl rfl ?_
  refine Mr_Mod_first hC kf_Mod_35 d_Mod_perform_116 ?_
  refine gw_iload_n hC 2 d_Mod_perform_119 rfl rfl ?_
  obtain ⟨hg120, hf⟩ := g_guard hf
  refine Mald (j := 7) hC (by decide) hg120 d_Mod_perform_120 (σ.2 7 (x2).toNatClampNeg) rfl ?_
  refine gw_aload_n hC 0 d_Mod_perform_121 rfl rfl ?_
  refine Mr_Mod_next hC kf_Mod_75 d_Mod_perform_122 ?_
  refine gw_iload_n hC 1 d_Mod_perform_125 rfl rfl ?_
  obtain ⟨hg126, hf⟩ := g_guard hf
  refine Mald (j := 20) hC (by decide) hg126 d_Mod_perform_126 (σ.2 20 (x1).toNatClampNeg) rfl ?_
  refine gw_iconst hC 0 d_Mod_perform_127 (by decide) ?_
  refine gw_iconst hC 0 d_Mod_perform_128 (by decide) ?_
  refine gw_iconst hC 0 d_Mod_perform_129 (by decide) ?_
  obtain ⟨q130, hq130, hf⟩ := g_bind hf
  refine gw_callV hC [.int 2, .int (σ.2 7 (x2).toNatClampNeg), .int (σ.2 20 (x1).toNatClampNeg), .int 0, .int 0, .int 0] [] (Mod_row_m _ _ _ ao aa N _ _ _ _ _ _ _ _ _ hq130) kc_Mod_275 0 (g_lay_obj rfl) rfl rfl ⟨by decide, by decide⟩ (Nat.le_of_ble_eq_true rfl) [.int 0, .int 0, .int 0, .int (σ.2 20 (x1).toNatClampNeg), .int (σ.2 7 (x2).toNatClampNeg), .int 2, .ref (ao 0)] [.int q130.1] rfl rfl d_Mod_perform_130 ?_
  refine gw_goto hC 138 d_Mod_perform_133 (by decide) ?_
  refine gw_lv [0] rfl ?_
  exact Mod_perform_p138 ao aa hC N _ _ _ _ hf
def Mod_perform_b106 (N : Nat) (x1 : Int32) (x2 : Int32) (σ : g_S) : Option (Int32 × g_S) := (Mod_spends N σ).bind fun q107 => if q107.1 = 0 then Mod_perform_b136 N q107.2 else Mod_perform_b113 N x1 x2 q107.2
theorem Mod_perform_p106 (ao aa : Nat → Nat) {X : g_X} (hC : gC X c_Mod_perform R_Mod 8 176 3 (some .int)) (N : Nat) (x1 : Int32) (x2 : Int32) (σ : g_S) (r : Int32) (σe : g_S) (hf : Mod_perform_b106 N x1 x2 σ = some (r, σe)) : gw X (.inl (some (.int r))) (LM ao aa X.2.2.1 σe) (LM ao aa X.2.2.1 σ) [(0, .ref (ao 0)), (1, .int x1), (2, .int x2)] 106 [] := by
  unfold Mod_perform_b106 at hf
  refine gw_aload_n hC 0 d_Mod_perform_106 rfl rfl ?_
  obtain ⟨q107, hq107, hf⟩ := g_bind hf
  refine gw_callV hC [] [] (Mod_spends_m _ _ _ ao aa N _ _ _ hq107) kc_Mod_283 0 (g_lay_obj rfl) rfl rfl ⟨by decide, by decide⟩ (Nat.le_of_ble_eq_true rfl) [.ref (ao 0)] [.int q107.1] rfl rfl d_Mod_perform_107 ?_
  refine gw_if_eq hC 136 d_Mod_perform_110 (by decide) (fun hh => ?_) (fun hh => ?_)
  · rw [if_pos hh] at hf
    refine gw_lv [0] rfl ?_
    exact Mod_perform_p136 ao aa hC N _ _ _ hf
  · rw [if_neg hh] at hf
    exact Mod_perform_p113 ao aa hC N _ _ _ _ _ hf
def Mod_perform_b77 (N : Nat) (x1 : Int32) (x2 : Int32) (σ : g_S) : Option (Int32 × g_S) := if gIn x2 1300 = true then if gIn x1 90000 = true then (Mod_row N 1 (σ.2 9 (x2).toNatClampNeg) (σ.2 20 (x1).toNatClampNeg) 0 0 0 σ).bind fun q95 => (Mod_push N q95.1 (q95.2.1 11) 0 q95.2).bind fun q103 => Mod_perform_b106 N x1 x2 q103.2 else none else none
theorem Mod_perform_p77 (ao aa : Nat → Nat) {X : g_X} (hC : gC X c_Mod_perform R_Mod 8 176 3 (some .int)) (N : Nat) (x1 : Int32) (x2 : Int32) (σ : g_S) (r : Int32) (σe : g_S) (hf : Mod_perform_b77 N x1 x2 σ = some (r, σe)) : gw X (.inl (some (.int r))) (LM ao aa X.2.2.1 σe) (LM ao aa X.2.2.1 σ) [(0, .ref (ao 0)), (1, .int x1), (2, .int x2)] 77 [] := by
  unfold Mod_perform_b77 at hf
  refine gw_aload_n hC 0 d_Mod_perform_77 rfl rfl ?_
  refine gw_aload_n hC 0 d_Mod_perform_78 rfl rfl ?_
  refine gw_iconst hC 1 d_Mod_perform_79 (by decide) ?_
  refine gw_aload_n hC 0 d_Mod_perform_80 rfl rfl ?_
  refine Mr_Mod_behind hC kf_Mod_41 d_Mod_perform_81 ?_
  refine gw_iload_n hC 2 d_Mod_perform_84 rfl rfl ?_
  obtain ⟨hg85, hf⟩ := g_guard hf
  refine Mald (j := 9) hC (by decide) hg85 d_Mod_perform_85 (σ.2 9 (x2).toNatClampNeg) rfl ?_
  refine gw_aload_n hC 0 d_Mod_perform_86 rfl rfl ?_
  refine Mr_Mod_next hC kf_Mod_75 d_Mod_perform_87 ?_
  refine gw_iload_n hC 1 d_Mod_perform_90 rfl rfl ?_
  obtain ⟨hg91, hf⟩ := g_guard hf
  refine Mald (j := 20) hC (by decide) hg91 d_Mod_perform_91 (σ.2 20 (x1).toNatClampNeg) rfl ?_
  refine gw_iconst hC 0 d_Mod_perform_92 (by decide) ?_
  refine gw_iconst hC 0 d_Mod_perform_93 (by decide) ?_
  refine gw_iconst hC 0 d_Mod_perform_94 (by decide) ?_
  obtain ⟨q95, hq95, hf⟩ := g_bind hf
  refine gw_callV hC [.int 1, .int (σ.2 9 (x2).toNatClampNeg), .int (σ.2 20 (x1).toNatClampNeg), .int 0, .int 0, .int 0] [.ref (ao 0)] (Mod_row_m _ _ _ ao aa N _ _ _ _ _ _ _ _ _ hq95) kc_Mod_275 0 (g_lay_obj rfl) rfl rfl ⟨by decide, by decide⟩ (Nat.le_of_ble_eq_true rfl) [.int 0, .int 0, .int 0, .int (σ.2 20 (x1).toNatClampNeg), .int (σ.2 9 (x2).toNatClampNeg), .int 1, .ref (ao 0), .ref (ao 0)] [.int q95.1, .ref (ao 0)] rfl rfl d_Mod_perform_95 ?_
  refine gw_aload_n hC 0 d_Mod_perform_98 rfl rfl ?_
  refine Mg11 hC kf_Mod_129 d_Mod_perform_99 (q95.2.1 11) rfl ?_
  refine gw_iconst hC 0 d_Mod_perform_102 (by decide) ?_
  obtain ⟨q103, hq103, hf⟩ := g_bind hf
  refine gw_callV hC [.int q95.1, .int (q95.2.1 11), .int 0] [] (Mod_push_m _ _ _ ao aa N _ _ _ _ _ _ hq103) kc_Mod_279 0 (g_lay_obj rfl) rfl rfl ⟨by decide, by decide⟩ (Nat.le_of_ble_eq_true rfl) [.int 0, .int (q95.2.1 11), .int q95.1, .ref (ao 0)] [] rfl rfl d_Mod_perform_103 ?_
  exact Mod_perform_p106 ao aa hC N _ _ _ _ _ hf
def Mod_perform_b68 (N : Nat) (x1 : Int32) (x2 : Int32) (σ : g_S) : Option (Int32 × g_S) := if gIn x2 1300 = true then if (σ.2 9 (x2).toNatClampNeg) < 0 then Mod_perform_b106 N x1 x2 σ else Mod_perform_b77 N x1 x2 σ else none
theorem Mod_perform_p68 (ao aa : Nat → Nat) {X : g_X} (hC : gC X c_Mod_perform R_Mod 8 176 3 (some .int)) (N : Nat) (x1 : Int32) (x2 : Int32) (σ : g_S) (r : Int32) (σe : g_S) (hf : Mod_perform_b68 N x1 x2 σ = some (r, σe)) : gw X (.inl (some (.int r))) (LM ao aa X.2.2.1 σe) (LM ao aa X.2.2.1 σ) [(0, .ref (ao 0)), (1, .int x1), (2, .int x2)] 68 [] := by
  unfold Mod_perform_b68 at hf
  refine gw_aload_n hC 0 d_Mod_perform_68 rfl rfl ?_
  refine Mr_Mod_behind hC kf_Mod_41 d_Mod_perform_69 ?_
  refine gw_iload_n hC 2 d_Mod_perform_72 rfl rfl ?_
  obtain ⟨hg73, hf⟩ := g_guard hf
  refine Mald (j := 9) hC (by decide) hg73 d_Mod_perform_73 (σ.2 9 (x2).toNatClampNeg) rfl ?_
  refine gw_if_lt hC 106 d_Mod_perform_74 (by decide) (fun hh => ?_) (fun hh => ?_)
  · rw [if_pos hh] at hf
    exact Mod_perform_p106 ao aa hC N _ _ _ _ _ hf
  · rw [if_neg hh] at hf
    exact Mod_perform_p77 ao aa hC N _ _ _ _ _ hf
def Mod_perform_b181 (N : Nat) (s0 : Int32) (σ : g_S) : Option (Int32 × g_S) := some (s0, σ)
theorem Mod_perform_p181 (ao aa : Nat → Nat) {X : g_X} (hC : gC X c_Mod_perform R_Mod 8 176 3 (some .int)) (N : Nat) (s0 : Int32) (σ : g_S) (r : Int32) (σe : g_S) (hf : Mod_perform_b181 N s0 σ = some (r, σe)) : gw X (.inl (some (.int r))) (LM ao aa X.2.2.1 σe) (LM ao aa X.2.2.1 σ) [(0, .ref (ao 0))] 181 [.int s0] := by
  unfold Mod_perform_b181 at hf
  cases hf
  exact gw_iret hC d_Mod_perform_181
def Mod_perform_b152 (N : Nat) (x1 : Int32) (x2 : Int32) (σ : g_S) : Option (Int32 × g_S) := if gIn x2 1300 = true then if gIn x1 90000 = true then (Mod_row N 2 (σ.2 9 (x2).toNatClampNeg) (σ.2 20 (x1).toNatClampNeg) 0 0 0 σ).bind fun q172 => (Mod_row N 0 x2 q172.1 0 0 0 q172.2).bind fun q178 => Mod_perform_b181 N q178.1 q178.2 else none else none
theorem Mod_perform_p152 (ao aa : Nat → Nat) {X : g_X} (hC : gC X c_Mod_perform R_Mod 8 176 3 (some .int)) (N : Nat) (x1 : Int32) (x2 : Int32) (σ : g_S) (r : Int32) (σe : g_S) (hf : Mod_perform_b152 N x1 x2 σ = some (r, σe)) : gw X (.inl (some (.int r))) (LM ao aa X.2.2.1 σe) (LM ao aa X.2.2.1 σ) [(0, .ref (ao 0)), (1, .int x1), (2, .int x2)] 152 [] := by
  unfold Mod_perform_b152 at hf
  refine gw_aload_n hC 0 d_Mod_perform_152 rfl rfl ?_
  refine gw_iconst hC 0 d_Mod_perform_153 (by decide) ?_
  refine gw_iload_n hC 2 d_Mod_perform_154 rfl rfl ?_
  refine gw_aload_n hC 0 d_Mod_perform_155 rfl rfl ?_
  refine gw_iconst hC 2 d_Mod_perform_156 (by decide) ?_
  refine gw_aload_n hC 0 d_Mod_perform_157 rfl rfl ?_
  refine Mr_Mod_behind hC kf_Mod_41 d_Mod_perform_158 ?_
  refine gw_iload_n hC 2 d_Mod_perform_161 rfl rfl ?_
  obtain ⟨hg162, hf⟩ := g_guard hf
  refine Mald (j := 9) hC (by decide) hg162 d_Mod_perform_162 (σ.2 9 (x2).toNatClampNeg) rfl ?_
  refine gw_aload_n hC 0 d_Mod_perform_163 rfl rfl ?_
  refine Mr_Mod_next hC kf_Mod_75 d_Mod_perform_164 ?_
  refine gw_iload_n hC 1 d_Mod_perform_167 rfl rfl ?_
  obtain ⟨hg168, hf⟩ := g_guard hf
  refine Mald (j := 20) hC (by decide) hg168 d_Mod_perform_168 (σ.2 20 (x1).toNatClampNeg) rfl ?_
  refine gw_iconst hC 0 d_Mod_perform_169 (by decide) ?_
  refine gw_iconst hC 0 d_Mod_perform_170 (by decide) ?_
  refine gw_iconst hC 0 d_Mod_perform_171 (by decide) ?_
  obtain ⟨q172, hq172, hf⟩ := g_bind hf
  refine gw_callV hC [.int 2, .int (σ.2 9 (x2).toNatClampNeg), .int (σ.2 20 (x1).toNatClampNeg), .int 0, .int 0, .int 0] [.int x2, .int 0, .ref (ao 0)] (Mod_row_m _ _ _ ao aa N _ _ _ _ _ _ _ _ _ hq172) kc_Mod_275 0 (g_lay_obj rfl) rfl rfl ⟨by decide, by decide⟩ (Nat.le_of_ble_eq_true rfl) [.int 0, .int 0, .int 0, .int (σ.2 20 (x1).toNatClampNeg), .int (σ.2 9 (x2).toNatClampNeg), .int 2, .ref (ao 0), .int x2, .int 0, .ref (ao 0)] [.int q172.1, .int x2, .int 0, .ref (ao 0)] rfl rfl d_Mod_perform_172 ?_
  refine gw_iconst hC 0 d_Mod_perform_175 (by decide) ?_
  refine gw_iconst hC 0 d_Mod_perform_176 (by decide) ?_
  refine gw_iconst hC 0 d_Mod_perform_177 (by decide) ?_
  obtain ⟨q178, hq178, hf⟩ := g_bind hf
  refine gw_callV hC [.int 0, .int x2, .int q172.1, .int 0, .int 0, .int 0] [] (Mod_row_m _ _ _ ao aa N _ _ _ _ _ _ _ _ _ hq178) kc_Mod_275 0 (g_lay_obj rfl) rfl rfl ⟨by decide, by decide⟩ (Nat.le_of_ble_eq_true rfl) [.int 0, .int 0, .int 0, .int q172.1, .int x2, .int 0, .ref (ao 0)] [.int q178.1] rfl rfl d_Mod_perform_178 ?_
  refine gw_lv [0] rfl ?_
  exact Mod_perform_p181 ao aa hC N _ _ _ _ hf
def Mod_perform_b143 (N : Nat) (x1 : Int32) (σ : g_S) : Option (Int32 × g_S) := if gIn x1 90000 = true then Mod_perform_b181 N (σ.2 20 (x1).toNatClampNeg) σ else none
theorem Mod_perform_p143 (ao aa : Nat → Nat) {X : g_X} (hC : gC X c_Mod_perform R_Mod 8 176 3 (some .int)) (N : Nat) (x1 : Int32) (σ : g_S) (r : Int32) (σe : g_S) (hf : Mod_perform_b143 N x1 σ = some (r, σe)) : gw X (.inl (some (.int r))) (LM ao aa X.2.2.1 σe) (LM ao aa X.2.2.1 σ) [(0, .ref (ao 0)), (1, .int x1)] 143 [] := by
  unfold Mod_perform_b143 at hf
  refine gw_aload_n hC 0 d_Mod_perform_143 rfl rfl ?_
  refine Mr_Mod_next hC kf_Mod_75 d_Mod_perform_144 ?_
  refine gw_iload_n hC 1 d_Mod_perform_147 rfl rfl ?_
  obtain ⟨hg148, hf⟩ := g_guard hf
  refine Mald (j := 20) hC (by decide) hg148 d_Mod_perform_148 (σ.2 20 (x1).toNatClampNeg) rfl ?_
  refine gw_goto hC 181 d_Mod_perform_149 (by decide) ?_
  refine gw_lv [0] rfl ?_
  exact Mod_perform_p181 ao aa hC N _ _ _ _ hf
def Mod_perform_b139 (N : Nat) (x1 : Int32) (x2 : Int32) (σ : g_S) : Option (Int32 × g_S) := if 0 ≤ x2 then Mod_perform_b152 N x1 x2 σ else Mod_perform_b143 N x1 σ
theorem Mod_perform_p139 (ao aa : Nat → Nat) {X : g_X} (hC : gC X c_Mod_perform R_Mod 8 176 3 (some .int)) (N : Nat) (x1 : Int32) (x2 : Int32) (σ : g_S) (r : Int32) (σe : g_S) (hf : Mod_perform_b139 N x1 x2 σ = some (r, σe)) : gw X (.inl (some (.int r))) (LM ao aa X.2.2.1 σe) (LM ao aa X.2.2.1 σ) [(0, .ref (ao 0)), (1, .int x1), (2, .int x2)] 139 [] := by
  unfold Mod_perform_b139 at hf
  refine gw_iload_n hC 2 d_Mod_perform_139 rfl rfl ?_
  refine gw_if_ge hC 152 d_Mod_perform_140 (by decide) (fun hh => ?_) (fun hh => ?_)
  · rw [if_pos hh] at hf
    exact Mod_perform_p152 ao aa hC N _ _ _ _ _ hf
  · rw [if_neg hh] at hf
    refine gw_lv [0, 1] rfl ?_
    exact Mod_perform_p143 ao aa hC N _ _ _ _ hf
def Mod_perform_b182 (N : Nat) (x1 : Int32) (x2 : Int32) (σ : g_S) : Option (Int32 × g_S) := if gIn x2 1300 = true then if gIn x1 90000 = true then if gIn (2 * (σ.2 4 (x2).toNatClampNeg)) 42 = true then if gIn ((2 * (σ.2 4 (x2).toNatClampNeg)) + 1) 42 = true then some ((σ.2 20 (x1).toNatClampNeg), (gA (gA σ 17 ((2 * (σ.2 4 (x2).toNatClampNeg))).toNatClampNeg (σ.2 21 (x1).toNatClampNeg)) 17 (((2 * (σ.2 4 (x2).toNatClampNeg)) + 1)).toNatClampNeg (σ.1 11))) else none else none else none else none
theorem Mod_perform_p182 (ao aa : Nat → Nat) {X : g_X} (hC : gC X c_Mod_perform R_Mod 8 176 3 (some .int)) (N : Nat) (x1 : Int32) (x2 : Int32) (σ : g_S) (r : Int32) (σe : g_S) (hf : Mod_perform_b182 N x1 x2 σ = some (r, σe)) : gw X (.inl (some (.int r))) (LM ao aa X.2.2.1 σe) (LM ao aa X.2.2.1 σ) [(0, .ref (ao 0)), (1, .int x1), (2, .int x2)] 182 [] := by
  unfold Mod_perform_b182 at hf
  refine gw_aload_n hC 0 d_Mod_perform_182 rfl rfl ?_
  refine Mr_Mod_group hC kf_Mod_65 d_Mod_perform_183 ?_
  refine gw_iconst hC 2 d_Mod_perform_186 (by decide) ?_
  refine gw_aload_n hC 0 d_Mod_perform_187 rfl rfl ?_
  refine Mr_Mod_a hC kf_Mod_26 d_Mod_perform_188 ?_
  refine gw_iload_n hC 2 d_Mod_perform_191 rfl rfl ?_
  obtain ⟨hg192, hf⟩ := g_guard hf
  refine Mald (j := 4) hC (by decide) hg192 d_Mod_perform_192 (σ.2 4 (x2).toNatClampNeg) rfl ?_
  refine gw_imul hC d_Mod_perform_193 ?_
  refine gw_aload_n hC 0 d_Mod_perform_194 rfl rfl ?_
  refine Mr_Mod_x hC kf_Mod_78 d_Mod_perform_195 ?_
  refine gw_iload_n hC 1 d_Mod_perform_198 rfl rfl ?_
  obtain ⟨hg199, hf⟩ := g_guard hf
  refine Mald (j := 21) hC (by decide) hg199 d_Mod_perform_199 (σ.2 21 (x1).toNatClampNeg) rfl ?_
  obtain ⟨hg200, hf⟩ := g_guard hf
  refine Mast (j := 17) hC (by decide) hg200 d_Mod_perform_200 ?_
  refine gw_aload_n hC 0 d_Mod_perform_201 rfl rfl ?_
  refine Mr_Mod_group hC kf_Mod_65 d_Mod_perform_202 ?_
  refine gw_iconst hC 2 d_Mod_perform_205 (by decide) ?_
  refine gw_aload_n hC 0 d_Mod_perform_206 rfl rfl ?_
  refine Mr_Mod_a hC kf_Mod_26 d_Mod_perform_207 ?_
  refine gw_iload_n hC 2 d_Mod_perform_210 rfl rfl ?_
  refine Mald (j := 4) hC (by decide) hg192 d_Mod_perform_211 (σ.2 4 (x2).toNatClampNeg) rfl ?_
  refine gw_imul hC d_Mod_perform_212 ?_
  refine gw_iconst hC 1 d_Mod_perform_213 (by decide) ?_
  refine gw_iadd hC d_Mod_perform_214 ?_
  refine gw_aload_n hC 0 d_Mod_perform_215 rfl rfl ?_
  refine Mg11 hC kf_Mod_129 d_Mod_perform_216 (σ.1 11) rfl ?_
  obtain ⟨hg219, hf⟩ := g_guard hf
  refine Mast (j := 17) hC (by decide) hg219 d_Mod_perform_219 ?_
  refine gw_aload_n hC 0 d_Mod_perform_220 rfl rfl ?_
  refine Mr_Mod_next hC kf_Mod_75 d_Mod_perform_221 ?_
  refine gw_iload_n hC 1 d_Mod_perform_224 rfl rfl ?_
  refine Mald (j := 20) hC (by decide) hg199 d_Mod_perform_225 (σ.2 20 (x1).toNatClampNeg) rfl ?_
  cases hf
  exact gw_iret hC d_Mod_perform_226
def Mod_perform_b227 (N : Nat) (x1 : Int32) (σ : g_S) : Option (Int32 × g_S) := (Mod_round N x1 σ).bind fun q229 => some (q229.1, q229.2)
theorem Mod_perform_p227 (ao aa : Nat → Nat) {X : g_X} (hC : gC X c_Mod_perform R_Mod 8 176 3 (some .int)) (N : Nat) (x1 : Int32) (σ : g_S) (r : Int32) (σe : g_S) (hf : Mod_perform_b227 N x1 σ = some (r, σe)) : gw X (.inl (some (.int r))) (LM ao aa X.2.2.1 σe) (LM ao aa X.2.2.1 σ) [(0, .ref (ao 0)), (1, .int x1)] 227 [] := by
  unfold Mod_perform_b227 at hf
  refine gw_aload_n hC 0 d_Mod_perform_227 rfl rfl ?_
  refine gw_iload_n hC 1 d_Mod_perform_228 rfl rfl ?_
  obtain ⟨q229, hq229, hf⟩ := g_bind hf
  refine gw_callV hC [.int x1] [] (Mod_round_m _ _ _ ao aa N _ _ _ _ hq229) kc_Mod_293 0 (g_lay_obj rfl) rfl rfl ⟨by decide, by decide⟩ (Nat.le_of_ble_eq_true rfl) [.int x1, .ref (ao 0)] [.int q229.1] rfl rfl d_Mod_perform_229 ?_
  cases hf
  exact gw_iret hC d_Mod_perform_232
def Mod_perform_b233 (N : Nat) (x1 : Int32) (σ : g_S) : Option (Int32 × g_S) := (Mod_anew N x1 σ).bind fun q235 => some (q235.1, q235.2)
theorem Mod_perform_p233 (ao aa : Nat → Nat) {X : g_X} (hC : gC X c_Mod_perform R_Mod 8 176 3 (some .int)) (N : Nat) (x1 : Int32) (σ : g_S) (r : Int32) (σe : g_S) (hf : Mod_perform_b233 N x1 σ = some (r, σe)) : gw X (.inl (some (.int r))) (LM ao aa X.2.2.1 σe) (LM ao aa X.2.2.1 σ) [(0, .ref (ao 0)), (1, .int x1)] 233 [] := by
  unfold Mod_perform_b233 at hf
  refine gw_aload_n hC 0 d_Mod_perform_233 rfl rfl ?_
  refine gw_iload_n hC 1 d_Mod_perform_234 rfl rfl ?_
  obtain ⟨q235, hq235, hf⟩ := g_bind hf
  refine gw_callV hC [.int x1] [] (Mod_anew_m _ _ _ ao aa N _ _ _ _ hq235) kc_Mod_296 0 (g_lay_obj rfl) rfl rfl ⟨by decide, by decide⟩ (Nat.le_of_ble_eq_true rfl) [.int x1, .ref (ao 0)] [.int q235.1] rfl rfl d_Mod_perform_235 ?_
  cases hf
  exact gw_iret hC d_Mod_perform_238
def Mod_perform_b239 (N : Nat) (x1 : Int32) (σ : g_S) : Option (Int32 × g_S) := (Mod_endRound N x1 σ).bind fun q241 => some (q241.1, q241.2)
theorem Mod_perform_p239 (ao aa : Nat → Nat) {X : g_X} (hC : gC X c_Mod_perform R_Mod 8 176 3 (some .int)) (N : Nat) (x1 : Int32) (σ : g_S) (r : Int32) (σe : g_S) (hf : Mod_perform_b239 N x1 σ = some (r, σe)) : gw X (.inl (some (.int r))) (LM ao aa X.2.2.1 σe) (LM ao aa X.2.2.1 σ) [(0, .ref (ao 0)), (1, .int x1)] 239 [] := by
  unfold Mod_perform_b239 at hf
  refine gw_aload_n hC 0 d_Mod_perform_239 rfl rfl ?_
  refine gw_iload_n hC 1 d_Mod_perform_240 rfl rfl ?_
  obtain ⟨q241, hq241, hf⟩ := g_bind hf
  refine gw_callV hC [.int x1] [] (Mod_endRound_m _ _ _ ao aa N _ _ _ _ hq241) kc_Mod_299 0 (g_lay_obj rfl) rfl rfl ⟨by decide, by decide⟩ (Nat.le_of_ble_eq_true rfl) [.int x1, .ref (ao 0)] [.int q241.1] rfl rfl d_Mod_perform_241 ?_
  cases hf
  exact gw_iret hC d_Mod_perform_244
def Mod_perform_b245 (N : Nat) (x1 : Int32) (σ : g_S) : Option (Int32 × g_S) := (Mod_endLook N x1 σ).bind fun q247 => some (q247.1, q247.2)
theorem Mod_perform_p245 (ao aa : Nat → Nat) {X : g_X} (hC : gC X c_Mod_perform R_Mod 8 176 3 (some .int)) (N : Nat) (x1 : Int32) (σ : g_S) (r : Int32) (σe : g_S) (hf : Mod_perform_b245 N x1 σ = some (r, σe)) : gw X (.inl (some (.int r))) (LM ao aa X.2.2.1 σe) (LM ao aa X.2.2.1 σ) [(0, .ref (ao 0)), (1, .int x1)] 245 [] := by
  unfold Mod_perform_b245 at hf
  refine gw_aload_n hC 0 d_Mod_perform_245 rfl rfl ?_
  refine gw_iload_n hC 1 d_Mod_perform_246 rfl rfl ?_
  obtain ⟨q247, hq247, hf⟩ := g_bind hf
  refine gw_callV hC [.int x1] [] (Mod_endLook_m _ _ _ ao aa N _ _ _ _ hq247) kc_Mod_302 0 (g_lay_obj rfl) rfl rfl ⟨by decide, by decide⟩ (Nat.le_of_ble_eq_true rfl) [.int x1, .ref (ao 0)] [.int q247.1] rfl rfl d_Mod_perform_247 ?_
  cases hf
  exact gw_iret hC d_Mod_perform_250
def Mod_perform_b0 (N : Nat) (x1 : Int32) (σ : g_S) : Option (Int32 × g_S) := if gIn x1 90000 = true then if (σ.2 18 (x1).toNatClampNeg) = 0 then Mod_perform_b56 N x1 (σ.2 19 (x1).toNatClampNeg) σ else if (σ.2 18 (x1).toNatClampNeg) = 1 then Mod_perform_b68 N x1 (σ.2 19 (x1).toNatClampNeg) σ else if (σ.2 18 (x1).toNatClampNeg) = 2 then Mod_perform_b139 N x1 (σ.2 19 (x1).toNatClampNeg) σ else if (σ.2 18 (x1).toNatClampNeg) = 3 then Mod_perform_b182 N x1 (σ.2 19 (x1).toNatClampNeg) σ else if (σ.2 18 (x1).toNatClampNeg) = 4 then Mod_perform_b227 N x1 σ else if (σ.2 18 (x1).toNatClampNeg) = 5 then Mod_perform_b233 N x1 σ else if (σ.2 18 (x1).toNatClampNeg) = 6 then Mod_perform_b239 N x1 σ else Mod_perform_b245 N x1 σ else none
theorem Mod_perform_p0 (ao aa : Nat → Nat) {X : g_X} (hC : gC X c_Mod_perform R_Mod 8 176 3 (some .int)) (N : Nat) (x1 : Int32) (σ : g_S) (r : Int32) (σe : g_S) (hf : Mod_perform_b0 N x1 σ = some (r, σe)) : gw X (.inl (some (.int r))) (LM ao aa X.2.2.1 σe) (LM ao aa X.2.2.1 σ) [(0, .ref (ao 0)), (1, .int x1)] 0 [] := by
  unfold Mod_perform_b0 at hf
  refine gw_aload_n hC 0 d_Mod_perform_0 rfl rfl ?_
  refine Mr_Mod_which hC kf_Mod_72 d_Mod_perform_1 ?_
  refine gw_iload_n hC 1 d_Mod_perform_4 rfl rfl ?_
  obtain ⟨hg5, hf⟩ := g_guard hf
  refine Mald (j := 19) hC (by decide) hg5 d_Mod_perform_5 (σ.2 19 (x1).toNatClampNeg) rfl ?_
  refine gw_istore_n hC [(2, .int (σ.2 19 (x1).toNatClampNeg)), (0, .ref (ao 0)), (1, .int x1)] d_Mod_perform_6 rfl (by decide) rfl ?_
  refine gw_aload_n hC 1 d_Mod_perform_7 rfl rfl ?_
  refine Mr_Mod_todo hC kf_Mod_69 d_Mod_perform_8 ?_
  refine gw_iload_n hC 2 d_Mod_perform_11 rfl rfl ?_
  refine Mald (j := 18) hC (by decide) hg5 d_Mod_perform_12 (σ.2 18 (x1).toNatClampNeg) rfl ?_
  by_cases hh0 : (σ.2 18 (x1).toNatClampNeg) = 0
  · rw [if_pos hh0] at hf
    refine gw_tableIn hC 43 56 d_Mod_perform_13 (by rw [hh0]; decide) (by rw [hh0]; decide) (by rw [hh0]; rfl) (by decide) ?_
    refine gw_lv [1, 2, 0] rfl ?_
    exact Mod_perform_p56 ao aa hC N _ _ _ _ _ hf
  · rw [if_neg hh0] at hf
    by_cases hh1 : (σ.2 18 (x1).toNatClampNeg) = 1
    · rw [if_pos hh1] at hf
      refine gw_tableIn hC 55 68 d_Mod_perform_13 (by rw [hh1]; decide) (by rw [hh1]; decide) (by rw [hh1]; rfl) (by decide) ?_
      refine gw_lv [1, 2, 0] rfl ?_
      exact Mod_perform_p68 ao aa hC N _ _ _ _ _ hf
    · rw [if_neg hh1] at hf
      by_cases hh2 : (σ.2 18 (x1).toNatClampNeg) = 2
      · rw [if_pos hh2] at hf
        refine gw_tableIn hC 126 139 d_Mod_perform_13 (by rw [hh2]; decide) (by rw [hh2]; decide) (by rw [hh2]; rfl) (by decide) ?_
        refine gw_lv [1, 2, 0] rfl ?_
        exact Mod_perform_p139 ao aa hC N _ _ _ _ _ hf
      · rw [if_neg hh2] at hf
        by_cases hh3 : (σ.2 18 (x1).toNatClampNeg) = 3
        · rw [if_pos hh3] at hf
          refine gw_tableIn hC 169 182 d_Mod_perform_13 (by rw [hh3]; decide) (by rw [hh3]; decide) (by rw [hh3]; rfl) (by decide) ?_
          refine gw_lv [1, 2, 0] rfl ?_
          exact Mod_perform_p182 ao aa hC N _ _ _ _ _ hf
        · rw [if_neg hh3] at hf
          by_cases hh4 : (σ.2 18 (x1).toNatClampNeg) = 4
          · rw [if_pos hh4] at hf
            refine gw_tableIn hC 214 227 d_Mod_perform_13 (by rw [hh4]; decide) (by rw [hh4]; decide) (by rw [hh4]; rfl) (by decide) ?_
            refine gw_lv [1, 2] rfl ?_
            exact Mod_perform_p227 ao aa hC N _ _ _ _ hf
          · rw [if_neg hh4] at hf
            by_cases hh5 : (σ.2 18 (x1).toNatClampNeg) = 5
            · rw [if_pos hh5] at hf
              refine gw_tableIn hC 220 233 d_Mod_perform_13 (by rw [hh5]; decide) (by rw [hh5]; decide) (by rw [hh5]; rfl) (by decide) ?_
              refine gw_lv [1, 2] rfl ?_
              exact Mod_perform_p233 ao aa hC N _ _ _ _ hf
            · rw [if_neg hh5] at hf
              by_cases hh6 : (σ.2 18 (x1).toNatClampNeg) = 6
              · rw [if_pos hh6] at hf
                refine gw_tableIn hC 226 239 d_Mod_perform_13 (by rw [hh6]; decide) (by rw [hh6]; decide) (by rw [hh6]; rfl) (by decide) ?_
                refine gw_lv [1, 2] rfl ?_
                exact Mod_perform_p239 ao aa hC N _ _ _ _ hf
              · rw [if_neg hh6] at hf
                have hto : ((σ.2 18 (x1).toNatClampNeg)).toInt < 0 ∨ 6 < ((σ.2 18 (x1).toNatClampNeg)).toInt := by
                  refine g_tb ?_
                  intro k h1 h2 hx
                  obtain rfl | rfl | rfl | rfl | rfl | rfl | rfl : k = 0 ∨ k = 1 ∨ k = 2 ∨ k = 3 ∨ k = 4 ∨ k = 5 ∨ k = 6 := by omega
                  · exact hh0 (g_i hx)
                  · exact hh1 (g_i hx)
                  · exact hh2 (g_i hx)
                  · exact hh3 (g_i hx)
                  · exact hh4 (g_i hx)
                  · exact hh5 (g_i hx)
                  · exact hh6 (g_i hx)
                refine gw_tableOut hC 245 d_Mod_perform_13 hto (by decide) ?_
                refine gw_lv [1, 2] rfl ?_
                exact Mod_perform_p245 ao aa hC N _ _ _ _ hf
def Mod_perform (N : Nat) (x1 : Int32) (σ : g_S) : Option (Int32 × g_S) := Mod_perform_b0 N x1 σ
theorem Mod_perform_m (l : Launch) (D : va_G) (cA : ClassId) (ao aa : Nat → Nat) (N : Nat) (x1 : Int32) (σ : g_S) (r : Int32) (σe : g_S) (hf : Mod_perform N x1 σ = some (r, σe)) : Mt l D cA y_Mod_perform c_Mod_perform 3 (some .int) 8 176 [.ref (ao 0), .int x1] (LM ao aa cA σ) (some (.int r)) (LM ao aa cA σe) := by
  refine g_met (by decide +kernel) (by simp [lg_sl, Value.category]) (fun X e1 e2 e3 hC => ?_)
  subst e1 e2 e3
  refine gw_lv [0, 1] rfl ?_
  exact Mod_perform_p0 ao aa hC N _ _ (r) _ hf
def Mod_tryAt_b105 (N : Nat) (x1 : Int32) (σ : g_S) : Option (Int32 × g_S) := if gIn 0 42 = true then if gIn 1 42 = true then some (1, (gA (gA σ 17 (0 : Int32).toNatClampNeg x1) 17 (1 : Int32).toNatClampNeg (σ.1 11))) else none else none
theorem Mod_tryAt_p105 (ao aa : Nat → Nat) {X : g_X} (hC : gC X c_Mod_tryAt R_Mod 9 198 3 (some .int)) (N : Nat) (x1 : Int32) (σ : g_S) (r : Int32) (σe : g_S) (hf : Mod_tryAt_b105 N x1 σ = some (r, σe)) : gw X (.inl (some (.int r))) (LM ao aa X.2.2.1 σe) (LM ao aa X.2.2.1 σ) [(0, .ref (ao 0)), (1, .int x1)] 105 [] := by
  unfold Mod_tryAt_b105 at hf
  refine gw_aload_n hC 0 d_Mod_tryAt_105 rfl rfl ?_
  refine Mr_Mod_group hC kf_Mod_65 d_Mod_tryAt_106 ?_
  refine gw_iconst hC 0 d_Mod_tryAt_109 (by decide) ?_
  refine gw_iload_n hC 1 d_Mod_tryAt_110 rfl rfl ?_
  obtain ⟨hg111, hf⟩ := g_guard hf
  refine Mast (j := 17) hC (by decide) hg111 d_Mod_tryAt_111 ?_
  refine gw_aload_n hC 0 d_Mod_tryAt_112 rfl rfl ?_
  refine Mr_Mod_group hC kf_Mod_65 d_Mod_tryAt_113 ?_
  refine gw_iconst hC 1 d_Mod_tryAt_116 (by decide) ?_
  refine gw_aload_n hC 0 d_Mod_tryAt_117 rfl rfl ?_
  refine Mg11 hC kf_Mod_129 d_Mod_tryAt_118 (σ.1 11) rfl ?_
  obtain ⟨hg121, hf⟩ := g_guard hf
  refine Mast (j := 17) hC (by decide) hg121 d_Mod_tryAt_121 ?_
  refine gw_iconst hC 1 d_Mod_tryAt_122 (by decide) ?_
  cases hf
  exact gw_iret hC d_Mod_tryAt_123
def Mod_tryAt_b103 (N : Nat) (σ : g_S) : Option (Int32 × g_S) := some (0, σ)
theorem Mod_tryAt_p103 (ao aa : Nat → Nat) {X : g_X} (hC : gC X c_Mod_tryAt R_Mod 9 198 3 (some .int)) (N : Nat) (σ : g_S) (r : Int32) (σe : g_S) (hf : Mod_tryAt_b103 N σ = some (r, σe)) : gw X (.inl (some (.int r))) (LM ao aa X.2.2.1 σe) (LM ao aa X.2.2.1 σ) [(0, .ref (ao 0))] 103 [] := by
  unfold Mod_tryAt_b103 at hf
  refine gw_iconst hC 0 d_Mod_tryAt_103 (by decide) ?_
  cases hf
  exact gw_iret hC d_Mod_tryAt_104
def Mod_tryAt_b99 (N : Nat) (x1 : Int32) (x2 : Int32) (σ : g_S) : Option (Int32 × g_S) := if 0 ≤ x2 then Mod_tryAt_b105 N x1 σ else Mod_tryAt_b103 N σ
theorem Mod_tryAt_p99 (ao aa : Nat → Nat) {X : g_X} (hC : gC X c_Mod_tryAt R_Mod 9 198 3 (some .int)) (N : Nat) (x1 : Int32) (x2 : Int32) (σ : g_S) (r : Int32) (σe : g_S) (hf : Mod_tryAt_b99 N x1 x2 σ = some (r, σe)) : gw X (.inl (some (.int r))) (LM ao aa X.2.2.1 σe) (LM ao aa X.2.2.1 σ) [(0, .ref (ao 0)), (1, .int x1), (2, .int x2)] 99 [] := by
  unfold Mod_tryAt_b99 at hf
  refine gw_iload_n hC 2 d_Mod_tryAt_99 rfl rfl ?_
  refine gw_if_ge hC 105 d_Mod_tryAt_100 (by decide) (fun hh => ?_) (fun hh => ?_)
  · rw [if_pos hh] at hf
    refine gw_lv [0, 1] rfl ?_
    exact Mod_tryAt_p105 ao aa hC N _ _ _ _ hf
  · rw [if_neg hh] at hf
    refine gw_lv [0] rfl ?_
    exact Mod_tryAt_p103 ao aa hC N _ _ _ hf
def Mod_tryAt_b97 (N : Nat) (σ : g_S) : Option (Int32 × g_S) := some (2, σ)
theorem Mod_tryAt_p97 (ao aa : Nat → Nat) {X : g_X} (hC : gC X c_Mod_tryAt R_Mod 9 198 3 (some .int)) (N : Nat) (σ : g_S) (r : Int32) (σe : g_S) (hf : Mod_tryAt_b97 N σ = some (r, σe)) : gw X (.inl (some (.int r))) (LM ao aa X.2.2.1 σe) (LM ao aa X.2.2.1 σ) [(0, .ref (ao 0))] 97 [] := by
  unfold Mod_tryAt_b97 at hf
  refine gw_iconst hC 2 d_Mod_tryAt_97 (by decide) ?_
  cases hf
  exact gw_iret hC d_Mod_tryAt_98
def Mod_tryAt_b91 (N : Nat) (k57 : Int32 → Int32 → g_S → Option (Int32 × g_S)) (x1 : Int32) (x2 : Int32) (σ : g_S) : Option (Int32 × g_S) := if x2 = (-2) then Mod_tryAt_b97 N σ else k57 x1 x2 σ
theorem Mod_tryAt_p91 (ao aa : Nat → Nat) {X : g_X} (hC : gC X c_Mod_tryAt R_Mod 9 198 3 (some .int)) (N : Nat) (k57 : Int32 → Int32 → g_S → Option (Int32 × g_S)) (hk57 : ∀ (x1 : Int32) (x2 : Int32) (σ : g_S) (r : Int32) (σe : g_S), k57 x1 x2 σ = some (r, σe) → gw X (.inl (some (.int r))) (LM ao aa X.2.2.1 σe) (LM ao aa X.2.2.1 σ) [(0, .ref (ao 0)), (1, .int x1), (2, .int x2)] 57 []) (x1 : Int32) (x2 : Int32) (σ : g_S) (r : Int32) (σe : g_S) (hf : Mod_tryAt_b91 N k57 x1 x2 σ = some (r, σe)) : gw X (.inl (some (.int r))) (LM ao aa X.2.2.1 σe) (LM ao aa X.2.2.1 σ) [(0, .ref (ao 0)), (1, .int x1), (2, .int x2)] 91 [] := by
  unfold Mod_tryAt_b91 at hf
  refine gw_iload_n hC 2 d_Mod_tryAt_91 rfl rfl ?_
  refine gw_bipush hC (-2) d_Mod_tryAt_92 (by decide) ?_
  refine gw_icmp_ne hC 57 d_Mod_tryAt_94 (by decide) (fun hh => ?_) (fun hh => ?_)
  · rw [if_neg hh] at hf
    exact hk57 _ _ _ _ _ hf
  · rw [if_pos hh] at hf
    refine gw_lv [0] rfl ?_
    exact Mod_tryAt_p97 ao aa hC N _ _ _ hf
def Mod_tryAt_b83 (N : Nat) (k57 : Int32 → Int32 → g_S → Option (Int32 × g_S)) (x1 : Int32) (σ : g_S) : Option (Int32 × g_S) := (Mod_pop N σ).bind fun q84 => k57 x1 q84.1 q84.2
theorem Mod_tryAt_p83 (ao aa : Nat → Nat) {X : g_X} (hC : gC X c_Mod_tryAt R_Mod 9 198 3 (some .int)) (N : Nat) (k57 : Int32 → Int32 → g_S → Option (Int32 × g_S)) (hk57 : ∀ (x1 : Int32) (x2 : Int32) (σ : g_S) (r : Int32) (σe : g_S), k57 x1 x2 σ = some (r, σe) → gw X (.inl (some (.int r))) (LM ao aa X.2.2.1 σe) (LM ao aa X.2.2.1 σ) [(0, .ref (ao 0)), (1, .int x1), (2, .int x2)] 57 []) (x1 : Int32) (σ : g_S) (r : Int32) (σe : g_S) (hf : Mod_tryAt_b83 N k57 x1 σ = some (r, σe)) : gw X (.inl (some (.int r))) (LM ao aa X.2.2.1 σe) (LM ao aa X.2.2.1 σ) [(0, .ref (ao 0)), (1, .int x1)] 83 [] := by
  unfold Mod_tryAt_b83 at hf
  refine gw_aload_n hC 0 d_Mod_tryAt_83 rfl rfl ?_
  obtain ⟨q84, hq84, hf⟩ := g_bind hf
  refine gw_callV hC [] [] (Mod_pop_m _ _ _ ao aa N _ _ _ hq84) kc_Mod_308 0 (g_lay_obj rfl) rfl rfl ⟨by decide, by decide⟩ (Nat.le_of_ble_eq_true rfl) [.ref (ao 0)] [.int q84.1] rfl rfl d_Mod_tryAt_84 ?_
  refine gw_istore_n hC [(2, .int q84.1), (0, .ref (ao 0)), (1, .int x1)] d_Mod_tryAt_87 rfl (by decide) rfl ?_
  refine gw_goto hC 57 d_Mod_tryAt_88 (by decide) ?_
  refine gw_lv [1, 2, 0] rfl ?_
  exact hk57 _ _ _ _ _ hf
def Mod_tryAt_b72 (N : Nat) (k57 : Int32 → Int32 → g_S → Option (Int32 × g_S)) (x1 : Int32) (x2 : Int32) (σ : g_S) : Option (Int32 × g_S) := (Mod_perform N x2 σ).bind fun q74 => if q74.1 = (-1) then Mod_tryAt_b83 N k57 x1 q74.2 else Mod_tryAt_b91 N k57 x1 q74.1 q74.2
theorem Mod_tryAt_p72 (ao aa : Nat → Nat) {X : g_X} (hC : gC X c_Mod_tryAt R_Mod 9 198 3 (some .int)) (N : Nat) (k57 : Int32 → Int32 → g_S → Option (Int32 × g_S)) (hk57 : ∀ (x1 : Int32) (x2 : Int32) (σ : g_S) (r : Int32) (σe : g_S), k57 x1 x2 σ = some (r, σe) → gw X (.inl (some (.int r))) (LM ao aa X.2.2.1 σe) (LM ao aa X.2.2.1 σ) [(0, .ref (ao 0)), (1, .int x1), (2, .int x2)] 57 []) (x1 : Int32) (x2 : Int32) (σ : g_S) (r : Int32) (σe : g_S) (hf : Mod_tryAt_b72 N k57 x1 x2 σ = some (r, σe)) : gw X (.inl (some (.int r))) (LM ao aa X.2.2.1 σe) (LM ao aa X.2.2.1 σ) [(0, .ref (ao 0)), (1, .int x1), (2, .int x2)] 72 [] := by
  unfold Mod_tryAt_b72 at hf
  refine gw_aload_n hC 0 d_Mod_tryAt_72 rfl rfl ?_
  refine gw_iload_n hC 2 d_Mod_tryAt_73 rfl rfl ?_
  obtain ⟨q74, hq74, hf⟩ := g_bind hf
  refine gw_callV hC [.int x2] [] (Mod_perform_m _ _ _ ao aa N _ _ _ _ hq74) kc_Mod_305 0 (g_lay_obj rfl) rfl rfl ⟨by decide, by decide⟩ (Nat.le_of_ble_eq_true rfl) [.int x2, .ref (ao 0)] [.int q74.1] rfl rfl d_Mod_tryAt_74 ?_
  refine gw_istore_n hC [(2, .int q74.1), (0, .ref (ao 0)), (1, .int x1)] d_Mod_tryAt_77 rfl (by decide) rfl ?_
  refine gw_iload_n hC 0 d_Mod_tryAt_78 rfl rfl ?_
  refine gw_iconst hC (-1) d_Mod_tryAt_79 (by decide) ?_
  refine gw_icmp_ne hC 91 d_Mod_tryAt_80 (by decide) (fun hh => ?_) (fun hh => ?_)
  · rw [if_neg hh] at hf
    refine gw_lv [1, 2, 0] rfl ?_
    exact Mod_tryAt_p91 ao aa hC N _ hk57 _ _ _ _ _ hf
  · rw [if_pos hh] at hf
    refine gw_lv [1, 2] rfl ?_
    exact Mod_tryAt_p83 ao aa hC N _ hk57 _ _ _ _ hf
def Mod_tryAt_b61 (N : Nat) (k57 : Int32 → Int32 → g_S → Option (Int32 × g_S)) (x1 : Int32) (x2 : Int32) (σ : g_S) : Option (Int32 × g_S) := if gIn x2 90000 = true then if (σ.2 18 (x2).toNatClampNeg) = 8 then Mod_tryAt_b99 N x1 x2 σ else Mod_tryAt_b72 N k57 x1 x2 σ else none
theorem Mod_tryAt_p61 (ao aa : Nat → Nat) {X : g_X} (hC : gC X c_Mod_tryAt R_Mod 9 198 3 (some .int)) (N : Nat) (k57 : Int32 → Int32 → g_S → Option (Int32 × g_S)) (hk57 : ∀ (x1 : Int32) (x2 : Int32) (σ : g_S) (r : Int32) (σe : g_S), k57 x1 x2 σ = some (r, σe) → gw X (.inl (some (.int r))) (LM ao aa X.2.2.1 σe) (LM ao aa X.2.2.1 σ) [(0, .ref (ao 0)), (1, .int x1), (2, .int x2)] 57 []) (x1 : Int32) (x2 : Int32) (σ : g_S) (r : Int32) (σe : g_S) (hf : Mod_tryAt_b61 N k57 x1 x2 σ = some (r, σe)) : gw X (.inl (some (.int r))) (LM ao aa X.2.2.1 σe) (LM ao aa X.2.2.1 σ) [(0, .ref (ao 0)), (1, .int x1), (2, .int x2)] 61 [] := by
  unfold Mod_tryAt_b61 at hf
  refine gw_aload_n hC 0 d_Mod_tryAt_61 rfl rfl ?_
  refine Mr_Mod_todo hC kf_Mod_69 d_Mod_tryAt_62 ?_
  refine gw_iload_n hC 2 d_Mod_tryAt_65 rfl rfl ?_
  obtain ⟨hg66, hf⟩ := g_guard hf
  refine Mald (j := 18) hC (by decide) hg66 d_Mod_tryAt_66 (σ.2 18 (x2).toNatClampNeg) rfl ?_
  refine gw_bipush hC 8 d_Mod_tryAt_67 (by decide) ?_
  refine gw_icmp_eq hC 99 d_Mod_tryAt_69 (by decide) (fun hh => ?_) (fun hh => ?_)
  · rw [if_pos hh] at hf
    exact Mod_tryAt_p99 ao aa hC N _ _ _ _ _ hf
  · rw [if_neg hh] at hf
    exact Mod_tryAt_p72 ao aa hC N _ hk57 _ _ _ _ _ hf
def Mod_tryAt_b57 (N : Nat) (k57 : Int32 → Int32 → g_S → Option (Int32 × g_S)) (x1 : Int32) (x2 : Int32) (σ : g_S) : Option (Int32 × g_S) := if x2 < 0 then Mod_tryAt_b99 N x1 x2 σ else Mod_tryAt_b61 N k57 x1 x2 σ
theorem Mod_tryAt_p57 (ao aa : Nat → Nat) {X : g_X} (hC : gC X c_Mod_tryAt R_Mod 9 198 3 (some .int)) (N : Nat) (k57 : Int32 → Int32 → g_S → Option (Int32 × g_S)) (hk57 : ∀ (x1 : Int32) (x2 : Int32) (σ : g_S) (r : Int32) (σe : g_S), k57 x1 x2 σ = some (r, σe) → gw X (.inl (some (.int r))) (LM ao aa X.2.2.1 σe) (LM ao aa X.2.2.1 σ) [(0, .ref (ao 0)), (1, .int x1), (2, .int x2)] 57 []) (x1 : Int32) (x2 : Int32) (σ : g_S) (r : Int32) (σe : g_S) (hf : Mod_tryAt_b57 N k57 x1 x2 σ = some (r, σe)) : gw X (.inl (some (.int r))) (LM ao aa X.2.2.1 σe) (LM ao aa X.2.2.1 σ) [(0, .ref (ao 0)), (1, .int x1), (2, .int x2)] 57 [] := by
  unfold Mod_tryAt_b57 at hf
  refine gw_iload_n hC 2 d_Mod_tryAt_57 rfl rfl ?_
  refine gw_if_lt hC 99 d_Mod_tryAt_58 (by decide) (fun hh => ?_) (fun hh => ?_)
  · rw [if_pos hh] at hf
    exact Mod_tryAt_p99 ao aa hC N _ _ _ _ _ hf
  · rw [if_neg hh] at hf
    exact Mod_tryAt_p61 ao aa hC N _ hk57 _ _ _ _ _ hf
def Mod_tryAt_l57 (N : Nat) : Nat → Int32 → Int32 → g_S → Option (Int32 × g_S)
  | 0 => fun _ _ _ => none
  | n + 1 => fun x1 x2 σ => Mod_tryAt_b57 N (Mod_tryAt_l57 N n) x1 x2 σ
theorem Mod_tryAt_q57 (ao aa : Nat → Nat) {X : g_X} (hC : gC X c_Mod_tryAt R_Mod 9 198 3 (some .int)) (N : Nat) (n : Nat) : ∀ (x1 : Int32) (x2 : Int32) (σ : g_S) (r : Int32) (σe : g_S), Mod_tryAt_l57 N n x1 x2 σ = some (r, σe) → gw X (.inl (some (.int r))) (LM ao aa X.2.2.1 σe) (LM ao aa X.2.2.1 σ) [(0, .ref (ao 0)), (1, .int x1), (2, .int x2)] 57 [] := by
  induction n with
  | zero => intro x1 x2 σ r σe hf; cases hf
  | succ n ih => intro x1 x2 σ r σe hf; exact Mod_tryAt_p57 ao aa hC N _ (fun x1 x2 σ r2 σ2 h2 => ih x1 x2 σ r2 σ2 h2) x1 x2 σ r σe hf
def Mod_tryAt_b36 (N : Nat) (x1 : Int32) (σ : g_S) : Option (Int32 × g_S) := (Mod_row N 8 0 0 0 0 0 σ).bind fun q47 => (Mod_row N 0 0 q47.1 0 0 0 q47.2).bind fun q53 => Mod_tryAt_l57 N N x1 q53.1 q53.2
theorem Mod_tryAt_p36 (ao aa : Nat → Nat) {X : g_X} (hC : gC X c_Mod_tryAt R_Mod 9 198 3 (some .int)) (N : Nat) (x1 : Int32) (σ : g_S) (r : Int32) (σe : g_S) (hf : Mod_tryAt_b36 N x1 σ = some (r, σe)) : gw X (.inl (some (.int r))) (LM ao aa X.2.2.1 σe) (LM ao aa X.2.2.1 σ) [(0, .ref (ao 0)), (1, .int x1)] 36 [] := by
  unfold Mod_tryAt_b36 at hf
  refine gw_aload_n hC 0 d_Mod_tryAt_36 rfl rfl ?_
  refine gw_iconst hC 0 d_Mod_tryAt_37 (by decide) ?_
  refine gw_iconst hC 0 d_Mod_tryAt_38 (by decide) ?_
  refine gw_aload_n hC 0 d_Mod_tryAt_39 rfl rfl ?_
  refine gw_bipush hC 8 d_Mod_tryAt_40 (by decide) ?_
  refine gw_iconst hC 0 d_Mod_tryAt_42 (by decide) ?_
  refine gw_iconst hC 0 d_Mod_tryAt_43 (by decide) ?_
  refine gw_iconst hC 0 d_Mod_tryAt_44 (by decide) ?_
  refine gw_iconst hC 0 d_Mod_tryAt_45 (by decide) ?_
  refine gw_iconst hC 0 d_Mod_tryAt_46 (by decide) ?_
  obtain ⟨q47, hq47, hf⟩ := g_bind hf
  refine gw_callV hC [.int 8, .int 0, .int 0, .int 0, .int 0, .int 0] [.int 0, .int 0, .ref (ao 0)] (Mod_row_m _ _ _ ao aa N _ _ _ _ _ _ _ _ _ hq47) kc_Mod_275 0 (g_lay_obj rfl) rfl rfl ⟨by decide, by decide⟩ (Nat.le_of_ble_eq_true rfl) [.int 0, .int 0, .int 0, .int 0, .int 0, .int 8, .ref (ao 0), .int 0, .int 0, .ref (ao 0)] [.int q47.1, .int 0, .int 0, .ref (ao 0)] rfl rfl d_Mod_tryAt_47 ?_
  refine gw_iconst hC 0 d_Mod_tryAt_50 (by decide) ?_
  refine gw_iconst hC 0 d_Mod_tryAt_51 (by decide) ?_
  refine gw_iconst hC 0 d_Mod_tryAt_52 (by decide) ?_
  obtain ⟨q53, hq53, hf⟩ := g_bind hf
  refine gw_callV hC [.int 0, .int 0, .int q47.1, .int 0, .int 0, .int 0] [] (Mod_row_m _ _ _ ao aa N _ _ _ _ _ _ _ _ _ hq53) kc_Mod_275 0 (g_lay_obj rfl) rfl rfl ⟨by decide, by decide⟩ (Nat.le_of_ble_eq_true rfl) [.int 0, .int 0, .int 0, .int q47.1, .int 0, .int 0, .ref (ao 0)] [.int q53.1] rfl rfl d_Mod_tryAt_53 ?_
  refine gw_istore_n hC [(2, .int q53.1), (0, .ref (ao 0)), (1, .int x1)] d_Mod_tryAt_56 rfl (by decide) rfl ?_
  refine gw_lv [1, 2, 0] rfl ?_
  exact Mod_tryAt_q57 ao aa hC N N _ _ _ _ _ hf
def Mod_tryAt_b23 (N : Nat) (k17 : Int32 → Int32 → g_S → Option (Int32 × g_S)) (x1 : Int32) (x2 : Int32) (σ : g_S) : Option (Int32 × g_S) := if gIn x2 42 = true then k17 x1 (x2 + 1) (gA σ 17 (x2).toNatClampNeg (-1)) else none
theorem Mod_tryAt_p23 (ao aa : Nat → Nat) {X : g_X} (hC : gC X c_Mod_tryAt R_Mod 9 198 3 (some .int)) (N : Nat) (k17 : Int32 → Int32 → g_S → Option (Int32 × g_S)) (hk17 : ∀ (x1 : Int32) (x2 : Int32) (σ : g_S) (r : Int32) (σe : g_S), k17 x1 x2 σ = some (r, σe) → gw X (.inl (some (.int r))) (LM ao aa X.2.2.1 σe) (LM ao aa X.2.2.1 σ) [(0, .ref (ao 0)), (1, .int x1), (2, .int x2)] 17 []) (x1 : Int32) (x2 : Int32) (σ : g_S) (r : Int32) (σe : g_S) (hf : Mod_tryAt_b23 N k17 x1 x2 σ = some (r, σe)) : gw X (.inl (some (.int r))) (LM ao aa X.2.2.1 σe) (LM ao aa X.2.2.1 σ) [(0, .ref (ao 0)), (1, .int x1), (2, .int x2)] 23 [] := by
  unfold Mod_tryAt_b23 at hf
  refine gw_aload_n hC 0 d_Mod_tryAt_23 rfl rfl ?_
  refine Mr_Mod_group hC kf_Mod_65 d_Mod_tryAt_24 ?_
  refine gw_iload_n hC 2 d_Mod_tryAt_27 rfl rfl ?_
  refine gw_iconst hC (-1) d_Mod_tryAt_28 (by decide) ?_
  obtain ⟨hg29, hf⟩ := g_guard hf
  refine Mast (j := 17) hC (by decide) hg29 d_Mod_tryAt_29 ?_
  refine gw_iinc hC (x2 + 1) 2 [(2, .int (x2 + 1)), (0, .ref (ao 0)), (1, .int x1)] d_Mod_tryAt_30 rfl rfl (by decide) rfl ?_
  refine gw_goto hC 17 d_Mod_tryAt_33 (by decide) ?_
  refine gw_lv [1, 2, 0] rfl ?_
  exact hk17 _ _ _ _ _ hf
def Mod_tryAt_b17 (N : Nat) (k17 : Int32 → Int32 → g_S → Option (Int32 × g_S)) (x1 : Int32) (x2 : Int32) (σ : g_S) : Option (Int32 × g_S) := if 42 ≤ x2 then Mod_tryAt_b36 N x1 σ else Mod_tryAt_b23 N k17 x1 x2 σ
theorem Mod_tryAt_p17 (ao aa : Nat → Nat) {X : g_X} (hC : gC X c_Mod_tryAt R_Mod 9 198 3 (some .int)) (N : Nat) (k17 : Int32 → Int32 → g_S → Option (Int32 × g_S)) (hk17 : ∀ (x1 : Int32) (x2 : Int32) (σ : g_S) (r : Int32) (σe : g_S), k17 x1 x2 σ = some (r, σe) → gw X (.inl (some (.int r))) (LM ao aa X.2.2.1 σe) (LM ao aa X.2.2.1 σ) [(0, .ref (ao 0)), (1, .int x1), (2, .int x2)] 17 []) (x1 : Int32) (x2 : Int32) (σ : g_S) (r : Int32) (σe : g_S) (hf : Mod_tryAt_b17 N k17 x1 x2 σ = some (r, σe)) : gw X (.inl (some (.int r))) (LM ao aa X.2.2.1 σe) (LM ao aa X.2.2.1 σ) [(0, .ref (ao 0)), (1, .int x1), (2, .int x2)] 17 [] := by
  unfold Mod_tryAt_b17 at hf
  refine gw_iload_n hC 2 d_Mod_tryAt_17 rfl rfl ?_
  refine gw_bipush hC 42 d_Mod_tryAt_18 (by decide) ?_
  refine gw_icmp_ge hC 36 d_Mod_tryAt_20 (by decide) (fun hh => ?_) (fun hh => ?_)
  · rw [if_pos hh] at hf
    refine gw_lv [0, 1] rfl ?_
    exact Mod_tryAt_p36 ao aa hC N _ _ _ _ hf
  · rw [if_neg hh] at hf
    exact Mod_tryAt_p23 ao aa hC N _ hk17 _ _ _ _ _ hf
def Mod_tryAt_l17 (N : Nat) : Nat → Int32 → Int32 → g_S → Option (Int32 × g_S)
  | 0 => fun _ _ _ => none
  | n + 1 => fun x1 x2 σ => Mod_tryAt_b17 N (Mod_tryAt_l17 N n) x1 x2 σ
theorem Mod_tryAt_q17 (ao aa : Nat → Nat) {X : g_X} (hC : gC X c_Mod_tryAt R_Mod 9 198 3 (some .int)) (N : Nat) (n : Nat) : ∀ (x1 : Int32) (x2 : Int32) (σ : g_S) (r : Int32) (σe : g_S), Mod_tryAt_l17 N n x1 x2 σ = some (r, σe) → gw X (.inl (some (.int r))) (LM ao aa X.2.2.1 σe) (LM ao aa X.2.2.1 σ) [(0, .ref (ao 0)), (1, .int x1), (2, .int x2)] 17 [] := by
  induction n with
  | zero => intro x1 x2 σ r σe hf; cases hf
  | succ n ih => intro x1 x2 σ r σe hf; exact Mod_tryAt_p17 ao aa hC N _ (fun x1 x2 σ r2 σ2 h2 => ih x1 x2 σ r2 σ2 h2) x1 x2 σ r σe hf
def Mod_tryAt_b0 (N : Nat) (x1 : Int32) (σ : g_S) : Option (Int32 × g_S) := Mod_tryAt_l17 N N x1 0 (gF (gF (gF σ 18 0) 19 0) 11 x1)
theorem Mod_tryAt_p0 (ao aa : Nat → Nat) {X : g_X} (hC : gC X c_Mod_tryAt R_Mod 9 198 3 (some .int)) (N : Nat) (x1 : Int32) (σ : g_S) (r : Int32) (σe : g_S) (hf : Mod_tryAt_b0 N x1 σ = some (r, σe)) : gw X (.inl (some (.int r))) (LM ao aa X.2.2.1 σe) (LM ao aa X.2.2.1 σ) [(0, .ref (ao 0)), (1, .int x1)] 0 [] := by
  unfold Mod_tryAt_b0 at hf
  refine gw_aload_n hC 0 d_Mod_tryAt_0 rfl rfl ?_
  refine gw_iconst hC 0 d_Mod_tryAt_1 (by decide) ?_
  refine Mp18 hC kf_Mod_241 d_Mod_tryAt_2 ?_
  refine gw_aload_n hC 0 d_Mod_tryAt_5 rfl rfl ?_
  refine gw_iconst hC 0 d_Mod_tryAt_6 (by decide) ?_
  refine Mp19 hC kf_Mod_244 d_Mod_tryAt_7 ?_
  refine gw_aload_n hC 0 d_Mod_tryAt_10 rfl rfl ?_
  refine gw_iload_n hC 1 d_Mod_tryAt_11 rfl rfl ?_
  refine Mp11 hC kf_Mod_129 d_Mod_tryAt_12 ?_
  refine gw_iconst hC 0 d_Mod_tryAt_15 (by decide) ?_
  refine gw_istore_n hC [(2, .int 0), (0, .ref (ao 0)), (1, .int x1)] d_Mod_tryAt_16 rfl (by decide) rfl ?_
  refine gw_lv [1, 2, 0] rfl ?_
  exact Mod_tryAt_q17 ao aa hC N N _ _ _ _ _ hf
def Mod_tryAt (N : Nat) (x1 : Int32) (σ : g_S) : Option (Int32 × g_S) := Mod_tryAt_b0 N x1 σ
theorem Mod_tryAt_m (l : Launch) (D : va_G) (cA : ClassId) (ao aa : Nat → Nat) (N : Nat) (x1 : Int32) (σ : g_S) (r : Int32) (σe : g_S) (hf : Mod_tryAt N x1 σ = some (r, σe)) : Mt l D cA y_Mod_tryAt c_Mod_tryAt 3 (some .int) 9 198 [.ref (ao 0), .int x1] (LM ao aa cA σ) (some (.int r)) (LM ao aa cA σe) := by
  refine g_met (by decide +kernel) (by simp [lg_sl, Value.category]) (fun X e1 e2 e3 hC => ?_)
  subst e1 e2 e3
  refine gw_lv [0, 1] rfl ?_
  exact Mod_tryAt_p0 ao aa hC N _ _ (r) _ hf
def Mod_begins_b52 (N : Nat) (x2 : Int32) (σ : g_S) : Option (Int32 × g_S) := some (1, (gF (gF (gF σ 15 0) 16 0) 17 x2))
theorem Mod_begins_p52 (ao aa : Nat → Nat) {X : g_X} (hC : gC X c_Mod_begins R_Mod 1 22 3 (some .boolean)) (N : Nat) (x2 : Int32) (σ : g_S) (r : Int32) (σe : g_S) (hf : Mod_begins_b52 N x2 σ = some (r, σe)) : gw X (.inl (some (.int r))) (LM ao aa X.2.2.1 σe) (LM ao aa X.2.2.1 σ) [(0, .ref (ao 0)), (2, .int x2)] 52 [] := by
  unfold Mod_begins_b52 at hf
  refine gw_aload_n hC 0 d_Mod_begins_52 rfl rfl ?_
  refine gw_iconst hC 0 d_Mod_begins_53 (by decide) ?_
  refine Mp15 hC kf_Mod_222 d_Mod_begins_54 (by decide) ?_
  refine gw_aload_n hC 0 d_Mod_begins_57 rfl rfl ?_
  refine gw_iconst hC 0 d_Mod_begins_58 (by decide) ?_
  refine Mp16 hC kf_Mod_247 d_Mod_begins_59 ?_
  refine gw_aload_n hC 0 d_Mod_begins_62 rfl rfl ?_
  refine gw_iload_n hC 1 d_Mod_begins_63 rfl rfl ?_
  refine Mp17 hC kf_Mod_250 d_Mod_begins_64 ?_
  refine gw_iconst hC 1 d_Mod_begins_67 (by decide) ?_
  cases hf
  exact gw_zret hC (by decide) d_Mod_begins_68
def Mod_begins_b50 (N : Nat) (σ : g_S) : Option (Int32 × g_S) := some (0, σ)
theorem Mod_begins_p50 (ao aa : Nat → Nat) {X : g_X} (hC : gC X c_Mod_begins R_Mod 1 22 3 (some .boolean)) (N : Nat) (σ : g_S) (r : Int32) (σe : g_S) (hf : Mod_begins_b50 N σ = some (r, σe)) : gw X (.inl (some (.int r))) (LM ao aa X.2.2.1 σe) (LM ao aa X.2.2.1 σ) [(0, .ref (ao 0))] 50 [] := by
  unfold Mod_begins_b50 at hf
  refine gw_iconst hC 0 d_Mod_begins_50 (by decide) ?_
  cases hf
  exact gw_zret hC (by decide) d_Mod_begins_51
def Mod_begins_b40 (N : Nat) (x2 : Int32) (s1 : Int32) (σ : g_S) : Option (Int32 × g_S) := if s1 ≤ 0 then Mod_begins_b52 N x2 (gF σ 0 s1) else Mod_begins_b50 N (gF σ 0 s1)
theorem Mod_begins_p40 (ao aa : Nat → Nat) {X : g_X} (hC : gC X c_Mod_begins R_Mod 1 22 3 (some .boolean)) (N : Nat) (x2 : Int32) (s1 : Int32) (σ : g_S) (r : Int32) (σe : g_S) (hf : Mod_begins_b40 N x2 s1 σ = some (r, σe)) : gw X (.inl (some (.int r))) (LM ao aa X.2.2.1 σe) (LM ao aa X.2.2.1 σ) [(0, .ref (ao 0)), (2, .int x2)] 40 [.int s1, .ref (ao 0)] := by
  unfold Mod_begins_b40 at hf
  refine Mp0 hC kf_Mod_100 d_Mod_begins_40 ?_
  refine gw_aload_n hC 0 d_Mod_begins_43 rfl rfl ?_
  refine Mg0 hC kf_Mod_100 d_Mod_begins_44 s1 rfl ?_
  refine gw_if_le hC 52 d_Mod_begins_47 (by decide) (fun hh => ?_) (fun hh => ?_)
  · rw [if_pos hh] at hf
    exact Mod_begins_p52 ao aa hC N _ _ _ _ hf
  · rw [if_neg hh] at hf
    refine gw_lv [0] rfl ?_
    exact Mod_begins_p50 ao aa hC N _ _ _ hf
def Mod_begins_b24 (N : Nat) (x2 : Int32) (σ : g_S) : Option (Int32 × g_S) := Mod_begins_b40 N x2 1 σ
theorem Mod_begins_p24 (ao aa : Nat → Nat) {X : g_X} (hC : gC X c_Mod_begins R_Mod 1 22 3 (some .boolean)) (N : Nat) (x2 : Int32) (σ : g_S) (r : Int32) (σe : g_S) (hf : Mod_begins_b24 N x2 σ = some (r, σe)) : gw X (.inl (some (.int r))) (LM ao aa X.2.2.1 σe) (LM ao aa X.2.2.1 σ) [(0, .ref (ao 0)), (2, .int x2)] 24 [.ref (ao 0)] := by
  unfold Mod_begins_b24 at hf
  refine gw_iconst hC 1 d_Mod_begins_24 (by decide) ?_
  refine gw_goto hC 40 d_Mod_begins_25 (by decide) ?_
  exact Mod_begins_p40 ao aa hC N _ _ _ _ _ hf
def Mod_begins_b39 (N : Nat) (x2 : Int32) (σ : g_S) : Option (Int32 × g_S) := Mod_begins_b40 N x2 0 σ
theorem Mod_begins_p39 (ao aa : Nat → Nat) {X : g_X} (hC : gC X c_Mod_begins R_Mod 1 22 3 (some .boolean)) (N : Nat) (x2 : Int32) (σ : g_S) (r : Int32) (σe : g_S) (hf : Mod_begins_b39 N x2 σ = some (r, σe)) : gw X (.inl (some (.int r))) (LM ao aa X.2.2.1 σe) (LM ao aa X.2.2.1 σ) [(0, .ref (ao 0)), (2, .int x2)] 39 [.ref (ao 0)] := by
  unfold Mod_begins_b39 at hf
  refine gw_iconst hC 0 d_Mod_begins_39 (by decide) ?_
  exact Mod_begins_p40 ao aa hC N _ _ _ _ _ hf
def Mod_begins_b35 (N : Nat) (x2 : Int32) (σ : g_S) : Option (Int32 × g_S) := Mod_begins_b40 N x2 2 σ
theorem Mod_begins_p35 (ao aa : Nat → Nat) {X : g_X} (hC : gC X c_Mod_begins R_Mod 1 22 3 (some .boolean)) (N : Nat) (x2 : Int32) (σ : g_S) (r : Int32) (σe : g_S) (hf : Mod_begins_b35 N x2 σ = some (r, σe)) : gw X (.inl (some (.int r))) (LM ao aa X.2.2.1 σe) (LM ao aa X.2.2.1 σ) [(0, .ref (ao 0)), (2, .int x2)] 35 [.ref (ao 0)] := by
  unfold Mod_begins_b35 at hf
  refine gw_iconst hC 2 d_Mod_begins_35 (by decide) ?_
  refine gw_goto hC 40 d_Mod_begins_36 (by decide) ?_
  exact Mod_begins_p40 ao aa hC N _ _ _ _ _ hf
def Mod_begins_b28 (N : Nat) (x2 : Int32) (σ : g_S) : Option (Int32 × g_S) := if (σ.1 5) = 0 then Mod_begins_b35 N x2 σ else Mod_begins_b39 N x2 σ
theorem Mod_begins_p28 (ao aa : Nat → Nat) {X : g_X} (hC : gC X c_Mod_begins R_Mod 1 22 3 (some .boolean)) (N : Nat) (x2 : Int32) (σ : g_S) (r : Int32) (σe : g_S) (hf : Mod_begins_b28 N x2 σ = some (r, σe)) : gw X (.inl (some (.int r))) (LM ao aa X.2.2.1 σe) (LM ao aa X.2.2.1 σ) [(0, .ref (ao 0)), (2, .int x2)] 28 [.ref (ao 0)] := by
  unfold Mod_begins_b28 at hf
  refine gw_aload_n hC 0 d_Mod_begins_28 rfl rfl ?_
  refine Mg5 hC kf_Mod_226 d_Mod_begins_29 (σ.1 5) rfl ?_
  refine gw_if_ne hC 39 d_Mod_begins_32 (by decide) (fun hh => ?_) (fun hh => ?_)
  · rw [if_neg hh] at hf
    exact Mod_begins_p39 ao aa hC N _ _ _ _ hf
  · rw [if_pos hh] at hf
    exact Mod_begins_p35 ao aa hC N _ _ _ _ hf
def Mod_begins_b13 (N : Nat) (x2 : Int32) (σ : g_S) : Option (Int32 × g_S) := (Mod_in N x2 1 10000 σ).bind fun q18 => if q18.1 = 0 then Mod_begins_b24 N x2 q18.2 else Mod_begins_b28 N x2 q18.2
theorem Mod_begins_p13 (ao aa : Nat → Nat) {X : g_X} (hC : gC X c_Mod_begins R_Mod 1 22 3 (some .boolean)) (N : Nat) (x2 : Int32) (σ : g_S) (r : Int32) (σe : g_S) (hf : Mod_begins_b13 N x2 σ = some (r, σe)) : gw X (.inl (some (.int r))) (LM ao aa X.2.2.1 σe) (LM ao aa X.2.2.1 σ) [(0, .ref (ao 0)), (2, .int x2)] 13 [.ref (ao 0)] := by
  unfold Mod_begins_b13 at hf
  refine gw_iload_n hC 1 d_Mod_begins_13 rfl rfl ?_
  refine gw_iconst hC 1 d_Mod_begins_14 (by decide) ?_
  refine gw_sipush hC 10000 d_Mod_begins_15 (by decide) ?_
  obtain ⟨q18, hq18, hf⟩ := g_bind hf
  refine gw_callS hC [.int x2, .int 1, .int 10000] [.ref (ao 0)] (Mod_in_m _ _ _ ao aa N _ _ _ _ _ _ hq18) kc_Mod_103 ⟨by decide, by decide⟩ (Nat.le_of_ble_eq_true rfl) [.int 10000, .int 1, .int x2, .ref (ao 0)] [.int q18.1, .ref (ao 0)] rfl rfl d_Mod_begins_18 ?_
  refine gw_if_ne hC 28 d_Mod_begins_21 (by decide) (fun hh => ?_) (fun hh => ?_)
  · rw [if_neg hh] at hf
    exact Mod_begins_p28 ao aa hC N _ _ _ _ hf
  · rw [if_pos hh] at hf
    exact Mod_begins_p24 ao aa hC N _ _ _ _ hf
def Mod_begins_b0 (N : Nat) (x1 : Int32) (x2 : Int32) (σ : g_S) : Option (Int32 × g_S) := (Mod_in N x1 0 (σ.1 7) σ).bind fun q7 => if q7.1 = 0 then Mod_begins_b24 N x2 q7.2 else Mod_begins_b13 N x2 q7.2
theorem Mod_begins_p0 (ao aa : Nat → Nat) {X : g_X} (hC : gC X c_Mod_begins R_Mod 1 22 3 (some .boolean)) (N : Nat) (x1 : Int32) (x2 : Int32) (σ : g_S) (r : Int32) (σe : g_S) (hf : Mod_begins_b0 N x1 x2 σ = some (r, σe)) : gw X (.inl (some (.int r))) (LM ao aa X.2.2.1 σe) (LM ao aa X.2.2.1 σ) [(0, .ref (ao 0)), (1, .int x1), (2, .int x2)] 0 [] := by
  unfold Mod_begins_b0 at hf
  refine gw_aload_n hC 0 d_Mod_begins_0 rfl rfl ?_
  refine gw_iload_n hC 1 d_Mod_begins_1 rfl rfl ?_
  refine gw_iconst hC 0 d_Mod_begins_2 (by decide) ?_
  refine gw_aload_n hC 0 d_Mod_begins_3 rfl rfl ?_
  refine Mg7 hC kf_Mod_238 d_Mod_begins_4 (σ.1 7) rfl ?_
  obtain ⟨q7, hq7, hf⟩ := g_bind hf
  refine gw_callS hC [.int x1, .int 0, .int (σ.1 7)] [.ref (ao 0)] (Mod_in_m _ _ _ ao aa N _ _ _ _ _ _ hq7) kc_Mod_103 ⟨by decide, by decide⟩ (Nat.le_of_ble_eq_true rfl) [.int (σ.1 7), .int 0, .int x1, .ref (ao 0)] [.int q7.1, .ref (ao 0)] rfl rfl d_Mod_begins_7 ?_
  refine gw_if_eq hC 24 d_Mod_begins_10 (by decide) (fun hh => ?_) (fun hh => ?_)
  · rw [if_pos hh] at hf
    refine gw_lv [0, 2] rfl ?_
    exact Mod_begins_p24 ao aa hC N _ _ _ _ hf
  · rw [if_neg hh] at hf
    refine gw_lv [0, 2] rfl ?_
    exact Mod_begins_p13 ao aa hC N _ _ _ _ hf
def Mod_begins (N : Nat) (x1 : Int32) (x2 : Int32) (σ : g_S) : Option (Int32 × g_S) := Mod_begins_b0 N x1 x2 σ
theorem Mod_begins_m (l : Launch) (D : va_G) (cA : ClassId) (ao aa : Nat → Nat) (N : Nat) (x1 : Int32) (x2 : Int32) (σ : g_S) (r : Int32) (σe : g_S) (hf : Mod_begins N x1 x2 σ = some (r, σe)) : Mt l D cA y_Mod_begins c_Mod_begins 3 (some .boolean) 1 22 [.ref (ao 0), .int x1, .int x2] (LM ao aa cA σ) (some (.int r)) (LM ao aa cA σe) := by
  refine g_met (by decide +kernel) (by simp [lg_sl, Value.category]) (fun X e1 e2 e3 hC => ?_)
  subst e1 e2 e3
  refine gw_lv [0, 1, 2] rfl ?_
  exact Mod_begins_p0 ao aa hC N _ _ _ (r) _ hf
