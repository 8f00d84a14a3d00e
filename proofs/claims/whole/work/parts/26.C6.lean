theorem kn_Machine_84 : Cond.constant R_Machine 84 65535 ∈ g_TB := g_mem (List.mem_append_right _ (List.mem_append_right _ (List.mem_append_right _ (List.mem_append_left _ (List.mem_of_getElem? (i := 157) (by decide +kernel)))))) rfl
theorem kc_Machine_80 : g_okV R_Machine 80 y_Machine_nextChoice c_Machine_nextChoice 3 (some .int) 0 := ⟨g_mem (List.mem_append_right _ (List.mem_append_right _ (List.mem_append_right _ (List.mem_append_left _ (List.mem_of_getElem? (i := 156) rfl))))) rfl, g_mem (List.mem_append_right _ (List.mem_append_left _ (List.mem_of_getElem? (i := 4) (by decide +kernel)))) rfl, g_mem (List.mem_append_right _ (List.mem_append_right _ (List.mem_append_right _ (List.mem_append_left _ (List.mem_of_getElem? (i := 153) (by decide +kernel)))))) rfl, g_mem (List.mem_append_right _ (List.mem_append_right _ (List.mem_append_right _ (List.mem_append_left _ (List.mem_of_getElem? (i := 155) (by decide +kernel)))))) rfl, g_mem (List.mem_append_left _ (List.mem_of_getElem? (i := 43) (by decide +kernel))) rfl, by decide +kernel, by decide +kernel, by decide +kernel⟩
theorem kc_Machine_77 : g_okV R_Machine 77 y_Machine_perform c_Machine_perform 5 (some .int) 1 := ⟨g_mem (List.mem_append_right _ (List.mem_append_right _ (List.mem_append_right _ (List.mem_append_left _ (List.mem_of_getElem? (i := 77) rfl))))) rfl, g_mem (List.mem_append_right _ (List.mem_append_left _ (List.mem_of_getElem? (i := 4) (by decide +kernel)))) rfl, g_mem (List.mem_append_right _ (List.mem_append_right _ (List.mem_append_right _ (List.mem_append_left _ (List.mem_of_getElem? (i := 74) (by decide +kernel)))))) rfl, g_mem (List.mem_append_right _ (List.mem_append_right _ (List.mem_append_right _ (List.mem_append_left _ (List.mem_of_getElem? (i := 76) (by decide +kernel)))))) rfl, g_mem (List.mem_append_left _ (List.mem_of_getElem? (i := 29) (by decide +kernel))) rfl, by decide +kernel, by decide +kernel, by decide +kernel⟩
theorem kn_Machine_76 : Cond.constant R_Machine 76 4000000 ∈ g_TB := g_mem (List.mem_append_right _ (List.mem_append_right _ (List.mem_append_right _ (List.mem_append_left _ (List.mem_of_getElem? (i := 73) (by decide +kernel)))))) rfl
theorem d_Machine_nextChoice_0 : decode c_Machine_nextChoice 0 = .ok (.aload_n 0, 1) := by decide +kernel
theorem d_Machine_nextChoice_1 : decode c_Machine_nextChoice 1 = .ok (.getfield 70, 3) := by decide +kernel
theorem d_Machine_nextChoice_4 : decode c_Machine_nextChoice 4 = .ok (.ifCond .gt 6, 3) := by decide +kernel
theorem d_Machine_nextChoice_7 : decode c_Machine_nextChoice 7 = .ok (.bipush (-2), 2) := by decide +kernel
theorem d_Machine_nextChoice_9 : decode c_Machine_nextChoice 9 = .ok (.ireturn, 1) := by decide +kernel
theorem d_Machine_nextChoice_10 : decode c_Machine_nextChoice 10 = .ok (.aload_n 0, 1) := by decide +kernel
theorem d_Machine_nextChoice_11 : decode c_Machine_nextChoice 11 = .ok (.dup, 1) := by decide +kernel
theorem d_Machine_nextChoice_12 : decode c_Machine_nextChoice 12 = .ok (.getfield 70, 3) := by decide +kernel
theorem d_Machine_nextChoice_15 : decode c_Machine_nextChoice 15 = .ok (.iconst 1, 1) := by decide +kernel
theorem d_Machine_nextChoice_16 : decode c_Machine_nextChoice 16 = .ok (.isub, 1) := by decide +kernel
theorem d_Machine_nextChoice_17 : decode c_Machine_nextChoice 17 = .ok (.putfield 70, 3) := by decide +kernel
theorem d_Machine_nextChoice_20 : decode c_Machine_nextChoice 20 = .ok (.aload_n 0, 1) := by decide +kernel
theorem d_Machine_nextChoice_21 : decode c_Machine_nextChoice 21 = .ok (.getfield 26, 3) := by decide +kernel
theorem d_Machine_nextChoice_24 : decode c_Machine_nextChoice 24 = .ok (.aload_n 0, 1) := by decide +kernel
theorem d_Machine_nextChoice_25 : decode c_Machine_nextChoice 25 = .ok (.getfield 70, 3) := by decide +kernel
theorem d_Machine_nextChoice_28 : decode c_Machine_nextChoice 28 = .ok (.invokestatic 43, 3) := by decide +kernel
theorem d_Machine_nextChoice_31 : decode c_Machine_nextChoice 31 = .ok (.istore_n 1, 1) := by decide +kernel
theorem d_Machine_nextChoice_32 : decode c_Machine_nextChoice 32 = .ok (.aload_n 0, 1) := by decide +kernel
theorem d_Machine_nextChoice_33 : decode c_Machine_nextChoice 33 = .ok (.getfield 73, 3) := by decide +kernel
theorem d_Machine_nextChoice_36 : decode c_Machine_nextChoice 36 = .ok (.iload_n 1, 1) := by decide +kernel
theorem d_Machine_nextChoice_37 : decode c_Machine_nextChoice 37 = .ok (.if_icmp .le 45, 3) := by decide +kernel
theorem d_Machine_nextChoice_40 : decode c_Machine_nextChoice 40 = .ok (.aload_n 0, 1) := by decide +kernel
theorem d_Machine_nextChoice_41 : decode c_Machine_nextChoice 41 = .ok (.dup, 1) := by decide +kernel
theorem d_Machine_nextChoice_42 : decode c_Machine_nextChoice 42 = .ok (.getfield 73, 3) := by decide +kernel
theorem d_Machine_nextChoice_45 : decode c_Machine_nextChoice 45 = .ok (.iconst 1, 1) := by decide +kernel
theorem d_Machine_nextChoice_46 : decode c_Machine_nextChoice 46 = .ok (.isub, 1) := by decide +kernel
theorem d_Machine_nextChoice_47 : decode c_Machine_nextChoice 47 = .ok (.putfield 73, 3) := by decide +kernel
theorem d_Machine_nextChoice_50 : decode c_Machine_nextChoice 50 = .ok (.aload_n 0, 1) := by decide +kernel
theorem d_Machine_nextChoice_51 : decode c_Machine_nextChoice 51 = .ok (.getfield 30, 3) := by decide +kernel
theorem d_Machine_nextChoice_54 : decode c_Machine_nextChoice 54 = .ok (.aload_n 0, 1) := by decide +kernel
theorem d_Machine_nextChoice_55 : decode c_Machine_nextChoice 55 = .ok (.getfield 73, 3) := by decide +kernel
theorem d_Machine_nextChoice_58 : decode c_Machine_nextChoice 58 = .ok (.invokestatic 43, 3) := by decide +kernel
theorem d_Machine_nextChoice_61 : decode c_Machine_nextChoice 61 = .ok (.istore_n 2, 1) := by decide +kernel
theorem d_Machine_nextChoice_62 : decode c_Machine_nextChoice 62 = .ok (.aload_n 0, 1) := by decide +kernel
theorem d_Machine_nextChoice_63 : decode c_Machine_nextChoice 63 = .ok (.getfield 17, 3) := by decide +kernel
theorem d_Machine_nextChoice_66 : decode c_Machine_nextChoice 66 = .ok (.iload_n 2, 1) := by decide +kernel
theorem d_Machine_nextChoice_67 : decode c_Machine_nextChoice 67 = .ok (.bipush 16, 2) := by decide +kernel
theorem d_Machine_nextChoice_69 : decode c_Machine_nextChoice 69 = .ok (.iushr, 1) := by decide +kernel
theorem d_Machine_nextChoice_70 : decode c_Machine_nextChoice 70 = .ok (.iload_n 2, 1) := by decide +kernel
theorem d_Machine_nextChoice_71 : decode c_Machine_nextChoice 71 = .ok (.ldc 84, 2) := by decide +kernel
theorem d_Machine_nextChoice_73 : decode c_Machine_nextChoice 73 = .ok (.iand, 1) := by decide +kernel
theorem d_Machine_nextChoice_74 : decode c_Machine_nextChoice 74 = .ok (.iconst 1, 1) := by decide +kernel
theorem d_Machine_nextChoice_75 : decode c_Machine_nextChoice 75 = .ok (.isub, 1) := by decide +kernel
theorem d_Machine_nextChoice_76 : decode c_Machine_nextChoice 76 = .ok (.invokestatic 49, 3) := by decide +kernel
theorem d_Machine_nextChoice_79 : decode c_Machine_nextChoice 79 = .ok (.goto (-47), 3) := by decide +kernel
theorem d_Machine_nextChoice_82 : decode c_Machine_nextChoice 82 = .ok (.aload_n 0, 1) := by decide +kernel
theorem d_Machine_nextChoice_83 : decode c_Machine_nextChoice 83 = .ok (.aload_n 0, 1) := by decide +kernel
theorem d_Machine_nextChoice_84 : decode c_Machine_nextChoice 84 = .ok (.getfield 23, 3) := by decide +kernel
theorem d_Machine_nextChoice_87 : decode c_Machine_nextChoice 87 = .ok (.aload_n 0, 1) := by decide +kernel
theorem d_Machine_nextChoice_88 : decode c_Machine_nextChoice 88 = .ok (.getfield 70, 3) := by decide +kernel
theorem d_Machine_nextChoice_91 : decode c_Machine_nextChoice 91 = .ok (.invokestatic 43, 3) := by decide +kernel
theorem d_Machine_nextChoice_94 : decode c_Machine_nextChoice 94 = .ok (.putfield 67, 3) := by decide +kernel
theorem d_Machine_nextChoice_97 : decode c_Machine_nextChoice 97 = .ok (.aload_n 0, 1) := by decide +kernel
theorem d_Machine_nextChoice_98 : decode c_Machine_nextChoice 98 = .ok (.getfield 20, 3) := by decide +kernel
theorem d_Machine_nextChoice_101 : decode c_Machine_nextChoice 101 = .ok (.aload_n 0, 1) := by decide +kernel
theorem d_Machine_nextChoice_102 : decode c_Machine_nextChoice 102 = .ok (.getfield 70, 3) := by decide +kernel
theorem d_Machine_nextChoice_105 : decode c_Machine_nextChoice 105 = .ok (.invokestatic 43, 3) := by decide +kernel
theorem d_Machine_nextChoice_108 : decode c_Machine_nextChoice 108 = .ok (.ireturn, 1) := by decide +kernel
theorem d_Machine_tryAt_0 : decode c_Machine_tryAt 0 = .ok (.aload_n 0, 1) := by decide +kernel
theorem d_Machine_tryAt_1 : decode c_Machine_tryAt 1 = .ok (.iload_n 1, 1) := by decide +kernel
theorem d_Machine_tryAt_2 : decode c_Machine_tryAt 2 = .ok (.putfield 67, 3) := by decide +kernel
theorem d_Machine_tryAt_5 : decode c_Machine_tryAt 5 = .ok (.aload_n 0, 1) := by decide +kernel
theorem d_Machine_tryAt_6 : decode c_Machine_tryAt 6 = .ok (.iconst 0, 1) := by decide +kernel
theorem d_Machine_tryAt_7 : decode c_Machine_tryAt 7 = .ok (.putfield 70, 3) := by decide +kernel
theorem d_Machine_tryAt_10 : decode c_Machine_tryAt 10 = .ok (.aload_n 0, 1) := by decide +kernel
theorem d_Machine_tryAt_11 : decode c_Machine_tryAt 11 = .ok (.iconst 0, 1) := by decide +kernel
theorem d_Machine_tryAt_12 : decode c_Machine_tryAt 12 = .ok (.putfield 73, 3) := by decide +kernel
theorem d_Machine_tryAt_15 : decode c_Machine_tryAt 15 = .ok (.iconst 0, 1) := by decide +kernel
theorem d_Machine_tryAt_16 : decode c_Machine_tryAt 16 = .ok (.istore_n 2, 1) := by decide +kernel
theorem d_Machine_tryAt_17 : decode c_Machine_tryAt 17 = .ok (.iload_n 2, 1) := by decide +kernel
theorem d_Machine_tryAt_18 : decode c_Machine_tryAt 18 = .ok (.bipush 20, 2) := by decide +kernel
theorem d_Machine_tryAt_20 : decode c_Machine_tryAt 20 = .ok (.if_icmp .gt 20, 3) := by decide +kernel
theorem d_Machine_tryAt_23 : decode c_Machine_tryAt 23 = .ok (.aload_n 0, 1) := by decide +kernel
theorem d_Machine_tryAt_24 : decode c_Machine_tryAt 24 = .ok (.getfield 17, 3) := by decide +kernel
theorem d_Machine_tryAt_27 : decode c_Machine_tryAt 27 = .ok (.iconst 0, 1) := by decide +kernel
theorem d_Machine_tryAt_28 : decode c_Machine_tryAt 28 = .ok (.iload_n 2, 1) := by decide +kernel
theorem d_Machine_tryAt_29 : decode c_Machine_tryAt 29 = .ok (.iadd, 1) := by decide +kernel
theorem d_Machine_tryAt_30 : decode c_Machine_tryAt 30 = .ok (.iconst (-1), 1) := by decide +kernel
theorem d_Machine_tryAt_31 : decode c_Machine_tryAt 31 = .ok (.invokestatic 49, 3) := by decide +kernel
theorem d_Machine_tryAt_34 : decode c_Machine_tryAt 34 = .ok (.iinc 2 1, 3) := by decide +kernel
theorem d_Machine_tryAt_37 : decode c_Machine_tryAt 37 = .ok (.goto (-20), 3) := by decide +kernel
theorem d_Machine_tryAt_40 : decode c_Machine_tryAt 40 = .ok (.iconst 1, 1) := by decide +kernel
theorem d_Machine_tryAt_41 : decode c_Machine_tryAt 41 = .ok (.istore_n 2, 1) := by decide +kernel
theorem d_Machine_tryAt_42 : decode c_Machine_tryAt 42 = .ok (.iconst 0, 1) := by decide +kernel
theorem d_Machine_tryAt_43 : decode c_Machine_tryAt 43 = .ok (.istore_n 3, 1) := by decide +kernel
theorem d_Machine_tryAt_44 : decode c_Machine_tryAt 44 = .ok (.iload_n 3, 1) := by decide +kernel
theorem d_Machine_tryAt_45 : decode c_Machine_tryAt 45 = .ok (.ldc 76, 2) := by decide +kernel
theorem d_Machine_tryAt_47 : decode c_Machine_tryAt 47 = .ok (.if_icmp .ge 30, 3) := by decide +kernel
theorem d_Machine_tryAt_50 : decode c_Machine_tryAt 50 = .ok (.iload_n 2, 1) := by decide +kernel
theorem d_Machine_tryAt_51 : decode c_Machine_tryAt 51 = .ok (.ifCond .lt 26, 3) := by decide +kernel
theorem d_Machine_tryAt_54 : decode c_Machine_tryAt 54 = .ok (.aload_n 0, 1) := by decide +kernel
theorem d_Machine_tryAt_55 : decode c_Machine_tryAt 55 = .ok (.iload_n 2, 1) := by decide +kernel
theorem d_Machine_tryAt_56 : decode c_Machine_tryAt 56 = .ok (.invokevirtual 77, 3) := by decide +kernel
theorem d_Machine_tryAt_59 : decode c_Machine_tryAt 59 = .ok (.istore_n 2, 1) := by decide +kernel
theorem d_Machine_tryAt_60 : decode c_Machine_tryAt 60 = .ok (.iload_n 2, 1) := by decide +kernel
theorem d_Machine_tryAt_61 : decode c_Machine_tryAt 61 = .ok (.bipush (-2), 2) := by decide +kernel
theorem d_Machine_tryAt_63 : decode c_Machine_tryAt 63 = .ok (.if_icmp .ne 8, 3) := by decide +kernel
theorem d_Machine_tryAt_66 : decode c_Machine_tryAt 66 = .ok (.aload_n 0, 1) := by decide +kernel
theorem d_Machine_tryAt_67 : decode c_Machine_tryAt 67 = .ok (.invokevirtual 80, 3) := by decide +kernel
theorem d_Machine_tryAt_70 : decode c_Machine_tryAt 70 = .ok (.istore_n 2, 1) := by decide +kernel
theorem d_Machine_tryAt_71 : decode c_Machine_tryAt 71 = .ok (.iinc 3 1, 3) := by decide +kernel
theorem d_Machine_tryAt_74 : decode c_Machine_tryAt 74 = .ok (.goto (-30), 3) := by decide +kernel
theorem d_Machine_tryAt_77 : decode c_Machine_tryAt 77 = .ok (.iload_n 2, 1) := by decide +kernel
theorem d_Machine_tryAt_78 : decode c_Machine_tryAt 78 = .ok (.iconst (-1), 1) := by decide +kernel
theorem d_Machine_tryAt_79 : decode c_Machine_tryAt 79 = .ok (.if_icmp .ne 27, 3) := by decide +kernel
theorem d_Machine_tryAt_82 : decode c_Machine_tryAt 82 = .ok (.aload_n 0, 1) := by decide +kernel
theorem d_Machine_tryAt_83 : decode c_Machine_tryAt 83 = .ok (.getfield 17, 3) := by decide +kernel
theorem d_Machine_tryAt_86 : decode c_Machine_tryAt 86 = .ok (.iconst 0, 1) := by decide +kernel
theorem d_Machine_tryAt_87 : decode c_Machine_tryAt 87 = .ok (.iload_n 1, 1) := by decide +kernel
theorem d_Machine_tryAt_88 : decode c_Machine_tryAt 88 = .ok (.invokestatic 49, 3) := by decide +kernel
theorem d_Machine_tryAt_91 : decode c_Machine_tryAt 91 = .ok (.aload_n 0, 1) := by decide +kernel
theorem d_Machine_tryAt_92 : decode c_Machine_tryAt 92 = .ok (.getfield 17, 3) := by decide +kernel
theorem d_Machine_tryAt_95 : decode c_Machine_tryAt 95 = .ok (.bipush 21, 2) := by decide +kernel
theorem d_Machine_tryAt_97 : decode c_Machine_tryAt 97 = .ok (.aload_n 0, 1) := by decide +kernel
theorem d_Machine_tryAt_98 : decode c_Machine_tryAt 98 = .ok (.getfield 67, 3) := by decide +kernel
theorem d_Machine_tryAt_101 : decode c_Machine_tryAt 101 = .ok (.invokestatic 49, 3) := by decide +kernel
theorem d_Machine_tryAt_104 : decode c_Machine_tryAt 104 = .ok (.iconst 1, 1) := by decide +kernel
theorem d_Machine_tryAt_105 : decode c_Machine_tryAt 105 = .ok (.ireturn, 1) := by decide +kernel
theorem d_Machine_tryAt_106 : decode c_Machine_tryAt 106 = .ok (.iload_n 2, 1) := by decide +kernel
theorem d_Machine_tryAt_107 : decode c_Machine_tryAt 107 = .ok (.bipush (-2), 2) := by decide +kernel
theorem d_Machine_tryAt_109 : decode c_Machine_tryAt 109 = .ok (.if_icmp .ne 7, 3) := by decide +kernel
theorem d_Machine_tryAt_112 : decode c_Machine_tryAt 112 = .ok (.iconst 0, 1) := by decide +kernel
theorem d_Machine_tryAt_113 : decode c_Machine_tryAt 113 = .ok (.goto 4, 3) := by decide +kernel
theorem d_Machine_tryAt_116 : decode c_Machine_tryAt 116 = .ok (.iconst 2, 1) := by decide +kernel
theorem d_Machine_tryAt_117 : decode c_Machine_tryAt 117 = .ok (.ireturn, 1) := by decide +kernel
def Machine_nextChoice_b82 (N : Nat) (σ : g_S) : Option (Int32 × g_S) := (Rows_read N 20 (σ.1 22) σ).bind fun q91 => (Rows_read N 19 (q91.2.1 22) (gF q91.2 24 q91.1)).bind fun q105 => some (q105.1, q105.2)
theorem Machine_nextChoice_p82 (ao aa : Nat → Nat) {X : g_X} (hC : gC X c_Machine_nextChoice R_Machine 1 22 3 (some .int)) (N : Nat) (σ : g_S) (r : Int32) (σe : g_S) (hf : Machine_nextChoice_b82 N σ = some (r, σe)) : gw X (.inl (some (.int r))) (LC ao aa X.2.2.1 σe) (LC ao aa X.2.2.1 σ) [(0, .ref (ao 3))] 82 [] := by
  unfold Machine_nextChoice_b82 at hf
  refine gw_aload_n hC 0 d_Machine_nextChoice_82 rfl rfl ?_
  refine gw_aload_n hC 0 d_Machine_nextChoice_83 rfl rfl ?_
  refine Cr_Machine_choiceAt hC kf_Machine_23 d_Machine_nextChoice_84 ?_
  refine gw_aload_n hC 0 d_Machine_nextChoice_87 rfl rfl ?_
  refine Cg22 hC kf_Machine_70 d_Machine_nextChoice_88 (σ.1 22) rfl ?_
  obtain ⟨q91, hq91, hf⟩ := g_bind hf
  refine gw_callS hC [.ref (aa 20), .int (σ.1 22)] [.ref (ao 3)] (Rows_read_m _ _ _ ao aa N _ _ _ _ _ hq91) kc_Machine_43 ⟨by decide, by decide⟩ (Nat.le_of_ble_eq_true rfl) [.int (σ.1 22), .ref (aa 20), .ref (ao 3)] [.int q91.1, .ref (ao 3)] rfl rfl d_Machine_nextChoice_91 ?_
  refine Cp24 hC kf_Machine_67 d_Machine_nextChoice_94 ?_
  refine gw_aload_n hC 0 d_Machine_nextChoice_97 rfl rfl ?_
  refine Cr_Machine_choiceNode hC kf_Machine_20 d_Machine_nextChoice_98 ?_
  refine gw_aload_n hC 0 d_Machine_nextChoice_101 rfl rfl ?_
  refine Cg22 hC kf_Machine_70 d_Machine_nextChoice_102 (q91.2.1 22) rfl ?_
  obtain ⟨q105, hq105, hf⟩ := g_bind hf
  refine gw_callS hC [.ref (aa 19), .int (q91.2.1 22)] [] (Rows_read_m _ _ _ ao aa N _ _ _ _ _ hq105) kc_Machine_43 ⟨by decide, by decide⟩ (Nat.le_of_ble_eq_true rfl) [.int (q91.2.1 22), .ref (aa 19)] [.int q105.1] rfl rfl d_Machine_nextChoice_105 ?_
  cases hf
  exact gw_iret hC d_Machine_nextChoice_108
def Machine_nextChoice_b40 (N : Nat) (k32 : Int32 → g_S → Option (Int32 × g_S)) (x1 : Int32) (σ : g_S) : Option (Int32 × g_S) := (Rows_read N 22 ((σ.1 23) - 1) (gF σ 23 ((σ.1 23) - 1))).bind fun q58 => (Rows_write N 18 ((q58.1).toUInt32 >>> ((16 : Int32).toUInt32 &&& Int32.toUInt32 31)).toInt32 ((q58.1 &&& 65535) - 1) q58.2).bind fun q76 => k32 x1 q76.2
theorem Machine_nextChoice_p40 (ao aa : Nat → Nat) {X : g_X} (hC : gC X c_Machine_nextChoice R_Machine 1 22 3 (some .int)) (N : Nat) (k32 : Int32 → g_S → Option (Int32 × g_S)) (hk32 : ∀ (x1 : Int32) (σ : g_S) (r : Int32) (σe : g_S), k32 x1 σ = some (r, σe) → gw X (.inl (some (.int r))) (LC ao aa X.2.2.1 σe) (LC ao aa X.2.2.1 σ) [(0, .ref (ao 3)), (1, .int x1)] 32 []) (x1 : Int32) (σ : g_S) (r : Int32) (σe : g_S) (hf : Machine_nextChoice_b40 N k32 x1 σ = some (r, σe)) : gw X (.inl (some (.int r))) (LC ao aa X.2.2.1 σe) (LC ao aa X.2.2.1 σ) [(0, .ref (ao 3)), (1, .int x1)] 40 [] := by
  unfold Machine_nextChoice_b40 at hf
  refine gw_aload_n hC 0 d_Machine_nextChoice_40 rfl rfl ?_
  refine gw_dup hC d_Machine_nextChoice_41 rfl ?_
  refine Cg23 hC kf_Machine_73 d_Machine_nextChoice_42 (σ.1 23) rfl ?_
  refine gw_iconst hC 1 d_Machine_nextChoice_45 (by decide) ?_
  refine gw_isub hC d_Machine_nextChoice_46 ?_
  refine Cp23 hC kf_Machine_73 d_Machine_nextChoice_47 ?_
  refine gw_aload_n hC 0 d_Machine_nextChoice_50 rfl rfl ?_
  refine Cr_Machine_trail hC kf_Machine_30 d_Machine_nextChoice_51 ?_
  refine gw_aload_n hC 0 d_Machine_nextChoice_54 rfl rfl ?_
  refine Cg23 hC kf_Machine_73 d_Machine_nextChoice_55 ((σ.1 23) - 1) rfl ?_
  obtain ⟨q58, hq58, hf⟩ := g_bind hf
  refine gw_callS hC [.ref (aa 22), .int ((σ.1 23) - 1)] [] (Rows_read_m _ _ _ ao aa N _ _ _ _ _ hq58) kc_Machine_43 ⟨by decide, by decide⟩ (Nat.le_of_ble_eq_true rfl) [.int ((σ.1 23) - 1), .ref (aa 22)] [.int q58.1] rfl rfl d_Machine_nextChoice_58 ?_
  refine gw_istore_n hC [(2, .int q58.1), (0, .ref (ao 3)), (1, .int x1)] d_Machine_nextChoice_61 rfl (by decide) rfl ?_
  refine gw_aload_n hC 1 d_Machine_nextChoice_62 rfl rfl ?_
  refine Cr_Machine_cells hC kf_Machine_17 d_Machine_nextChoice_63 ?_
  refine gw_iload_n hC 0 d_Machine_nextChoice_66 rfl rfl ?_
  refine gw_bipush hC 16 d_Machine_nextChoice_67 (by decide) ?_
  refine gw_iushr hC d_Machine_nextChoice_69 ?_
  refine gw_iload_n hC 0 d_Machine_nextChoice_70 rfl rfl ?_
  refine gw_ldc hC 65535 kn_Machine_84 d_Machine_nextChoice_71 ?_
  refine gw_iand hC d_Machine_nextChoice_73 ?_
  refine gw_iconst hC 1 d_Machine_nextChoice_74 (by decide) ?_
  refine gw_isub hC d_Machine_nextChoice_75 ?_
  obtain ⟨q76, hq76, hf⟩ := g_bind hf
  refine gw_callS hC [.ref (aa 18), .int ((q58.1).toUInt32 >>> ((16 : Int32).toUInt32 &&& Int32.toUInt32 31)).toInt32, .int ((q58.1 &&& 65535) - 1)] [] (Rows_write_m _ _ _ ao aa N _ _ _ _ _ _ hq76) kc_Machine_49 ⟨by decide, by decide⟩ (Nat.le_of_ble_eq_true rfl) [.int ((q58.1 &&& 65535) - 1), .int ((q58.1).toUInt32 >>> ((16 : Int32).toUInt32 &&& Int32.toUInt32 31)).toInt32, .ref (aa 18)] [] rfl rfl d_Machine_nextChoice_76 ?_
  refine gw_goto hC 32 d_Machine_nextChoice_79 (by decide) ?_
  refine gw_lv [1, 2] rfl ?_
  exact hk32 _ _ _ _ hf
def Machine_nextChoice_b32 (N : Nat) (k32 : Int32 → g_S → Option (Int32 × g_S)) (x1 : Int32) (σ : g_S) : Option (Int32 × g_S) := if (σ.1 23) ≤ x1 then Machine_nextChoice_b82 N σ else Machine_nextChoice_b40 N k32 x1 σ
theorem Machine_nextChoice_p32 (ao aa : Nat → Nat) {X : g_X} (hC : gC X c_Machine_nextChoice R_Machine 1 22 3 (some .int)) (N : Nat) (k32 : Int32 → g_S → Option (Int32 × g_S)) (hk32 : ∀ (x1 : Int32) (σ : g_S) (r : Int32) (σe : g_S), k32 x1 σ = some (r, σe) → gw X (.inl (some (.int r))) (LC ao aa X.2.2.1 σe) (LC ao aa X.2.2.1 σ) [(0, .ref (ao 3)), (1, .int x1)] 32 []) (x1 : Int32) (σ : g_S) (r : Int32) (σe : g_S) (hf : Machine_nextChoice_b32 N k32 x1 σ = some (r, σe)) : gw X (.inl (some (.int r))) (LC ao aa X.2.2.1 σe) (LC ao aa X.2.2.1 σ) [(0, .ref (ao 3)), (1, .int x1)] 32 [] := by
  unfold Machine_nextChoice_b32 at hf
  refine gw_aload_n hC 0 d_Machine_nextChoice_32 rfl rfl ?_
  refine Cg23 hC kf_Machine_73 d_Machine_nextChoice_33 (σ.1 23) rfl ?_
  refine gw_iload_n hC 1 d_Machine_nextChoice_36 rfl rfl ?_
  refine gw_icmp_le hC 82 d_Machine_nextChoice_37 (by decide) (fun hh => ?_) (fun hh => ?_)
  · rw [if_pos hh] at hf
    refine gw_lv [0] rfl ?_
    exact Machine_nextChoice_p82 ao aa hC N _ _ _ hf
  · rw [if_neg hh] at hf
    exact Machine_nextChoice_p40 ao aa hC N _ hk32 _ _ _ _ hf
def Machine_nextChoice_l32 (N : Nat) : Nat → Int32 → g_S → Option (Int32 × g_S)
  | 0 => fun _ _ => none
  | n + 1 => fun x1 σ => Machine_nextChoice_b32 N (Machine_nextChoice_l32 N n) x1 σ
theorem Machine_nextChoice_q32 (ao aa : Nat → Nat) {X : g_X} (hC : gC X c_Machine_nextChoice R_Machine 1 22 3 (some .int)) (N : Nat) (n : Nat) : ∀ (x1 : Int32) (σ : g_S) (r : Int32) (σe : g_S), Machine_nextChoice_l32 N n x1 σ = some (r, σe) → gw X (.inl (some (.int r))) (LC ao aa X.2.2.1 σe) (LC ao aa X.2.2.1 σ) [(0, .ref (ao 3)), (1, .int x1)] 32 [] := by
  induction n with
  | zero => intro x1 σ r σe hf; cases hf
  | succ n ih => intro x1 σ r σe hf; exact Machine_nextChoice_p32 ao aa hC N _ (fun x1 σ r2 σ2 h2 => ih x1 σ r2 σ2 h2) x1 σ r σe hf
def Machine_nextChoice_b10 (N : Nat) (σ : g_S) : Option (Int32 × g_S) := (Rows_read N 21 ((σ.1 22) - 1) (gF σ 22 ((σ.1 22) - 1))).bind fun q28 => Machine_nextChoice_l32 N N q28.1 q28.2
theorem Machine_nextChoice_p10 (ao aa : Nat → Nat) {X : g_X} (hC : gC X c_Machine_nextChoice R_Machine 1 22 3 (some .int)) (N : Nat) (σ : g_S) (r : Int32) (σe : g_S) (hf : Machine_nextChoice_b10 N σ = some (r, σe)) : gw X (.inl (some (.int r))) (LC ao aa X.2.2.1 σe) (LC ao aa X.2.2.1 σ) [(0, .ref (ao 3))] 10 [] := by
  unfold Machine_nextChoice_b10 at hf
  refine gw_aload_n hC 0 d_Machine_nextChoice_10 rfl rfl ?_
  refine gw_dup hC d_Machine_nextChoice_11 rfl ?_
  refine Cg22 hC kf_Machine_70 d_Machine_nextChoice_12 (σ.1 22) rfl ?_
  refine gw_iconst hC 1 d_Machine_nextChoice_15 (by decide) ?_
  refine gw_isub hC d_Machine_nextChoice_16 ?_
  refine Cp22 hC kf_Machine_70 d_Machine_nextChoice_17 ?_
  refine gw_aload_n hC 0 d_Machine_nextChoice_20 rfl rfl ?_
  refine Cr_Machine_choiceTrail hC kf_Machine_26 d_Machine_nextChoice_21 ?_
  refine gw_aload_n hC 0 d_Machine_nextChoice_24 rfl rfl ?_
  refine Cg22 hC kf_Machine_70 d_Machine_nextChoice_25 ((σ.1 22) - 1) rfl ?_
  obtain ⟨q28, hq28, hf⟩ := g_bind hf
  refine gw_callS hC [.ref (aa 21), .int ((σ.1 22) - 1)] [] (Rows_read_m _ _ _ ao aa N _ _ _ _ _ hq28) kc_Machine_43 ⟨by decide, by decide⟩ (Nat.le_of_ble_eq_true rfl) [.int ((σ.1 22) - 1), .ref (aa 21)] [.int q28.1] rfl rfl d_Machine_nextChoice_28 ?_
  refine gw_istore_n hC [(1, .int q28.1), (0, .ref (ao 3))] d_Machine_nextChoice_31 rfl (by decide) rfl ?_
  refine gw_lv [1, 0] rfl ?_
  exact Machine_nextChoice_q32 ao aa hC N N _ _ _ _ hf
def Machine_nextChoice_b7 (N : Nat) (σ : g_S) : Option (Int32 × g_S) := some ((-2), σ)
theorem Machine_nextChoice_p7 (ao aa : Nat → Nat) {X : g_X} (hC : gC X c_Machine_nextChoice R_Machine 1 22 3 (some .int)) (N : Nat) (σ : g_S) (r : Int32) (σe : g_S) (hf : Machine_nextChoice_b7 N σ = some (r, σe)) : gw X (.inl (some (.int r))) (LC ao aa X.2.2.1 σe) (LC ao aa X.2.2.1 σ) [(0, .ref (ao 3))] 7 [] := by
  unfold Machine_nextChoice_b7 at hf
  refine gw_bipush hC (-2) d_Machine_nextChoice_7 (by decide) ?_
  cases hf
  exact gw_iret hC d_Machine_nextChoice_9
def Machine_nextChoice_b0 (N : Nat) (σ : g_S) : Option (Int32 × g_S) := if 0 < (σ.1 22) then Machine_nextChoice_b10 N σ else Machine_nextChoice_b7 N σ
theorem Machine_nextChoice_p0 (ao aa : Nat → Nat) {X : g_X} (hC : gC X c_Machine_nextChoice R_Machine 1 22 3 (some .int)) (N : Nat) (σ : g_S) (r : Int32) (σe : g_S) (hf : Machine_nextChoice_b0 N σ = some (r, σe)) : gw X (.inl (some (.int r))) (LC ao aa X.2.2.1 σe) (LC ao aa X.2.2.1 σ) [(0, .ref (ao 3))] 0 [] := by
  unfold Machine_nextChoice_b0 at hf
  refine gw_aload_n hC 0 d_Machine_nextChoice_0 rfl rfl ?_
  refine Cg22 hC kf_Machine_70 d_Machine_nextChoice_1 (σ.1 22) rfl ?_
  refine gw_if_gt hC 10 d_Machine_nextChoice_4 (by decide) (fun hh => ?_) (fun hh => ?_)
  · rw [if_pos hh] at hf
    exact Machine_nextChoice_p10 ao aa hC N _ _ _ hf
  · rw [if_neg hh] at hf
    exact Machine_nextChoice_p7 ao aa hC N _ _ _ hf
def Machine_nextChoice (N : Nat) (σ : g_S) : Option (Int32 × g_S) := Machine_nextChoice_b0 N  σ
theorem Machine_nextChoice_m (l : Launch) (D : va_G) (cA : ClassId) (ao aa : Nat → Nat) (N : Nat) (σ : g_S) (r : Int32) (σe : g_S) (hf : Machine_nextChoice N σ = some (r, σe)) : Mt l D cA y_Machine_nextChoice c_Machine_nextChoice 3 (some .int) 1 22 [.ref (ao 3)] (LC ao aa cA σ) (some (.int r)) (LC ao aa cA σe) := by
  refine g_met (by decide +kernel) (by simp [lg_sl, Value.category]) (fun X e1 e2 e3 hC => ?_)
  subst e1 e2 e3
  refine gw_lv [0] rfl ?_
  exact Machine_nextChoice_p0 ao aa hC N _ (r) _ hf
def Machine_tryAt_b117 (N : Nat) (s0 : Int32) (σ : g_S) : Option (Int32 × g_S) := some (s0, σ)
theorem Machine_tryAt_p117 (ao aa : Nat → Nat) {X : g_X} (hC : gC X c_Machine_tryAt R_Machine 6 137 4 (some .int)) (N : Nat) (s0 : Int32) (σ : g_S) (r : Int32) (σe : g_S) (hf : Machine_tryAt_b117 N s0 σ = some (r, σe)) : gw X (.inl (some (.int r))) (LC ao aa X.2.2.1 σe) (LC ao aa X.2.2.1 σ) [(0, .ref (ao 3))] 117 [.int s0] := by
  unfold Machine_tryAt_b117 at hf
  cases hf
  exact gw_iret hC d_Machine_tryAt_117
def Machine_tryAt_b116 (N : Nat) (σ : g_S) : Option (Int32 × g_S) := Machine_tryAt_b117 N 2 σ
theorem Machine_tryAt_p116 (ao aa : Nat → Nat) {X : g_X} (hC : gC X c_Machine_tryAt R_Machine 6 137 4 (some .int)) (N : Nat) (σ : g_S) (r : Int32) (σe : g_S) (hf : Machine_tryAt_b116 N σ = some (r, σe)) : gw X (.inl (some (.int r))) (LC ao aa X.2.2.1 σe) (LC ao aa X.2.2.1 σ) [(0, .ref (ao 3))] 116 [] := by
  unfold Machine_tryAt_b116 at hf
  refine gw_iconst hC 2 d_Machine_tryAt_116 (by decide) ?_
  exact Machine_tryAt_p117 ao aa hC N _ _ _ _ hf
def Machine_tryAt_b112 (N : Nat) (σ : g_S) : Option (Int32 × g_S) := Machine_tryAt_b117 N 0 σ
theorem Machine_tryAt_p112 (ao aa : Nat → Nat) {X : g_X} (hC : gC X c_Machine_tryAt R_Machine 6 137 4 (some .int)) (N : Nat) (σ : g_S) (r : Int32) (σe : g_S) (hf : Machine_tryAt_b112 N σ = some (r, σe)) : gw X (.inl (some (.int r))) (LC ao aa X.2.2.1 σe) (LC ao aa X.2.2.1 σ) [(0, .ref (ao 3))] 112 [] := by
  unfold Machine_tryAt_b112 at hf
  refine gw_iconst hC 0 d_Machine_tryAt_112 (by decide) ?_
  refine gw_goto hC 117 d_Machine_tryAt_113 (by decide) ?_
  exact Machine_tryAt_p117 ao aa hC N _ _ _ _ hf
def Machine_tryAt_b106 (N : Nat) (x2 : Int32) (σ : g_S) : Option (Int32 × g_S) := if x2 = (-2) then Machine_tryAt_b112 N σ else Machine_tryAt_b116 N σ
theorem Machine_tryAt_p106 (ao aa : Nat → Nat) {X : g_X} (hC : gC X c_Machine_tryAt R_Machine 6 137 4 (some .int)) (N : Nat) (x2 : Int32) (σ : g_S) (r : Int32) (σe : g_S) (hf : Machine_tryAt_b106 N x2 σ = some (r, σe)) : gw X (.inl (some (.int r))) (LC ao aa X.2.2.1 σe) (LC ao aa X.2.2.1 σ) [(0, .ref (ao 3)), (2, .int x2)] 106 [] := by
  unfold Machine_tryAt_b106 at hf
  refine gw_iload_n hC 1 d_Machine_tryAt_106 rfl rfl ?_
  refine gw_bipush hC (-2) d_Machine_tryAt_107 (by decide) ?_
  refine gw_icmp_ne hC 116 d_Machine_tryAt_109 (by decide) (fun hh => ?_) (fun hh => ?_)
  · rw [if_neg hh] at hf
    refine gw_lv [0] rfl ?_
    exact Machine_tryAt_p116 ao aa hC N _ _ _ hf
  · rw [if_pos hh] at hf
    refine gw_lv [0] rfl ?_
    exact Machine_tryAt_p112 ao aa hC N _ _ _ hf
def Machine_tryAt_b82 (N : Nat) (x1 : Int32) (σ : g_S) : Option (Int32 × g_S) := (Rows_write N 18 0 x1 σ).bind fun q88 => (Rows_write N 18 21 (q88.2.1 24) q88.2).bind fun q101 => some (1, q101.2)
theorem Machine_tryAt_p82 (ao aa : Nat → Nat) {X : g_X} (hC : gC X c_Machine_tryAt R_Machine 6 137 4 (some .int)) (N : Nat) (x1 : Int32) (σ : g_S) (r : Int32) (σe : g_S) (hf : Machine_tryAt_b82 N x1 σ = some (r, σe)) : gw X (.inl (some (.int r))) (LC ao aa X.2.2.1 σe) (LC ao aa X.2.2.1 σ) [(0, .ref (ao 3)), (1, .int x1)] 82 [] := by
  unfold Machine_tryAt_b82 at hf
  refine gw_aload_n hC 0 d_Machine_tryAt_82 rfl rfl ?_
  refine Cr_Machine_cells hC kf_Machine_17 d_Machine_tryAt_83 ?_
  refine gw_iconst hC 0 d_Machine_tryAt_86 (by decide) ?_
  refine gw_iload_n hC 1 d_Machine_tryAt_87 rfl rfl ?_
  obtain ⟨q88, hq88, hf⟩ := g_bind hf
  refine gw_callS hC [.ref (aa 18), .int 0, .int x1] [] (Rows_write_m _ _ _ ao aa N _ _ _ _ _ _ hq88) kc_Machine_49 ⟨by decide, by decide⟩ (Nat.le_of_ble_eq_true rfl) [.int x1, .int 0, .ref (aa 18)] [] rfl rfl d_Machine_tryAt_88 ?_
  refine gw_aload_n hC 0 d_Machine_tryAt_91 rfl rfl ?_
  refine Cr_Machine_cells hC kf_Machine_17 d_Machine_tryAt_92 ?_
  refine gw_bipush hC 21 d_Machine_tryAt_95 (by decide) ?_
  refine gw_aload_n hC 0 d_Machine_tryAt_97 rfl rfl ?_
  refine Cg24 hC kf_Machine_67 d_Machine_tryAt_98 (q88.2.1 24) rfl ?_
  obtain ⟨q101, hq101, hf⟩ := g_bind hf
  refine gw_callS hC [.ref (aa 18), .int 21, .int (q88.2.1 24)] [] (Rows_write_m _ _ _ ao aa N _ _ _ _ _ _ hq101) kc_Machine_49 ⟨by decide, by decide⟩ (Nat.le_of_ble_eq_true rfl) [.int (q88.2.1 24), .int 21, .ref (aa 18)] [] rfl rfl d_Machine_tryAt_101 ?_
  refine gw_iconst hC 1 d_Machine_tryAt_104 (by decide) ?_
  cases hf
  exact gw_iret hC d_Machine_tryAt_105
def Machine_tryAt_b77 (N : Nat) (x1 : Int32) (x2 : Int32) (σ : g_S) : Option (Int32 × g_S) := if x2 = (-1) then Machine_tryAt_b82 N x1 σ else Machine_tryAt_b106 N x2 σ
theorem Machine_tryAt_p77 (ao aa : Nat → Nat) {X : g_X} (hC : gC X c_Machine_tryAt R_Machine 6 137 4 (some .int)) (N : Nat) (x1 : Int32) (x2 : Int32) (σ : g_S) (r : Int32) (σe : g_S) (hf : Machine_tryAt_b77 N x1 x2 σ = some (r, σe)) : gw X (.inl (some (.int r))) (LC ao aa X.2.2.1 σe) (LC ao aa X.2.2.1 σ) [(0, .ref (ao 3)), (1, .int x1), (2, .int x2)] 77 [] := by
  unfold Machine_tryAt_b77 at hf
  refine gw_iload_n hC 2 d_Machine_tryAt_77 rfl rfl ?_
  refine gw_iconst hC (-1) d_Machine_tryAt_78 (by decide) ?_
  refine gw_icmp_ne hC 106 d_Machine_tryAt_79 (by decide) (fun hh => ?_) (fun hh => ?_)
  · rw [if_neg hh] at hf
    refine gw_lv [0, 2] rfl ?_
    exact Machine_tryAt_p106 ao aa hC N _ _ _ _ hf
  · rw [if_pos hh] at hf
    refine gw_lv [0, 1] rfl ?_
    exact Machine_tryAt_p82 ao aa hC N _ _ _ _ hf
def Machine_tryAt_b71 (N : Nat) (k44 : Int32 → Int32 → Int32 → g_S → Option (Int32 × g_S)) (x1 : Int32) (x2 : Int32) (x3 : Int32) (σ : g_S) : Option (Int32 × g_S) := k44 x1 x2 (x3 + 1) σ
theorem Machine_tryAt_p71 (ao aa : Nat → Nat) {X : g_X} (hC : gC X c_Machine_tryAt R_Machine 6 137 4 (some .int)) (N : Nat) (k44 : Int32 → Int32 → Int32 → g_S → Option (Int32 × g_S)) (hk44 : ∀ (x1 : Int32) (x2 : Int32) (x3 : Int32) (σ : g_S) (r : Int32) (σe : g_S), k44 x1 x2 x3 σ = some (r, σe) → gw X (.inl (some (.int r))) (LC ao aa X.2.2.1 σe) (LC ao aa X.2.2.1 σ) [(0, .ref (ao 3)), (1, .int x1), (2, .int x2), (3, .int x3)] 44 []) (x1 : Int32) (x2 : Int32) (x3 : Int32) (σ : g_S) (r : Int32) (σe : g_S) (hf : Machine_tryAt_b71 N k44 x1 x2 x3 σ = some (r, σe)) : gw X (.inl (some (.int r))) (LC ao aa X.2.2.1 σe) (LC ao aa X.2.2.1 σ) [(0, .ref (ao 3)), (1, .int x1), (2, .int x2), (3, .int x3)] 71 [] := by
  unfold Machine_tryAt_b71 at hf
  refine gw_iinc hC (x3 + 1) 3 [(3, .int (x3 + 1)), (0, .ref (ao 3)), (1, .int x1), (2, .int x2)] d_Machine_tryAt_71 rfl rfl (by decide) rfl ?_
  refine gw_goto hC 44 d_Machine_tryAt_74 (by decide) ?_
  refine gw_lv [1, 2, 3, 0] rfl ?_
  exact hk44 _ _ _ _ _ _ hf
def Machine_tryAt_b66 (N : Nat) (k44 : Int32 → Int32 → Int32 → g_S → Option (Int32 × g_S)) (x1 : Int32) (x3 : Int32) (σ : g_S) : Option (Int32 × g_S) := (Machine_nextChoice N σ).bind fun q67 => Machine_tryAt_b71 N k44 x1 q67.1 x3 q67.2
theorem Machine_tryAt_p66 (ao aa : Nat → Nat) {X : g_X} (hC : gC X c_Machine_tryAt R_Machine 6 137 4 (some .int)) (N : Nat) (k44 : Int32 → Int32 → Int32 → g_S → Option (Int32 × g_S)) (hk44 : ∀ (x1 : Int32) (x2 : Int32) (x3 : Int32) (σ : g_S) (r : Int32) (σe : g_S), k44 x1 x2 x3 σ = some (r, σe) → gw X (.inl (some (.int r))) (LC ao aa X.2.2.1 σe) (LC ao aa X.2.2.1 σ) [(0, .ref (ao 3)), (1, .int x1), (2, .int x2), (3, .int x3)] 44 []) (x1 : Int32) (x3 : Int32) (σ : g_S) (r : Int32) (σe : g_S) (hf : Machine_tryAt_b66 N k44 x1 x3 σ = some (r, σe)) : gw X (.inl (some (.int r))) (LC ao aa X.2.2.1 σe) (LC ao aa X.2.2.1 σ) [(0, .ref (ao 3)), (1, .int x1), (3, .int x3)] 66 [] := by
  unfold Machine_tryAt_b66 at hf
  refine gw_aload_n hC 0 d_Machine_tryAt_66 rfl rfl ?_
  obtain ⟨q67, hq67, hf⟩ := g_bind hf
  refine gw_callV hC [] [] (Machine_nextChoice_m _ _ _ ao aa N _ _ _ hq67) kc_Machine_80 3 (g_lay_obj rfl) rfl rfl ⟨by decide, by decide⟩ (Nat.le_of_ble_eq_true rfl) [.ref (ao 3)] [.int q67.1] rfl rfl d_Machine_tryAt_67 ?_
  refine gw_istore_n hC [(2, .int q67.1), (0, .ref (ao 3)), (1, .int x1), (3, .int x3)] d_Machine_tryAt_70 rfl (by decide) rfl ?_
  refine gw_lv [1, 2, 0, 3] rfl ?_
  exact Machine_tryAt_p71 ao aa hC N _ hk44 _ _ _ _ _ _ hf
def Machine_tryAt_b54 (N : Nat) (k44 : Int32 → Int32 → Int32 → g_S → Option (Int32 × g_S)) (x1 : Int32) (x2 : Int32) (x3 : Int32) (σ : g_S) : Option (Int32 × g_S) := (Machine_perform N x2 σ).bind fun q56 => if q56.1 = (-2) then Machine_tryAt_b66 N k44 x1 x3 q56.2 else Machine_tryAt_b71 N k44 x1 q56.1 x3 q56.2
theorem Machine_tryAt_p54 (ao aa : Nat → Nat) {X : g_X} (hC : gC X c_Machine_tryAt R_Machine 6 137 4 (some .int)) (N : Nat) (k44 : Int32 → Int32 → Int32 → g_S → Option (Int32 × g_S)) (hk44 : ∀ (x1 : Int32) (x2 : Int32) (x3 : Int32) (σ : g_S) (r : Int32) (σe : g_S), k44 x1 x2 x3 σ = some (r, σe) → gw X (.inl (some (.int r))) (LC ao aa X.2.2.1 σe) (LC ao aa X.2.2.1 σ) [(0, .ref (ao 3)), (1, .int x1), (2, .int x2), (3, .int x3)] 44 []) (x1 : Int32) (x2 : Int32) (x3 : Int32) (σ : g_S) (r : Int32) (σe : g_S) (hf : Machine_tryAt_b54 N k44 x1 x2 x3 σ = some (r, σe)) : gw X (.inl (some (.int r))) (LC ao aa X.2.2.1 σe) (LC ao aa X.2.2.1 σ) [(0, .ref (ao 3)), (1, .int x1), (2, .int x2), (3, .int x3)] 54 [] := by
  unfold Machine_tryAt_b54 at hf
  refine gw_aload_n hC 0 d_Machine_tryAt_54 rfl rfl ?_
  refine gw_iload_n hC 2 d_Machine_tryAt_55 rfl rfl ?_
  obtain ⟨q56, hq56, hf⟩ := g_bind hf
  refine gw_callV hC [.int x2] [] (Machine_perform_m _ _ _ ao aa N _ _ _ _ hq56) kc_Machine_77 3 (g_lay_obj rfl) rfl rfl ⟨by decide, by decide⟩ (Nat.le_of_ble_eq_true rfl) [.int x2, .ref (ao 3)] [.int q56.1] rfl rfl d_Machine_tryAt_56 ?_
  refine gw_istore_n hC [(2, .int q56.1), (0, .ref (ao 3)), (1, .int x1), (3, .int x3)] d_Machine_tryAt_59 rfl (by decide) rfl ?_
  refine gw_iload_n hC 0 d_Machine_tryAt_60 rfl rfl ?_
  refine gw_bipush hC (-2) d_Machine_tryAt_61 (by decide) ?_
  refine gw_icmp_ne hC 71 d_Machine_tryAt_63 (by decide) (fun hh => ?_) (fun hh => ?_)
  · rw [if_neg hh] at hf
    refine gw_lv [1, 2, 0, 3] rfl ?_
    exact Machine_tryAt_p71 ao aa hC N _ hk44 _ _ _ _ _ _ hf
  · rw [if_pos hh] at hf
    refine gw_lv [1, 2, 3] rfl ?_
    exact Machine_tryAt_p66 ao aa hC N _ hk44 _ _ _ _ _ hf
def Machine_tryAt_b50 (N : Nat) (k44 : Int32 → Int32 → Int32 → g_S → Option (Int32 × g_S)) (x1 : Int32) (x2 : Int32) (x3 : Int32) (σ : g_S) : Option (Int32 × g_S) := if x2 < 0 then Machine_tryAt_b77 N x1 x2 σ else Machine_tryAt_b54 N k44 x1 x2 x3 σ
theorem Machine_tryAt_p50 (ao aa : Nat → Nat) {X : g_X} (hC : gC X c_Machine_tryAt R_Machine 6 137 4 (some .int)) (N : Nat) (k44 : Int32 → Int32 → Int32 → g_S → Option (Int32 × g_S)) (hk44 : ∀ (x1 : Int32) (x2 : Int32) (x3 : Int32) (σ : g_S) (r : Int32) (σe : g_S), k44 x1 x2 x3 σ = some (r, σe) → gw X (.inl (some (.int r))) (LC ao aa X.2.2.1 σe) (LC ao aa X.2.2.1 σ) [(0, .ref (ao 3)), (1, .int x1), (2, .int x2), (3, .int x3)] 44 []) (x1 : Int32) (x2 : Int32) (x3 : Int32) (σ : g_S) (r : Int32) (σe : g_S) (hf : Machine_tryAt_b50 N k44 x1 x2 x3 σ = some (r, σe)) : gw X (.inl (some (.int r))) (LC ao aa X.2.2.1 σe) (LC ao aa X.2.2.1 σ) [(0, .ref (ao 3)), (1, .int x1), (2, .int x2), (3, .int x3)] 50 [] := by
  unfold Machine_tryAt_b50 at hf
  refine gw_iload_n hC 2 d_Machine_tryAt_50 rfl rfl ?_
  refine gw_if_lt hC 77 d_Machine_tryAt_51 (by decide) (fun hh => ?_) (fun hh => ?_)
  · rw [if_pos hh] at hf
    refine gw_lv [0, 1, 2] rfl ?_
    exact Machine_tryAt_p77 ao aa hC N _ _ _ _ _ hf
  · rw [if_neg hh] at hf
    exact Machine_tryAt_p54 ao aa hC N _ hk44 _ _ _ _ _ _ hf
def Machine_tryAt_b44 (N : Nat) (k44 : Int32 → Int32 → Int32 → g_S → Option (Int32 × g_S)) (x1 : Int32) (x2 : Int32) (x3 : Int32) (σ : g_S) : Option (Int32 × g_S) := if 4000000 ≤ x3 then Machine_tryAt_b77 N x1 x2 σ else Machine_tryAt_b50 N k44 x1 x2 x3 σ
theorem Machine_tryAt_p44 (ao aa : Nat → Nat) {X : g_X} (hC : gC X c_Machine_tryAt R_Machine 6 137 4 (some .int)) (N : Nat) (k44 : Int32 → Int32 → Int32 → g_S → Option (Int32 × g_S)) (hk44 : ∀ (x1 : Int32) (x2 : Int32) (x3 : Int32) (σ : g_S) (r : Int32) (σe : g_S), k44 x1 x2 x3 σ = some (r, σe) → gw X (.inl (some (.int r))) (LC ao aa X.2.2.1 σe) (LC ao aa X.2.2.1 σ) [(0, .ref (ao 3)), (1, .int x1), (2, .int x2), (3, .int x3)] 44 []) (x1 : Int32) (x2 : Int32) (x3 : Int32) (σ : g_S) (r : Int32) (σe : g_S) (hf : Machine_tryAt_b44 N k44 x1 x2 x3 σ = some (r, σe)) : gw X (.inl (some (.int r))) (LC ao aa X.2.2.1 σe) (LC ao aa X.2.2.1 σ) [(0, .ref (ao 3)), (1, .int x1), (2, .int x2), (3, .int x3)] 44 [] := by
  unfold Machine_tryAt_b44 at hf
  refine gw_iload_n hC 3 d_Machine_tryAt_44 rfl rfl ?_
  refine gw_ldc hC 4000000 kn_Machine_76 d_Machine_tryAt_45 ?_
  refine gw_icmp_ge hC 77 d_Machine_tryAt_47 (by decide) (fun hh => ?_) (fun hh => ?_)
  · rw [if_pos hh] at hf
    refine gw_lv [0, 1, 2] rfl ?_
    exact Machine_tryAt_p77 ao aa hC N _ _ _ _ _ hf
  · rw [if_neg hh] at hf
    exact Machine_tryAt_p50 ao aa hC N _ hk44 _ _ _ _ _ _ hf
def Machine_tryAt_l44 (N : Nat) : Nat → Int32 → Int32 → Int32 → g_S → Option (Int32 × g_S)
  | 0 => fun _ _ _ _ => none
  | n + 1 => fun x1 x2 x3 σ => Machine_tryAt_b44 N (Machine_tryAt_l44 N n) x1 x2 x3 σ
theorem Machine_tryAt_q44 (ao aa : Nat → Nat) {X : g_X} (hC : gC X c_Machine_tryAt R_Machine 6 137 4 (some .int)) (N : Nat) (n : Nat) : ∀ (x1 : Int32) (x2 : Int32) (x3 : Int32) (σ : g_S) (r : Int32) (σe : g_S), Machine_tryAt_l44 N n x1 x2 x3 σ = some (r, σe) → gw X (.inl (some (.int r))) (LC ao aa X.2.2.1 σe) (LC ao aa X.2.2.1 σ) [(0, .ref (ao 3)), (1, .int x1), (2, .int x2), (3, .int x3)] 44 [] := by
  induction n with
  | zero => intro x1 x2 x3 σ r σe hf; cases hf
  | succ n ih => intro x1 x2 x3 σ r σe hf; exact Machine_tryAt_p44 ao aa hC N _ (fun x1 x2 x3 σ r2 σ2 h2 => ih x1 x2 x3 σ r2 σ2 h2) x1 x2 x3 σ r σe hf
def Machine_tryAt_b40 (N : Nat) (x1 : Int32) (σ : g_S) : Option (Int32 × g_S) := Machine_tryAt_l44 N N x1 1 0 σ
theorem Machine_tryAt_p40 (ao aa : Nat → Nat) {X : g_X} (hC : gC X c_Machine_tryAt R_Machine 6 137 4 (some .int)) (N : Nat) (x1 : Int32) (σ : g_S) (r : Int32) (σe : g_S) (hf : Machine_tryAt_b40 N x1 σ = some (r, σe)) : gw X (.inl (some (.int r))) (LC ao aa X.2.2.1 σe) (LC ao aa X.2.2.1 σ) [(0, .ref (ao 3)), (1, .int x1)] 40 [] := by
  unfold Machine_tryAt_b40 at hf
  refine gw_iconst hC 1 d_Machine_tryAt_40 (by decide) ?_
  refine gw_istore_n hC [(2, .int 1), (0, .ref (ao 3)), (1, .int x1)] d_Machine_tryAt_41 rfl (by decide) rfl ?_
  refine gw_iconst hC 0 d_Machine_tryAt_42 (by decide) ?_
  refine gw_istore_n hC [(3, .int 0), (2, .int 1), (0, .ref (ao 3)), (1, .int x1)] d_Machine_tryAt_43 rfl (by decide) rfl ?_
  refine gw_lv [2, 3, 1, 0] rfl ?_
  exact Machine_tryAt_q44 ao aa hC N N _ _ _ _ _ _ hf
def Machine_tryAt_b23 (N : Nat) (k17 : Int32 → Int32 → g_S → Option (Int32 × g_S)) (x1 : Int32) (x2 : Int32) (σ : g_S) : Option (Int32 × g_S) := (Rows_write N 18 (0 + x2) (-1) σ).bind fun q31 => k17 x1 (x2 + 1) q31.2
theorem Machine_tryAt_p23 (ao aa : Nat → Nat) {X : g_X} (hC : gC X c_Machine_tryAt R_Machine 6 137 4 (some .int)) (N : Nat) (k17 : Int32 → Int32 → g_S → Option (Int32 × g_S)) (hk17 : ∀ (x1 : Int32) (x2 : Int32) (σ : g_S) (r : Int32) (σe : g_S), k17 x1 x2 σ = some (r, σe) → gw X (.inl (some (.int r))) (LC ao aa X.2.2.1 σe) (LC ao aa X.2.2.1 σ) [(0, .ref (ao 3)), (1, .int x1), (2, .int x2)] 17 []) (x1 : Int32) (x2 : Int32) (σ : g_S) (r : Int32) (σe : g_S) (hf : Machine_tryAt_b23 N k17 x1 x2 σ = some (r, σe)) : gw X (.inl (some (.int r))) (LC ao aa X.2.2.1 σe) (LC ao aa X.2.2.1 σ) [(0, .ref (ao 3)), (1, .int x1), (2, .int x2)] 23 [] := by
  unfold Machine_tryAt_b23 at hf
  refine gw_aload_n hC 0 d_Machine_tryAt_23 rfl rfl ?_
  refine Cr_Machine_cells hC kf_Machine_17 d_Machine_tryAt_24 ?_
  refine gw_iconst hC 0 d_Machine_tryAt_27 (by decide) ?_
  refine gw_iload_n hC 2 d_Machine_tryAt_28 rfl rfl ?_
  refine gw_iadd hC d_Machine_tryAt_29 ?_
  refine gw_iconst hC (-1) d_Machine_tryAt_30 (by decide) ?_
  obtain ⟨q31, hq31, hf⟩ := g_bind hf
  refine gw_callS hC [.ref (aa 18), .int (0 + x2), .int (-1)] [] (Rows_write_m _ _ _ ao aa N _ _ _ _ _ _ hq31) kc_Machine_49 ⟨by decide, by decide⟩ (Nat.le_of_ble_eq_true rfl) [.int (-1), .int (0 + x2), .ref (aa 18)] [] rfl rfl d_Machine_tryAt_31 ?_
  refine gw_iinc hC (x2 + 1) 2 [(2, .int (x2 + 1)), (0, .ref (ao 3)), (1, .int x1)] d_Machine_tryAt_34 rfl rfl (by decide) rfl ?_
  refine gw_goto hC 17 d_Machine_tryAt_37 (by decide) ?_
  refine gw_lv [1, 2, 0] rfl ?_
  exact hk17 _ _ _ _ _ hf
def Machine_tryAt_b17 (N : Nat) (k17 : Int32 → Int32 → g_S → Option (Int32 × g_S)) (x1 : Int32) (x2 : Int32) (σ : g_S) : Option (Int32 × g_S) := if 20 < x2 then Machine_tryAt_b40 N x1 σ else Machine_tryAt_b23 N k17 x1 x2 σ
theorem Machine_tryAt_p17 (ao aa : Nat → Nat) {X : g_X} (hC : gC X c_Machine_tryAt R_Machine 6 137 4 (some .int)) (N : Nat) (k17 : Int32 → Int32 → g_S → Option (Int32 × g_S)) (hk17 : ∀ (x1 : Int32) (x2 : Int32) (σ : g_S) (r : Int32) (σe : g_S), k17 x1 x2 σ = some (r, σe) → gw X (.inl (some (.int r))) (LC ao aa X.2.2.1 σe) (LC ao aa X.2.2.1 σ) [(0, .ref (ao 3)), (1, .int x1), (2, .int x2)] 17 []) (x1 : Int32) (x2 : Int32) (σ : g_S) (r : Int32) (σe : g_S) (hf : Machine_tryAt_b17 N k17 x1 x2 σ = some (r, σe)) : gw X (.inl (some (.int r))) (LC ao aa X.2.2.1 σe) (LC ao aa X.2.2.1 σ) [(0, .ref (ao 3)), (1, .int x1), (2, .int x2)] 17 [] := by
  unfold Machine_tryAt_b17 at hf
  refine gw_iload_n hC 2 d_Machine_tryAt_17 rfl rfl ?_
  refine gw_bipush hC 20 d_Machine_tryAt_18 (by decide) ?_
  refine gw_icmp_gt hC 40 d_Machine_tryAt_20 (by decide) (fun hh => ?_) (fun hh => ?_)
  · rw [if_pos hh] at hf
    refine gw_lv [0, 1] rfl ?_
    exact Machine_tryAt_p40 ao aa hC N _ _ _ _ hf
  · rw [if_neg hh] at hf
    exact Machine_tryAt_p23 ao aa hC N _ hk17 _ _ _ _ _ hf
def Machine_tryAt_l17 (N : Nat) : Nat → Int32 → Int32 → g_S → Option (Int32 × g_S)
  | 0 => fun _ _ _ => none
  | n + 1 => fun x1 x2 σ => Machine_tryAt_b17 N (Machine_tryAt_l17 N n) x1 x2 σ
theorem Machine_tryAt_q17 (ao aa : Nat → Nat) {X : g_X} (hC : gC X c_Machine_tryAt R_Machine 6 137 4 (some .int)) (N : Nat) (n : Nat) : ∀ (x1 : Int32) (x2 : Int32) (σ : g_S) (r : Int32) (σe : g_S), Machine_tryAt_l17 N n x1 x2 σ = some (r, σe) → gw X (.inl (some (.int r))) (LC ao aa X.2.2.1 σe) (LC ao aa X.2.2.1 σ) [(0, .ref (ao 3)), (1, .int x1), (2, .int x2)] 17 [] := by
  induction n with
  | zero => intro x1 x2 σ r σe hf; cases hf
  | succ n ih => intro x1 x2 σ r σe hf; exact Machine_tryAt_p17 ao aa hC N _ (fun x1 x2 σ r2 σ2 h2 => ih x1 x2 σ r2 σ2 h2) x1 x2 σ r σe hf
def Machine_tryAt_b0 (N : Nat) (x1 : Int32) (σ : g_S) : Option (Int32 × g_S) := Machine_tryAt_l17 N N x1 0 (gF (gF (gF σ 24 x1) 22 0) 23 0)
theorem Machine_tryAt_p0 (ao aa : Nat → Nat) {X : g_X} (hC : gC X c_Machine_tryAt R_Machine 6 137 4 (some .int)) (N : Nat) (x1 : Int32) (σ : g_S) (r : Int32) (σe : g_S) (hf : Machine_tryAt_b0 N x1 σ = some (r, σe)) : gw X (.inl (some (.int r))) (LC ao aa X.2.2.1 σe) (LC ao aa X.2.2.1 σ) [(0, .ref (ao 3)), (1, .int x1)] 0 [] := by
  unfold Machine_tryAt_b0 at hf
  refine gw_aload_n hC 0 d_Machine_tryAt_0 rfl rfl ?_
  refine gw_iload_n hC 1 d_Machine_tryAt_1 rfl rfl ?_
  refine Cp24 hC kf_Machine_67 d_Machine_tryAt_2 ?_
  refine gw_aload_n hC 0 d_Machine_tryAt_5 rfl rfl ?_
  refine gw_iconst hC 0 d_Machine_tryAt_6 (by decide) ?_
  refine Cp22 hC kf_Machine_70 d_Machine_tryAt_7 ?_
  refine gw_aload_n hC 0 d_Machine_tryAt_10 rfl rfl ?_
  refine gw_iconst hC 0 d_Machine_tryAt_11 (by decide) ?_
  refine Cp23 hC kf_Machine_73 d_Machine_tryAt_12 ?_
  refine gw_iconst hC 0 d_Machine_tryAt_15 (by decide) ?_
  refine gw_istore_n hC [(2, .int 0), (0, .ref (ao 3)), (1, .int x1)] d_Machine_tryAt_16 rfl (by decide) rfl ?_
  refine gw_lv [1, 2, 0] rfl ?_
  exact Machine_tryAt_q17 ao aa hC N N _ _ _ _ _ hf
def Machine_tryAt (N : Nat) (x1 : Int32) (σ : g_S) : Option (Int32 × g_S) := Machine_tryAt_b0 N x1 σ
theorem Machine_tryAt_m (l : Launch) (D : va_G) (cA : ClassId) (ao aa : Nat → Nat) (N : Nat) (x1 : Int32) (σ : g_S) (r : Int32) (σe : g_S) (hf : Machine_tryAt N x1 σ = some (r, σe)) : Mt l D cA y_Machine_tryAt c_Machine_tryAt 4 (some .int) 6 137 [.ref (ao 3), .int x1] (LC ao aa cA σ) (some (.int r)) (LC ao aa cA σe) := by
  refine g_met (by decide +kernel) (by simp [lg_sl, Value.category]) (fun X e1 e2 e3 hC => ?_)
  subst e1 e2 e3
  refine gw_lv [0, 1] rfl ?_
  exact Machine_tryAt_p0 ao aa hC N _ _ (r) _ hf
