theorem kc_Mod_314 : g_okV R_Mod 314 y_Mod_tryAt c_Mod_tryAt 3 (some .int) 1 := ⟨g_mem (List.mem_append_right _ (List.mem_append_right _ (List.mem_append_right _ (List.mem_append_right _ (List.mem_append_left _ (List.mem_of_getElem? (i := 227) rfl)))))) rfl, g_mem (List.mem_append_right _ (List.mem_append_left _ (List.mem_of_getElem? (i := 5) (by decide +kernel)))) rfl, g_mem (List.mem_append_right _ (List.mem_append_right _ (List.mem_append_right _ (List.mem_append_right _ (List.mem_append_left _ (List.mem_of_getElem? (i := 224) (by decide +kernel))))))) rfl, g_mem (List.mem_append_right _ (List.mem_append_right _ (List.mem_append_right _ (List.mem_append_right _ (List.mem_append_left _ (List.mem_of_getElem? (i := 226) (by decide +kernel))))))) rfl, g_mem (List.mem_append_left _ (List.mem_of_getElem? (i := 65) (by decide +kernel))) rfl, by decide +kernel, by decide +kernel, by decide +kernel⟩
theorem kc_Mod_311 : g_okV R_Mod 311 y_Mod_begins c_Mod_begins 3 (some .boolean) 2 := ⟨g_mem (List.mem_append_right _ (List.mem_append_right _ (List.mem_append_right _ (List.mem_append_right _ (List.mem_append_left _ (List.mem_of_getElem? (i := 223) rfl)))))) rfl, g_mem (List.mem_append_right _ (List.mem_append_left _ (List.mem_of_getElem? (i := 5) (by decide +kernel)))) rfl, g_mem (List.mem_append_right _ (List.mem_append_right _ (List.mem_append_right _ (List.mem_append_right _ (List.mem_append_left _ (List.mem_of_getElem? (i := 220) (by decide +kernel))))))) rfl, g_mem (List.mem_append_right _ (List.mem_append_right _ (List.mem_append_right _ (List.mem_append_right _ (List.mem_append_left _ (List.mem_of_getElem? (i := 222) (by decide +kernel))))))) rfl, g_mem (List.mem_append_left _ (List.mem_of_getElem? (i := 64) (by decide +kernel))) rfl, by decide +kernel, by decide +kernel, by decide +kernel⟩
theorem d_Mod_match_0 : decode c_Mod_match 0 = .ok (.aload_n 0, 1) := by decide +kernel
theorem d_Mod_match_1 : decode c_Mod_match 1 = .ok (.iload_n 1, 1) := by decide +kernel
theorem d_Mod_match_2 : decode c_Mod_match 2 = .ok (.iload_n 2, 1) := by decide +kernel
theorem d_Mod_match_3 : decode c_Mod_match 3 = .ok (.invokevirtual 311, 3) := by decide +kernel
theorem d_Mod_match_6 : decode c_Mod_match 6 = .ok (.ifCond .ne 5, 3) := by decide +kernel
theorem d_Mod_match_9 : decode c_Mod_match 9 = .ok (.iconst 0, 1) := by decide +kernel
theorem d_Mod_match_10 : decode c_Mod_match 10 = .ok (.ireturn, 1) := by decide +kernel
theorem d_Mod_match_11 : decode c_Mod_match 11 = .ok (.aload_n 0, 1) := by decide +kernel
theorem d_Mod_match_12 : decode c_Mod_match 12 = .ok (.iload_n 1, 1) := by decide +kernel
theorem d_Mod_match_13 : decode c_Mod_match 13 = .ok (.invokevirtual 314, 3) := by decide +kernel
theorem d_Mod_match_16 : decode c_Mod_match 16 = .ok (.istore_n 3, 1) := by decide +kernel
theorem d_Mod_match_17 : decode c_Mod_match 17 = .ok (.aload_n 0, 1) := by decide +kernel
theorem d_Mod_match_18 : decode c_Mod_match 18 = .ok (.iload_n 3, 1) := by decide +kernel
theorem d_Mod_match_19 : decode c_Mod_match 19 = .ok (.iconst 1, 1) := by decide +kernel
theorem d_Mod_match_20 : decode c_Mod_match 20 = .ok (.if_icmp .ne 7, 3) := by decide +kernel
theorem d_Mod_match_23 : decode c_Mod_match 23 = .ok (.iconst 1, 1) := by decide +kernel
theorem d_Mod_match_24 : decode c_Mod_match 24 = .ok (.goto 4, 3) := by decide +kernel
theorem d_Mod_match_27 : decode c_Mod_match 27 = .ok (.iconst 0, 1) := by decide +kernel
theorem d_Mod_match_28 : decode c_Mod_match 28 = .ok (.putfield 222, 3) := by decide +kernel
theorem d_Mod_match_31 : decode c_Mod_match 31 = .ok (.iload_n 3, 1) := by decide +kernel
theorem d_Mod_match_32 : decode c_Mod_match 32 = .ok (.ireturn, 1) := by decide +kernel
theorem d_Mod_find_0 : decode c_Mod_find 0 = .ok (.aload_n 0, 1) := by decide +kernel
theorem d_Mod_find_1 : decode c_Mod_find 1 = .ok (.iload_n 1, 1) := by decide +kernel
theorem d_Mod_find_2 : decode c_Mod_find 2 = .ok (.iload_n 2, 1) := by decide +kernel
theorem d_Mod_find_3 : decode c_Mod_find 3 = .ok (.invokevirtual 311, 3) := by decide +kernel
theorem d_Mod_find_6 : decode c_Mod_find 6 = .ok (.ifCond .ne 5, 3) := by decide +kernel
theorem d_Mod_find_9 : decode c_Mod_find 9 = .ok (.iconst 0, 1) := by decide +kernel
theorem d_Mod_find_10 : decode c_Mod_find 10 = .ok (.ireturn, 1) := by decide +kernel
theorem d_Mod_find_11 : decode c_Mod_find 11 = .ok (.iconst 0, 1) := by decide +kernel
theorem d_Mod_find_12 : decode c_Mod_find 12 = .ok (.istore_n 3, 1) := by decide +kernel
theorem d_Mod_find_13 : decode c_Mod_find 13 = .ok (.iload_n 1, 1) := by decide +kernel
theorem d_Mod_find_14 : decode c_Mod_find 14 = .ok (.istore 4, 2) := by decide +kernel
theorem d_Mod_find_16 : decode c_Mod_find 16 = .ok (.iload 4, 2) := by decide +kernel
theorem d_Mod_find_18 : decode c_Mod_find 18 = .ok (.aload_n 0, 1) := by decide +kernel
theorem d_Mod_find_19 : decode c_Mod_find 19 = .ok (.getfield 238, 3) := by decide +kernel
theorem d_Mod_find_22 : decode c_Mod_find 22 = .ok (.if_icmp .gt 20, 3) := by decide +kernel
theorem d_Mod_find_25 : decode c_Mod_find 25 = .ok (.iload_n 3, 1) := by decide +kernel
theorem d_Mod_find_26 : decode c_Mod_find 26 = .ok (.ifCond .ne 16, 3) := by decide +kernel
theorem d_Mod_find_29 : decode c_Mod_find 29 = .ok (.aload_n 0, 1) := by decide +kernel
theorem d_Mod_find_30 : decode c_Mod_find 30 = .ok (.iload 4, 2) := by decide +kernel
theorem d_Mod_find_32 : decode c_Mod_find 32 = .ok (.invokevirtual 314, 3) := by decide +kernel
theorem d_Mod_find_35 : decode c_Mod_find 35 = .ok (.istore_n 3, 1) := by decide +kernel
theorem d_Mod_find_36 : decode c_Mod_find 36 = .ok (.iinc 4 1, 3) := by decide +kernel
theorem d_Mod_find_39 : decode c_Mod_find 39 = .ok (.goto (-23), 3) := by decide +kernel
theorem d_Mod_find_42 : decode c_Mod_find 42 = .ok (.aload_n 0, 1) := by decide +kernel
theorem d_Mod_find_43 : decode c_Mod_find 43 = .ok (.iload_n 3, 1) := by decide +kernel
theorem d_Mod_find_44 : decode c_Mod_find 44 = .ok (.iconst 1, 1) := by decide +kernel
theorem d_Mod_find_45 : decode c_Mod_find 45 = .ok (.if_icmp .ne 7, 3) := by decide +kernel
theorem d_Mod_find_48 : decode c_Mod_find 48 = .ok (.iconst 1, 1) := by decide +kernel
theorem d_Mod_find_49 : decode c_Mod_find 49 = .ok (.goto 4, 3) := by decide +kernel
theorem d_Mod_find_52 : decode c_Mod_find 52 = .ok (.iconst 0, 1) := by decide +kernel
theorem d_Mod_find_53 : decode c_Mod_find 53 = .ok (.putfield 222, 3) := by decide +kernel
theorem d_Mod_find_56 : decode c_Mod_find 56 = .ok (.iload_n 3, 1) := by decide +kernel
theorem d_Mod_find_57 : decode c_Mod_find 57 = .ok (.ireturn, 1) := by decide +kernel
theorem d_Mod_group_0 : decode c_Mod_group 0 = .ok (.aload_n 0, 1) := by decide +kernel
theorem d_Mod_group_1 : decode c_Mod_group 1 = .ok (.aload_n 0, 1) := by decide +kernel
theorem d_Mod_group_2 : decode c_Mod_group 2 = .ok (.getfield 222, 3) := by decide +kernel
theorem d_Mod_group_5 : decode c_Mod_group 5 = .ok (.ifCond .ne 7, 3) := by decide +kernel
theorem d_Mod_group_8 : decode c_Mod_group 8 = .ok (.iconst 2, 1) := by decide +kernel
theorem d_Mod_group_9 : decode c_Mod_group 9 = .ok (.goto 20, 3) := by decide +kernel
theorem d_Mod_group_12 : decode c_Mod_group 12 = .ok (.iload_n 1, 1) := by decide +kernel
theorem d_Mod_group_13 : decode c_Mod_group 13 = .ok (.iconst 0, 1) := by decide +kernel
theorem d_Mod_group_14 : decode c_Mod_group 14 = .ok (.aload_n 0, 1) := by decide +kernel
theorem d_Mod_group_15 : decode c_Mod_group 15 = .ok (.getfield 141, 3) := by decide +kernel
theorem d_Mod_group_18 : decode c_Mod_group 18 = .ok (.invokestatic 103, 3) := by decide +kernel
theorem d_Mod_group_21 : decode c_Mod_group 21 = .ok (.ifCond .ne 7, 3) := by decide +kernel
theorem d_Mod_group_24 : decode c_Mod_group 24 = .ok (.iconst 1, 1) := by decide +kernel
theorem d_Mod_group_25 : decode c_Mod_group 25 = .ok (.goto 4, 3) := by decide +kernel
theorem d_Mod_group_28 : decode c_Mod_group 28 = .ok (.iconst 0, 1) := by decide +kernel
theorem d_Mod_group_29 : decode c_Mod_group 29 = .ok (.putfield 100, 3) := by decide +kernel
theorem d_Mod_group_32 : decode c_Mod_group 32 = .ok (.aload_n 0, 1) := by decide +kernel
theorem d_Mod_group_33 : decode c_Mod_group 33 = .ok (.getfield 100, 3) := by decide +kernel
theorem d_Mod_group_36 : decode c_Mod_group 36 = .ok (.ifCond .le 5, 3) := by decide +kernel
theorem d_Mod_group_39 : decode c_Mod_group 39 = .ok (.iconst 0, 1) := by decide +kernel
theorem d_Mod_group_40 : decode c_Mod_group 40 = .ok (.ireturn, 1) := by decide +kernel
theorem d_Mod_group_41 : decode c_Mod_group 41 = .ok (.aload_n 0, 1) := by decide +kernel
theorem d_Mod_group_42 : decode c_Mod_group 42 = .ok (.getfield 65, 3) := by decide +kernel
theorem d_Mod_group_45 : decode c_Mod_group 45 = .ok (.iconst 2, 1) := by decide +kernel
theorem d_Mod_group_46 : decode c_Mod_group 46 = .ok (.iload_n 1, 1) := by decide +kernel
theorem d_Mod_group_47 : decode c_Mod_group 47 = .ok (.imul, 1) := by decide +kernel
theorem d_Mod_group_48 : decode c_Mod_group 48 = .ok (.iload_n 2, 1) := by decide +kernel
theorem d_Mod_group_49 : decode c_Mod_group 49 = .ok (.ifCond .eq 7, 3) := by decide +kernel
theorem d_Mod_group_52 : decode c_Mod_group 52 = .ok (.iconst 1, 1) := by decide +kernel
theorem d_Mod_group_53 : decode c_Mod_group 53 = .ok (.goto 4, 3) := by decide +kernel
theorem d_Mod_group_56 : decode c_Mod_group 56 = .ok (.iconst 0, 1) := by decide +kernel
theorem d_Mod_group_57 : decode c_Mod_group 57 = .ok (.iadd, 1) := by decide +kernel
theorem d_Mod_group_58 : decode c_Mod_group 58 = .ok (.iaload, 1) := by decide +kernel
theorem d_Mod_group_59 : decode c_Mod_group 59 = .ok (.ireturn, 1) := by decide +kernel
theorem d_Mod_steps_0 : decode c_Mod_steps 0 = .ok (.aload_n 0, 1) := by decide +kernel
theorem d_Mod_steps_1 : decode c_Mod_steps 1 = .ok (.iconst 0, 1) := by decide +kernel
theorem d_Mod_steps_2 : decode c_Mod_steps 2 = .ok (.putfield 100, 3) := by decide +kernel
theorem d_Mod_steps_5 : decode c_Mod_steps 5 = .ok (.aload_n 0, 1) := by decide +kernel
theorem d_Mod_steps_6 : decode c_Mod_steps 6 = .ok (.getfield 247, 3) := by decide +kernel
theorem d_Mod_steps_9 : decode c_Mod_steps 9 = .ok (.ireturn, 1) := by decide +kernel
def Mod_match_b28 (N : Nat) (x3 : Int32) (s1 : Int32) (σ : g_S) : Option (Int32 × g_S) := if gB s1 = true then some (x3, (gF σ 15 s1)) else none
theorem Mod_match_p28 (ao aa : Nat → Nat) {X : g_X} (hC : gC X c_Mod_match R_Mod 10 220 4 (some .int)) (N : Nat) (x3 : Int32) (s1 : Int32) (σ : g_S) (r : Int32) (σe : g_S) (hf : Mod_match_b28 N x3 s1 σ = some (r, σe)) : gw X (.inl (some (.int r))) (LM ao aa X.2.2.1 σe) (LM ao aa X.2.2.1 σ) [(0, .ref (ao 0)), (3, .int x3)] 28 [.int s1, .ref (ao 0)] := by
  unfold Mod_match_b28 at hf
  obtain ⟨hg28, hf⟩ := g_guard hf
  refine Mp15 hC kf_Mod_222 d_Mod_match_28 hg28 ?_
  refine gw_iload_n hC 1 d_Mod_match_31 rfl rfl ?_
  cases hf
  exact gw_iret hC d_Mod_match_32
def Mod_match_b27 (N : Nat) (x3 : Int32) (σ : g_S) : Option (Int32 × g_S) := Mod_match_b28 N x3 0 σ
theorem Mod_match_p27 (ao aa : Nat → Nat) {X : g_X} (hC : gC X c_Mod_match R_Mod 10 220 4 (some .int)) (N : Nat) (x3 : Int32) (σ : g_S) (r : Int32) (σe : g_S) (hf : Mod_match_b27 N x3 σ = some (r, σe)) : gw X (.inl (some (.int r))) (LM ao aa X.2.2.1 σe) (LM ao aa X.2.2.1 σ) [(0, .ref (ao 0)), (3, .int x3)] 27 [.ref (ao 0)] := by
  unfold Mod_match_b27 at hf
  refine gw_iconst hC 0 d_Mod_match_27 (by decide) ?_
  exact Mod_match_p28 ao aa hC N _ _ _ _ _ hf
def Mod_match_b23 (N : Nat) (x3 : Int32) (σ : g_S) : Option (Int32 × g_S) := Mod_match_b28 N x3 1 σ
theorem Mod_match_p23 (ao aa : Nat → Nat) {X : g_X} (hC : gC X c_Mod_match R_Mod 10 220 4 (some .int)) (N : Nat) (x3 : Int32) (σ : g_S) (r : Int32) (σe : g_S) (hf : Mod_match_b23 N x3 σ = some (r, σe)) : gw X (.inl (some (.int r))) (LM ao aa X.2.2.1 σe) (LM ao aa X.2.2.1 σ) [(0, .ref (ao 0)), (3, .int x3)] 23 [.ref (ao 0)] := by
  unfold Mod_match_b23 at hf
  refine gw_iconst hC 1 d_Mod_match_23 (by decide) ?_
  refine gw_goto hC 28 d_Mod_match_24 (by decide) ?_
  exact Mod_match_p28 ao aa hC N _ _ _ _ _ hf
def Mod_match_b11 (N : Nat) (x1 : Int32) (σ : g_S) : Option (Int32 × g_S) := (Mod_tryAt N x1 σ).bind fun q13 => if q13.1 = 1 then Mod_match_b23 N q13.1 q13.2 else Mod_match_b27 N q13.1 q13.2
theorem Mod_match_p11 (ao aa : Nat → Nat) {X : g_X} (hC : gC X c_Mod_match R_Mod 10 220 4 (some .int)) (N : Nat) (x1 : Int32) (σ : g_S) (r : Int32) (σe : g_S) (hf : Mod_match_b11 N x1 σ = some (r, σe)) : gw X (.inl (some (.int r))) (LM ao aa X.2.2.1 σe) (LM ao aa X.2.2.1 σ) [(0, .ref (ao 0)), (1, .int x1)] 11 [] := by
  unfold Mod_match_b11 at hf
  refine gw_aload_n hC 0 d_Mod_match_11 rfl rfl ?_
  refine gw_iload_n hC 1 d_Mod_match_12 rfl rfl ?_
  obtain ⟨q13, hq13, hf⟩ := g_bind hf
  refine gw_callV hC [.int x1] [] (Mod_tryAt_m _ _ _ ao aa N _ _ _ _ hq13) kc_Mod_314 0 (g_lay_obj rfl) rfl rfl ⟨by decide, by decide⟩ (Nat.le_of_ble_eq_true rfl) [.int x1, .ref (ao 0)] [.int q13.1] rfl rfl d_Mod_match_13 ?_
  refine gw_istore_n hC [(3, .int q13.1), (0, .ref (ao 0)), (1, .int x1)] d_Mod_match_16 rfl (by decide) rfl ?_
  refine gw_aload_n hC 1 d_Mod_match_17 rfl rfl ?_
  refine gw_iload_n hC 0 d_Mod_match_18 rfl rfl ?_
  refine gw_iconst hC 1 d_Mod_match_19 (by decide) ?_
  refine gw_icmp_ne hC 27 d_Mod_match_20 (by decide) (fun hh => ?_) (fun hh => ?_)
  · rw [if_neg hh] at hf
    refine gw_lv [1, 0] rfl ?_
    exact Mod_match_p27 ao aa hC N _ _ _ _ hf
  · rw [if_pos hh] at hf
    refine gw_lv [1, 0] rfl ?_
    exact Mod_match_p23 ao aa hC N _ _ _ _ hf
def Mod_match_b9 (N : Nat) (σ : g_S) : Option (Int32 × g_S) := some (0, σ)
theorem Mod_match_p9 (ao aa : Nat → Nat) {X : g_X} (hC : gC X c_Mod_match R_Mod 10 220 4 (some .int)) (N : Nat) (σ : g_S) (r : Int32) (σe : g_S) (hf : Mod_match_b9 N σ = some (r, σe)) : gw X (.inl (some (.int r))) (LM ao aa X.2.2.1 σe) (LM ao aa X.2.2.1 σ) [(0, .ref (ao 0))] 9 [] := by
  unfold Mod_match_b9 at hf
  refine gw_iconst hC 0 d_Mod_match_9 (by decide) ?_
  cases hf
  exact gw_iret hC d_Mod_match_10
def Mod_match_b0 (N : Nat) (x1 : Int32) (x2 : Int32) (σ : g_S) : Option (Int32 × g_S) := (Mod_begins N x1 x2 σ).bind fun q3 => if q3.1 = 0 then Mod_match_b9 N q3.2 else Mod_match_b11 N x1 q3.2
theorem Mod_match_p0 (ao aa : Nat → Nat) {X : g_X} (hC : gC X c_Mod_match R_Mod 10 220 4 (some .int)) (N : Nat) (x1 : Int32) (x2 : Int32) (σ : g_S) (r : Int32) (σe : g_S) (hf : Mod_match_b0 N x1 x2 σ = some (r, σe)) : gw X (.inl (some (.int r))) (LM ao aa X.2.2.1 σe) (LM ao aa X.2.2.1 σ) [(0, .ref (ao 0)), (1, .int x1), (2, .int x2)] 0 [] := by
  unfold Mod_match_b0 at hf
  refine gw_aload_n hC 0 d_Mod_match_0 rfl rfl ?_
  refine gw_iload_n hC 1 d_Mod_match_1 rfl rfl ?_
  refine gw_iload_n hC 2 d_Mod_match_2 rfl rfl ?_
  obtain ⟨q3, hq3, hf⟩ := g_bind hf
  refine gw_callV hC [.int x1, .int x2] [] (Mod_begins_m _ _ _ ao aa N _ _ _ _ _ hq3) kc_Mod_311 0 (g_lay_obj rfl) rfl rfl ⟨by decide, by decide⟩ (Nat.le_of_ble_eq_true rfl) [.int x2, .int x1, .ref (ao 0)] [.int q3.1] rfl rfl d_Mod_match_3 ?_
  refine gw_if_ne hC 11 d_Mod_match_6 (by decide) (fun hh => ?_) (fun hh => ?_)
  · rw [if_neg hh] at hf
    refine gw_lv [0, 1] rfl ?_
    exact Mod_match_p11 ao aa hC N _ _ _ _ hf
  · rw [if_pos hh] at hf
    refine gw_lv [0] rfl ?_
    exact Mod_match_p9 ao aa hC N _ _ _ hf
def Mod_match (N : Nat) (x1 : Int32) (x2 : Int32) (σ : g_S) : Option (Int32 × g_S) := Mod_match_b0 N x1 x2 σ
theorem Mod_match_m (l : Launch) (D : va_G) (cA : ClassId) (ao aa : Nat → Nat) (N : Nat) (x1 : Int32) (x2 : Int32) (σ : g_S) (r : Int32) (σe : g_S) (hf : Mod_match N x1 x2 σ = some (r, σe)) : Mt l D cA y_Mod_match c_Mod_match 4 (some .int) 10 220 [.ref (ao 0), .int x1, .int x2] (LM ao aa cA σ) (some (.int r)) (LM ao aa cA σe) := by
  refine g_met (by decide +kernel) (by simp [lg_sl, Value.category]) (fun X e1 e2 e3 hC => ?_)
  subst e1 e2 e3
  refine gw_lv [0, 1, 2] rfl ?_
  exact Mod_match_p0 ao aa hC N _ _ _ (r) _ hf
def Mod_find_b53 (N : Nat) (x3 : Int32) (s1 : Int32) (σ : g_S) : Option (Int32 × g_S) := if gB s1 = true then some (x3, (gF σ 15 s1)) else none
theorem Mod_find_p53 (ao aa : Nat → Nat) {X : g_X} (hC : gC X c_Mod_find R_Mod 10 220 5 (some .int)) (N : Nat) (x3 : Int32) (s1 : Int32) (σ : g_S) (r : Int32) (σe : g_S) (hf : Mod_find_b53 N x3 s1 σ = some (r, σe)) : gw X (.inl (some (.int r))) (LM ao aa X.2.2.1 σe) (LM ao aa X.2.2.1 σ) [(0, .ref (ao 0)), (3, .int x3)] 53 [.int s1, .ref (ao 0)] := by
  unfold Mod_find_b53 at hf
  obtain ⟨hg53, hf⟩ := g_guard hf
  refine Mp15 hC kf_Mod_222 d_Mod_find_53 hg53 ?_
  refine gw_iload_n hC 1 d_Mod_find_56 rfl rfl ?_
  cases hf
  exact gw_iret hC d_Mod_find_57
def Mod_find_b52 (N : Nat) (x3 : Int32) (σ : g_S) : Option (Int32 × g_S) := Mod_find_b53 N x3 0 σ
theorem Mod_find_p52 (ao aa : Nat → Nat) {X : g_X} (hC : gC X c_Mod_find R_Mod 10 220 5 (some .int)) (N : Nat) (x3 : Int32) (σ : g_S) (r : Int32) (σe : g_S) (hf : Mod_find_b52 N x3 σ = some (r, σe)) : gw X (.inl (some (.int r))) (LM ao aa X.2.2.1 σe) (LM ao aa X.2.2.1 σ) [(0, .ref (ao 0)), (3, .int x3)] 52 [.ref (ao 0)] := by
  unfold Mod_find_b52 at hf
  refine gw_iconst hC 0 d_Mod_find_52 (by decide) ?_
  exact Mod_find_p53 ao aa hC N _ _ _ _ _ hf
def Mod_find_b48 (N : Nat) (x3 : Int32) (σ : g_S) : Option (Int32 × g_S) := Mod_find_b53 N x3 1 σ
theorem Mod_find_p48 (ao aa : Nat → Nat) {X : g_X} (hC : gC X c_Mod_find R_Mod 10 220 5 (some .int)) (N : Nat) (x3 : Int32) (σ : g_S) (r : Int32) (σe : g_S) (hf : Mod_find_b48 N x3 σ = some (r, σe)) : gw X (.inl (some (.int r))) (LM ao aa X.2.2.1 σe) (LM ao aa X.2.2.1 σ) [(0, .ref (ao 0)), (3, .int x3)] 48 [.ref (ao 0)] := by
  unfold Mod_find_b48 at hf
  refine gw_iconst hC 1 d_Mod_find_48 (by decide) ?_
  refine gw_goto hC 53 d_Mod_find_49 (by decide) ?_
  exact Mod_find_p53 ao aa hC N _ _ _ _ _ hf
def Mod_find_b42 (N : Nat) (x3 : Int32) (σ : g_S) : Option (Int32 × g_S) := if x3 = 1 then Mod_find_b48 N x3 σ else Mod_find_b52 N x3 σ
theorem Mod_find_p42 (ao aa : Nat → Nat) {X : g_X} (hC : gC X c_Mod_find R_Mod 10 220 5 (some .int)) (N : Nat) (x3 : Int32) (σ : g_S) (r : Int32) (σe : g_S) (hf : Mod_find_b42 N x3 σ = some (r, σe)) : gw X (.inl (some (.int r))) (LM ao aa X.2.2.1 σe) (LM ao aa X.2.2.1 σ) [(0, .ref (ao 0)), (3, .int x3)] 42 [] := by
  unfold Mod_find_b42 at hf
  refine gw_aload_n hC 0 d_Mod_find_42 rfl rfl ?_
  refine gw_iload_n hC 1 d_Mod_find_43 rfl rfl ?_
  refine gw_iconst hC 1 d_Mod_find_44 (by decide) ?_
  refine gw_icmp_ne hC 52 d_Mod_find_45 (by decide) (fun hh => ?_) (fun hh => ?_)
  · rw [if_neg hh] at hf
    exact Mod_find_p52 ao aa hC N _ _ _ _ hf
  · rw [if_pos hh] at hf
    exact Mod_find_p48 ao aa hC N _ _ _ _ hf
def Mod_find_b29 (N : Nat) (k16 : Int32 → Int32 → g_S → Option (Int32 × g_S)) (x4 : Int32) (σ : g_S) : Option (Int32 × g_S) := (Mod_tryAt N x4 σ).bind fun q32 => k16 q32.1 (x4 + 1) q32.2
theorem Mod_find_p29 (ao aa : Nat → Nat) {X : g_X} (hC : gC X c_Mod_find R_Mod 10 220 5 (some .int)) (N : Nat) (k16 : Int32 → Int32 → g_S → Option (Int32 × g_S)) (hk16 : ∀ (x3 : Int32) (x4 : Int32) (σ : g_S) (r : Int32) (σe : g_S), k16 x3 x4 σ = some (r, σe) → gw X (.inl (some (.int r))) (LM ao aa X.2.2.1 σe) (LM ao aa X.2.2.1 σ) [(0, .ref (ao 0)), (3, .int x3), (4, .int x4)] 16 []) (x4 : Int32) (σ : g_S) (r : Int32) (σe : g_S) (hf : Mod_find_b29 N k16 x4 σ = some (r, σe)) : gw X (.inl (some (.int r))) (LM ao aa X.2.2.1 σe) (LM ao aa X.2.2.1 σ) [(0, .ref (ao 0)), (4, .int x4)] 29 [] := by
  unfold Mod_find_b29 at hf
  refine gw_aload_n hC 0 d_Mod_find_29 rfl rfl ?_
  refine gw_iload hC 1 d_Mod_find_30 rfl ?_
  obtain ⟨q32, hq32, hf⟩ := g_bind hf
  refine gw_callV hC [.int x4] [] (Mod_tryAt_m _ _ _ ao aa N _ _ _ _ hq32) kc_Mod_314 0 (g_lay_obj rfl) rfl rfl ⟨by decide, by decide⟩ (Nat.le_of_ble_eq_true rfl) [.int x4, .ref (ao 0)] [.int q32.1] rfl rfl d_Mod_find_32 ?_
  refine gw_istore_n hC [(3, .int q32.1), (0, .ref (ao 0)), (4, .int x4)] d_Mod_find_35 rfl (by decide) rfl ?_
  refine gw_iinc hC (x4 + 1) 2 [(4, .int (x4 + 1)), (3, .int q32.1), (0, .ref (ao 0))] d_Mod_find_36 rfl rfl (by decide) rfl ?_
  refine gw_goto hC 16 d_Mod_find_39 (by decide) ?_
  refine gw_lv [2, 1, 0] rfl ?_
  exact hk16 _ _ _ _ _ hf
def Mod_find_b25 (N : Nat) (k16 : Int32 → Int32 → g_S → Option (Int32 × g_S)) (x3 : Int32) (x4 : Int32) (σ : g_S) : Option (Int32 × g_S) := if x3 = 0 then Mod_find_b29 N k16 x4 σ else Mod_find_b42 N x3 σ
theorem Mod_find_p25 (ao aa : Nat → Nat) {X : g_X} (hC : gC X c_Mod_find R_Mod 10 220 5 (some .int)) (N : Nat) (k16 : Int32 → Int32 → g_S → Option (Int32 × g_S)) (hk16 : ∀ (x3 : Int32) (x4 : Int32) (σ : g_S) (r : Int32) (σe : g_S), k16 x3 x4 σ = some (r, σe) → gw X (.inl (some (.int r))) (LM ao aa X.2.2.1 σe) (LM ao aa X.2.2.1 σ) [(0, .ref (ao 0)), (3, .int x3), (4, .int x4)] 16 []) (x3 : Int32) (x4 : Int32) (σ : g_S) (r : Int32) (σe : g_S) (hf : Mod_find_b25 N k16 x3 x4 σ = some (r, σe)) : gw X (.inl (some (.int r))) (LM ao aa X.2.2.1 σe) (LM ao aa X.2.2.1 σ) [(0, .ref (ao 0)), (3, .int x3), (4, .int x4)] 25 [] := by
  unfold Mod_find_b25 at hf
  refine gw_iload_n hC 1 d_Mod_find_25 rfl rfl ?_
  refine gw_if_ne hC 42 d_Mod_find_26 (by decide) (fun hh => ?_) (fun hh => ?_)
  · rw [if_neg hh] at hf
    refine gw_lv [0, 1] rfl ?_
    exact Mod_find_p42 ao aa hC N _ _ _ _ hf
  · rw [if_pos hh] at hf
    refine gw_lv [0, 2] rfl ?_
    exact Mod_find_p29 ao aa hC N _ hk16 _ _ _ _ hf
def Mod_find_b16 (N : Nat) (k16 : Int32 → Int32 → g_S → Option (Int32 × g_S)) (x3 : Int32) (x4 : Int32) (σ : g_S) : Option (Int32 × g_S) := if (σ.1 7) < x4 then Mod_find_b42 N x3 σ else Mod_find_b25 N k16 x3 x4 σ
theorem Mod_find_p16 (ao aa : Nat → Nat) {X : g_X} (hC : gC X c_Mod_find R_Mod 10 220 5 (some .int)) (N : Nat) (k16 : Int32 → Int32 → g_S → Option (Int32 × g_S)) (hk16 : ∀ (x3 : Int32) (x4 : Int32) (σ : g_S) (r : Int32) (σe : g_S), k16 x3 x4 σ = some (r, σe) → gw X (.inl (some (.int r))) (LM ao aa X.2.2.1 σe) (LM ao aa X.2.2.1 σ) [(0, .ref (ao 0)), (3, .int x3), (4, .int x4)] 16 []) (x3 : Int32) (x4 : Int32) (σ : g_S) (r : Int32) (σe : g_S) (hf : Mod_find_b16 N k16 x3 x4 σ = some (r, σe)) : gw X (.inl (some (.int r))) (LM ao aa X.2.2.1 σe) (LM ao aa X.2.2.1 σ) [(0, .ref (ao 0)), (3, .int x3), (4, .int x4)] 16 [] := by
  unfold Mod_find_b16 at hf
  refine gw_iload hC 2 d_Mod_find_16 rfl ?_
  refine gw_aload_n hC 0 d_Mod_find_18 rfl rfl ?_
  refine Mg7 hC kf_Mod_238 d_Mod_find_19 (σ.1 7) rfl ?_
  refine gw_icmp_gt hC 42 d_Mod_find_22 (by decide) (fun hh => ?_) (fun hh => ?_)
  · rw [if_pos hh] at hf
    refine gw_lv [0, 1] rfl ?_
    exact Mod_find_p42 ao aa hC N _ _ _ _ hf
  · rw [if_neg hh] at hf
    exact Mod_find_p25 ao aa hC N _ hk16 _ _ _ _ _ hf
def Mod_find_l16 (N : Nat) : Nat → Int32 → Int32 → g_S → Option (Int32 × g_S)
  | 0 => fun _ _ _ => none
  | n + 1 => fun x3 x4 σ => Mod_find_b16 N (Mod_find_l16 N n) x3 x4 σ
theorem Mod_find_q16 (ao aa : Nat → Nat) {X : g_X} (hC : gC X c_Mod_find R_Mod 10 220 5 (some .int)) (N : Nat) (n : Nat) : ∀ (x3 : Int32) (x4 : Int32) (σ : g_S) (r : Int32) (σe : g_S), Mod_find_l16 N n x3 x4 σ = some (r, σe) → gw X (.inl (some (.int r))) (LM ao aa X.2.2.1 σe) (LM ao aa X.2.2.1 σ) [(0, .ref (ao 0)), (3, .int x3), (4, .int x4)] 16 [] := by
  induction n with
  | zero => intro x3 x4 σ r σe hf; cases hf
  | succ n ih => intro x3 x4 σ r σe hf; exact Mod_find_p16 ao aa hC N _ (fun x3 x4 σ r2 σ2 h2 => ih x3 x4 σ r2 σ2 h2) x3 x4 σ r σe hf
def Mod_find_b11 (N : Nat) (x1 : Int32) (σ : g_S) : Option (Int32 × g_S) := Mod_find_l16 N N 0 x1 σ
theorem Mod_find_p11 (ao aa : Nat → Nat) {X : g_X} (hC : gC X c_Mod_find R_Mod 10 220 5 (some .int)) (N : Nat) (x1 : Int32) (σ : g_S) (r : Int32) (σe : g_S) (hf : Mod_find_b11 N x1 σ = some (r, σe)) : gw X (.inl (some (.int r))) (LM ao aa X.2.2.1 σe) (LM ao aa X.2.2.1 σ) [(0, .ref (ao 0)), (1, .int x1)] 11 [] := by
  unfold Mod_find_b11 at hf
  refine gw_iconst hC 0 d_Mod_find_11 (by decide) ?_
  refine gw_istore_n hC [(3, .int 0), (0, .ref (ao 0)), (1, .int x1)] d_Mod_find_12 rfl (by decide) rfl ?_
  refine gw_iload_n hC 2 d_Mod_find_13 rfl rfl ?_
  refine gw_istore hC [(4, .int x1), (3, .int 0), (0, .ref (ao 0)), (1, .int x1)] d_Mod_find_14 (by decide) rfl ?_
  refine gw_lv [2, 1, 0] rfl ?_
  exact Mod_find_q16 ao aa hC N N _ _ _ _ _ hf
def Mod_find_b9 (N : Nat) (σ : g_S) : Option (Int32 × g_S) := some (0, σ)
theorem Mod_find_p9 (ao aa : Nat → Nat) {X : g_X} (hC : gC X c_Mod_find R_Mod 10 220 5 (some .int)) (N : Nat) (σ : g_S) (r : Int32) (σe : g_S) (hf : Mod_find_b9 N σ = some (r, σe)) : gw X (.inl (some (.int r))) (LM ao aa X.2.2.1 σe) (LM ao aa X.2.2.1 σ) [(0, .ref (ao 0))] 9 [] := by
  unfold Mod_find_b9 at hf
  refine gw_iconst hC 0 d_Mod_find_9 (by decide) ?_
  cases hf
  exact gw_iret hC d_Mod_find_10
def Mod_find_b0 (N : Nat) (x1 : Int32) (x2 : Int32) (σ : g_S) : Option (Int32 × g_S) := (Mod_begins N x1 x2 σ).bind fun q3 => if q3.1 = 0 then Mod_find_b9 N q3.2 else Mod_find_b11 N x1 q3.2
theorem Mod_find_p0 (ao aa : Nat → Nat) {X : g_X} (hC : gC X c_Mod_find R_Mod 10 220 5 (some .int)) (N : Nat) (x1 : Int32) (x2 : Int32) (σ : g_S) (r : Int32) (σe : g_S) (hf : Mod_find_b0 N x1 x2 σ = some (r, σe)) : gw X (.inl (some (.int r))) (LM ao aa X.2.2.1 σe) (LM ao aa X.2.2.1 σ) [(0, .ref (ao 0)), (1, .int x1), (2, .int x2)] 0 [] := by
  unfold Mod_find_b0 at hf
  refine gw_aload_n hC 0 d_Mod_find_0 rfl rfl ?_
  refine gw_iload_n hC 1 d_Mod_find_1 rfl rfl ?_
  refine gw_iload_n hC 2 d_Mod_find_2 rfl rfl ?_
  obtain ⟨q3, hq3, hf⟩ := g_bind hf
  refine gw_callV hC [.int x1, .int x2] [] (Mod_begins_m _ _ _ ao aa N _ _ _ _ _ hq3) kc_Mod_311 0 (g_lay_obj rfl) rfl rfl ⟨by decide, by decide⟩ (Nat.le_of_ble_eq_true rfl) [.int x2, .int x1, .ref (ao 0)] [.int q3.1] rfl rfl d_Mod_find_3 ?_
  refine gw_if_ne hC 11 d_Mod_find_6 (by decide) (fun hh => ?_) (fun hh => ?_)
  · rw [if_neg hh] at hf
    refine gw_lv [0, 1] rfl ?_
    exact Mod_find_p11 ao aa hC N _ _ _ _ hf
  · rw [if_pos hh] at hf
    refine gw_lv [0] rfl ?_
    exact Mod_find_p9 ao aa hC N _ _ _ hf
def Mod_find (N : Nat) (x1 : Int32) (x2 : Int32) (σ : g_S) : Option (Int32 × g_S) := Mod_find_b0 N x1 x2 σ
theorem Mod_find_m (l : Launch) (D : va_G) (cA : ClassId) (ao aa : Nat → Nat) (N : Nat) (x1 : Int32) (x2 : Int32) (σ : g_S) (r : Int32) (σe : g_S) (hf : Mod_find N x1 x2 σ = some (r, σe)) : Mt l D cA y_Mod_find c_Mod_find 5 (some .int) 10 220 [.ref (ao 0), .int x1, .int x2] (LM ao aa cA σ) (some (.int r)) (LM ao aa cA σe) := by
  refine g_met (by decide +kernel) (by simp [lg_sl, Value.category]) (fun X e1 e2 e3 hC => ?_)
  subst e1 e2 e3
  refine gw_lv [0, 1, 2] rfl ?_
  exact Mod_find_p0 ao aa hC N _ _ _ (r) _ hf
def Mod_group_b57 (N : Nat) (s1 : Int32) (s2 : Int32) (σ : g_S) : Option (Int32 × g_S) := if gIn (s1 + s2) 42 = true then some ((σ.2 17 ((s1 + s2)).toNatClampNeg), σ) else none
theorem Mod_group_p57 (ao aa : Nat → Nat) {X : g_X} (hC : gC X c_Mod_group R_Mod 1 22 3 (some .int)) (N : Nat) (s1 : Int32) (s2 : Int32) (σ : g_S) (r : Int32) (σe : g_S) (hf : Mod_group_b57 N s1 s2 σ = some (r, σe)) : gw X (.inl (some (.int r))) (LM ao aa X.2.2.1 σe) (LM ao aa X.2.2.1 σ) [(0, .ref (ao 0))] 57 [.int s2, .int s1, .ref (aa 17)] := by
  unfold Mod_group_b57 at hf
  refine gw_iadd hC d_Mod_group_57 ?_
  obtain ⟨hg58, hf⟩ := g_guard hf
  refine Mald (j := 17) hC (by decide) hg58 d_Mod_group_58 (σ.2 17 ((s1 + s2)).toNatClampNeg) rfl ?_
  cases hf
  exact gw_iret hC d_Mod_group_59
def Mod_group_b56 (N : Nat) (s1 : Int32) (σ : g_S) : Option (Int32 × g_S) := Mod_group_b57 N s1 0 σ
theorem Mod_group_p56 (ao aa : Nat → Nat) {X : g_X} (hC : gC X c_Mod_group R_Mod 1 22 3 (some .int)) (N : Nat) (s1 : Int32) (σ : g_S) (r : Int32) (σe : g_S) (hf : Mod_group_b56 N s1 σ = some (r, σe)) : gw X (.inl (some (.int r))) (LM ao aa X.2.2.1 σe) (LM ao aa X.2.2.1 σ) [(0, .ref (ao 0))] 56 [.int s1, .ref (aa 17)] := by
  unfold Mod_group_b56 at hf
  refine gw_iconst hC 0 d_Mod_group_56 (by decide) ?_
  exact Mod_group_p57 ao aa hC N _ _ _ _ _ hf
def Mod_group_b52 (N : Nat) (s1 : Int32) (σ : g_S) : Option (Int32 × g_S) := Mod_group_b57 N s1 1 σ
theorem Mod_group_p52 (ao aa : Nat → Nat) {X : g_X} (hC : gC X c_Mod_group R_Mod 1 22 3 (some .int)) (N : Nat) (s1 : Int32) (σ : g_S) (r : Int32) (σe : g_S) (hf : Mod_group_b52 N s1 σ = some (r, σe)) : gw X (.inl (some (.int r))) (LM ao aa X.2.2.1 σe) (LM ao aa X.2.2.1 σ) [(0, .ref (ao 0))] 52 [.int s1, .ref (aa 17)] := by
  unfold Mod_group_b52 at hf
  refine gw_iconst hC 1 d_Mod_group_52 (by decide) ?_
  refine gw_goto hC 57 d_Mod_group_53 (by decide) ?_
  exact Mod_group_p57 ao aa hC N _ _ _ _ _ hf
def Mod_group_b41 (N : Nat) (x1 : Int32) (x2 : Int32) (σ : g_S) : Option (Int32 × g_S) := if x2 = 0 then Mod_group_b56 N (2 * x1) σ else Mod_group_b52 N (2 * x1) σ
theorem Mod_group_p41 (ao aa : Nat → Nat) {X : g_X} (hC : gC X c_Mod_group R_Mod 1 22 3 (some .int)) (N : Nat) (x1 : Int32) (x2 : Int32) (σ : g_S) (r : Int32) (σe : g_S) (hf : Mod_group_b41 N x1 x2 σ = some (r, σe)) : gw X (.inl (some (.int r))) (LM ao aa X.2.2.1 σe) (LM ao aa X.2.2.1 σ) [(0, .ref (ao 0)), (1, .int x1), (2, .int x2)] 41 [] := by
  unfold Mod_group_b41 at hf
  refine gw_aload_n hC 0 d_Mod_group_41 rfl rfl ?_
  refine Mr_Mod_group hC kf_Mod_65 d_Mod_group_42 ?_
  refine gw_iconst hC 2 d_Mod_group_45 (by decide) ?_
  refine gw_iload_n hC 1 d_Mod_group_46 rfl rfl ?_
  refine gw_imul hC d_Mod_group_47 ?_
  refine gw_iload_n hC 2 d_Mod_group_48 rfl rfl ?_
  refine gw_if_eq hC 56 d_Mod_group_49 (by decide) (fun hh => ?_) (fun hh => ?_)
  · rw [if_pos hh] at hf
    refine gw_lv [0] rfl ?_
    exact Mod_group_p56 ao aa hC N _ _ _ _ hf
  · rw [if_neg hh] at hf
    refine gw_lv [0] rfl ?_
    exact Mod_group_p52 ao aa hC N _ _ _ _ hf
def Mod_group_b39 (N : Nat) (σ : g_S) : Option (Int32 × g_S) := some (0, σ)
theorem Mod_group_p39 (ao aa : Nat → Nat) {X : g_X} (hC : gC X c_Mod_group R_Mod 1 22 3 (some .int)) (N : Nat) (σ : g_S) (r : Int32) (σe : g_S) (hf : Mod_group_b39 N σ = some (r, σe)) : gw X (.inl (some (.int r))) (LM ao aa X.2.2.1 σe) (LM ao aa X.2.2.1 σ) [(0, .ref (ao 0))] 39 [] := by
  unfold Mod_group_b39 at hf
  refine gw_iconst hC 0 d_Mod_group_39 (by decide) ?_
  cases hf
  exact gw_iret hC d_Mod_group_40
def Mod_group_b29 (N : Nat) (x1 : Int32) (x2 : Int32) (s1 : Int32) (σ : g_S) : Option (Int32 × g_S) := if s1 ≤ 0 then Mod_group_b41 N x1 x2 (gF σ 0 s1) else Mod_group_b39 N (gF σ 0 s1)
theorem Mod_group_p29 (ao aa : Nat → Nat) {X : g_X} (hC : gC X c_Mod_group R_Mod 1 22 3 (some .int)) (N : Nat) (x1 : Int32) (x2 : Int32) (s1 : Int32) (σ : g_S) (r : Int32) (σe : g_S) (hf : Mod_group_b29 N x1 x2 s1 σ = some (r, σe)) : gw X (.inl (some (.int r))) (LM ao aa X.2.2.1 σe) (LM ao aa X.2.2.1 σ) [(0, .ref (ao 0)), (1, .int x1), (2, .int x2)] 29 [.int s1, .ref (ao 0)] := by
  unfold Mod_group_b29 at hf
  refine Mp0 hC kf_Mod_100 d_Mod_group_29 ?_
  refine gw_aload_n hC 0 d_Mod_group_32 rfl rfl ?_
  refine Mg0 hC kf_Mod_100 d_Mod_group_33 s1 rfl ?_
  refine gw_if_le hC 41 d_Mod_group_36 (by decide) (fun hh => ?_) (fun hh => ?_)
  · rw [if_pos hh] at hf
    exact Mod_group_p41 ao aa hC N _ _ _ _ _ hf
  · rw [if_neg hh] at hf
    refine gw_lv [0] rfl ?_
    exact Mod_group_p39 ao aa hC N _ _ _ hf
def Mod_group_b28 (N : Nat) (x1 : Int32) (x2 : Int32) (σ : g_S) : Option (Int32 × g_S) := Mod_group_b29 N x1 x2 0 σ
theorem Mod_group_p28 (ao aa : Nat → Nat) {X : g_X} (hC : gC X c_Mod_group R_Mod 1 22 3 (some .int)) (N : Nat) (x1 : Int32) (x2 : Int32) (σ : g_S) (r : Int32) (σe : g_S) (hf : Mod_group_b28 N x1 x2 σ = some (r, σe)) : gw X (.inl (some (.int r))) (LM ao aa X.2.2.1 σe) (LM ao aa X.2.2.1 σ) [(0, .ref (ao 0)), (1, .int x1), (2, .int x2)] 28 [.ref (ao 0)] := by
  unfold Mod_group_b28 at hf
  refine gw_iconst hC 0 d_Mod_group_28 (by decide) ?_
  exact Mod_group_p29 ao aa hC N _ _ _ _ _ _ hf
def Mod_group_b24 (N : Nat) (x1 : Int32) (x2 : Int32) (σ : g_S) : Option (Int32 × g_S) := Mod_group_b29 N x1 x2 1 σ
theorem Mod_group_p24 (ao aa : Nat → Nat) {X : g_X} (hC : gC X c_Mod_group R_Mod 1 22 3 (some .int)) (N : Nat) (x1 : Int32) (x2 : Int32) (σ : g_S) (r : Int32) (σe : g_S) (hf : Mod_group_b24 N x1 x2 σ = some (r, σe)) : gw X (.inl (some (.int r))) (LM ao aa X.2.2.1 σe) (LM ao aa X.2.2.1 σ) [(0, .ref (ao 0)), (1, .int x1), (2, .int x2)] 24 [.ref (ao 0)] := by
  unfold Mod_group_b24 at hf
  refine gw_iconst hC 1 d_Mod_group_24 (by decide) ?_
  refine gw_goto hC 29 d_Mod_group_25 (by decide) ?_
  exact Mod_group_p29 ao aa hC N _ _ _ _ _ _ hf
def Mod_group_b12 (N : Nat) (x1 : Int32) (x2 : Int32) (σ : g_S) : Option (Int32 × g_S) := (Mod_in N x1 0 (σ.1 9) σ).bind fun q18 => if q18.1 = 0 then Mod_group_b24 N x1 x2 q18.2 else Mod_group_b28 N x1 x2 q18.2
theorem Mod_group_p12 (ao aa : Nat → Nat) {X : g_X} (hC : gC X c_Mod_group R_Mod 1 22 3 (some .int)) (N : Nat) (x1 : Int32) (x2 : Int32) (σ : g_S) (r : Int32) (σe : g_S) (hf : Mod_group_b12 N x1 x2 σ = some (r, σe)) : gw X (.inl (some (.int r))) (LM ao aa X.2.2.1 σe) (LM ao aa X.2.2.1 σ) [(0, .ref (ao 0)), (1, .int x1), (2, .int x2)] 12 [.ref (ao 0)] := by
  unfold Mod_group_b12 at hf
  refine gw_iload_n hC 1 d_Mod_group_12 rfl rfl ?_
  refine gw_iconst hC 0 d_Mod_group_13 (by decide) ?_
  refine gw_aload_n hC 0 d_Mod_group_14 rfl rfl ?_
  refine Mg9 hC kf_Mod_141 d_Mod_group_15 (σ.1 9) rfl ?_
  obtain ⟨q18, hq18, hf⟩ := g_bind hf
  refine gw_callS hC [.int x1, .int 0, .int (σ.1 9)] [.ref (ao 0)] (Mod_in_m _ _ _ ao aa N _ _ _ _ _ _ hq18) kc_Mod_103 ⟨by decide, by decide⟩ (Nat.le_of_ble_eq_true rfl) [.int (σ.1 9), .int 0, .int x1, .ref (ao 0)] [.int q18.1, .ref (ao 0)] rfl rfl d_Mod_group_18 ?_
  refine gw_if_ne hC 28 d_Mod_group_21 (by decide) (fun hh => ?_) (fun hh => ?_)
  · rw [if_neg hh] at hf
    exact Mod_group_p28 ao aa hC N _ _ _ _ _ hf
  · rw [if_pos hh] at hf
    exact Mod_group_p24 ao aa hC N _ _ _ _ _ hf
def Mod_group_b8 (N : Nat) (x1 : Int32) (x2 : Int32) (σ : g_S) : Option (Int32 × g_S) := Mod_group_b29 N x1 x2 2 σ
theorem Mod_group_p8 (ao aa : Nat → Nat) {X : g_X} (hC : gC X c_Mod_group R_Mod 1 22 3 (some .int)) (N : Nat) (x1 : Int32) (x2 : Int32) (σ : g_S) (r : Int32) (σe : g_S) (hf : Mod_group_b8 N x1 x2 σ = some (r, σe)) : gw X (.inl (some (.int r))) (LM ao aa X.2.2.1 σe) (LM ao aa X.2.2.1 σ) [(0, .ref (ao 0)), (1, .int x1), (2, .int x2)] 8 [.ref (ao 0)] := by
  unfold Mod_group_b8 at hf
  refine gw_iconst hC 2 d_Mod_group_8 (by decide) ?_
  refine gw_goto hC 29 d_Mod_group_9 (by decide) ?_
  exact Mod_group_p29 ao aa hC N _ _ _ _ _ _ hf
def Mod_group_b0 (N : Nat) (x1 : Int32) (x2 : Int32) (σ : g_S) : Option (Int32 × g_S) := if (σ.1 15) = 0 then Mod_group_b8 N x1 x2 σ else Mod_group_b12 N x1 x2 σ
theorem Mod_group_p0 (ao aa : Nat → Nat) {X : g_X} (hC : gC X c_Mod_group R_Mod 1 22 3 (some .int)) (N : Nat) (x1 : Int32) (x2 : Int32) (σ : g_S) (r : Int32) (σe : g_S) (hf : Mod_group_b0 N x1 x2 σ = some (r, σe)) : gw X (.inl (some (.int r))) (LM ao aa X.2.2.1 σe) (LM ao aa X.2.2.1 σ) [(0, .ref (ao 0)), (1, .int x1), (2, .int x2)] 0 [] := by
  unfold Mod_group_b0 at hf
  refine gw_aload_n hC 0 d_Mod_group_0 rfl rfl ?_
  refine gw_aload_n hC 0 d_Mod_group_1 rfl rfl ?_
  refine Mg15 hC kf_Mod_222 d_Mod_group_2 (σ.1 15) rfl ?_
  refine gw_if_ne hC 12 d_Mod_group_5 (by decide) (fun hh => ?_) (fun hh => ?_)
  · rw [if_neg hh] at hf
    exact Mod_group_p12 ao aa hC N _ _ _ _ _ hf
  · rw [if_pos hh] at hf
    exact Mod_group_p8 ao aa hC N _ _ _ _ _ hf
def Mod_group (N : Nat) (x1 : Int32) (x2 : Int32) (σ : g_S) : Option (Int32 × g_S) := Mod_group_b0 N x1 x2 σ
theorem Mod_group_m (l : Launch) (D : va_G) (cA : ClassId) (ao aa : Nat → Nat) (N : Nat) (x1 : Int32) (x2 : Int32) (σ : g_S) (r : Int32) (σe : g_S) (hf : Mod_group N x1 x2 σ = some (r, σe)) : Mt l D cA y_Mod_group c_Mod_group 3 (some .int) 1 22 [.ref (ao 0), .int x1, .int x2] (LM ao aa cA σ) (some (.int r)) (LM ao aa cA σe) := by
  refine g_met (by decide +kernel) (by simp [lg_sl, Value.category]) (fun X e1 e2 e3 hC => ?_)
  subst e1 e2 e3
  refine gw_lv [0, 1, 2] rfl ?_
  exact Mod_group_p0 ao aa hC N _ _ _ (r) _ hf
def Mod_steps_b0 (N : Nat) (σ : g_S) : Option (Int32 × g_S) := some ((σ.1 16), (gF σ 0 0))
theorem Mod_steps_p0 (ao aa : Nat → Nat) {X : g_X} (hC : gC X c_Mod_steps R_Mod 0 0 1 (some .int)) (N : Nat) (σ : g_S) (r : Int32) (σe : g_S) (hf : Mod_steps_b0 N σ = some (r, σe)) : gw X (.inl (some (.int r))) (LM ao aa X.2.2.1 σe) (LM ao aa X.2.2.1 σ) [(0, .ref (ao 0))] 0 [] := by
  unfold Mod_steps_b0 at hf
  refine gw_aload_n hC 0 d_Mod_steps_0 rfl rfl ?_
  refine gw_iconst hC 0 d_Mod_steps_1 (by decide) ?_
  refine Mp0 hC kf_Mod_100 d_Mod_steps_2 ?_
  refine gw_aload_n hC 0 d_Mod_steps_5 rfl rfl ?_
  refine Mg16 hC kf_Mod_247 d_Mod_steps_6 (σ.1 16) rfl ?_
  cases hf
  exact gw_iret hC d_Mod_steps_9
def Mod_steps (N : Nat) (σ : g_S) : Option (Int32 × g_S) := Mod_steps_b0 N  σ
theorem Mod_steps_m (l : Launch) (D : va_G) (cA : ClassId) (ao aa : Nat → Nat) (N : Nat) (σ : g_S) (r : Int32) (σe : g_S) (hf : Mod_steps N σ = some (r, σe)) : Mt l D cA y_Mod_steps c_Mod_steps 1 (some .int) 0 0 [.ref (ao 0)] (LM ao aa cA σ) (some (.int r)) (LM ao aa cA σe) := by
  refine g_met (by decide +kernel) (by simp [lg_sl, Value.category]) (fun X e1 e2 e3 hC => ?_)
  subst e1 e2 e3
  refine gw_lv [0] rfl ?_
  exact Mod_steps_p0 ao aa hC N _ (r) _ hf
