def g_QH (D : va_G) (cA cL : ClassId) (A : Nat → Prop) (k : Int32) (ws' : va_W) : Array Value → State → Outcome → State → Prop := fun _ st oc t =>
  (oc = .returned (some (.int k)) ∧ va_P D vwCl ws' t.heap ∧ va_K D vwCl [(cA, .int), (cL, .long)] t ∧ va_D A ws') ∧ va_F A st t
def MtH (l : Launch) (D : va_G) (cA cL : ClassId) (y : MethodName) (cc : ByteArray) (nL : Nat) (hh : List (Nat × Nat × Nat × Nat)) (d L : Nat) (as : List Value) (ws : va_W) (k : Int32) (ws' : va_W) : Prop :=
  ∀ sz : Nat, Met l y (.codeWith y cc nL (some .int) hh :: g_TB) (g_rmX d L) (va_Pc as (fun U => U.heap.size = sz ∧ va_P D vwCl ws U.heap ∧ va_K D vwCl [(cA, .int), (cL, .long)] U ∧ va_D (fun _ => True) ws ∧ g_St (va_A ws sz) U U.heap ∧ va_Nc g_ISE g_IAE U))
    (g_QH D cA cL (va_A ws sz) k ws') 1 6 (va_A ws sz)
theorem g_metH {l : Launch} {D : va_G} {cA cL : ClassId} {y : MethodName} {as : List Value} {k : Int32} {ws' ws : va_W} {cc : ByteArray} {d L nL : Nat} {hh : List (Nat × Nat × Nat × Nat)} (hy : plainName y.cls = true) (hn : (lg_sl as).length ≤ nL)
    (body : ∀ X : g_L, X.1.2.1 = l → X.2.1 = D → X.2.2.1 = cA → X.2.2.2.1 = cL → X.2.2.2.2.2.2 = MQ X.1.2.2.2.2.2.2.2.1 (g_QH D cA cL X.2.2.2.2.1 k ws') X.1.2.2.2.2.2.2.1 X.1.2.2.2.2.1 1 6 X.2.2.2.2.1 → gCL X cc y.cls d L nL (some .int) → g_St X.2.2.2.2.1 X.1.2.2.2.2.1 X.1.2.2.2.2.1.heap → va_Nc g_ISE g_IAE X.1.2.2.2.2.1 → 1 ≤ X.1.2.2.2.1.cells ∧ 6 ≤ X.1.2.2.2.1.slots →
      X.1.2.2.2.2.2.2.2.2.2.exceptionTable.toList.map (fun h => (h.startPc, h.endPc, h.handlerPc, h.catchType)) = hh → gl X (0, 0) ws (lv_args 0 as) 0 []) : MtH l D cA cL y cc nL hh d L as ws k ws' := by
  intro sz
  refine va_MetW (cc := cc) (maxL := nL) (ret := some .int) (hh := hh) hy rfl ?_
  intro p e s m args below meth c s₁ B hml hv
  obtain ⟨rfl, hsz, hP, hK, hD0, hst, hnc⟩ := hv
  have hts := atoms_spec (ws := .codeWith y cc nL (some .int) hh :: g_TB) B.pre
  subst hsz
  obtain ⟨m9, meth9, c9, hn9, h1, h2, -, -, h5, -⟩ := Cond.codeWith_spec (hts _ List.mem_cons_self)
  cases hn9.symm.trans B.named
  cases h1.symm.trans B.method
  cases h2.symm.trans (Stand.of_body B).code
  have h := body ((p, l, e, g_rmX d L, s, m, as.toArray, below, meth, c), D, cA, cL, va_A ws s.heap.size, nL, MQ below (g_QH D cA cL (va_A ws s.heap.size) k ws') as.toArray s 1 6 (va_A ws s.heap.size)) rfl rfl rfl rfl rfl
    ⟨B.exec, B.bytes, hml, findClass_of_methodNamed B.named, fun w hw => hts w (List.mem_cons_of_mem _ hw), hK, fun q h => Or.inr h, B.returns, B.notSynchronized, rfl, Nat.le_refl _, Nat.le_refl _⟩ hst hnc ⟨Nat.le_refl _, Nat.le_refl _⟩ h5
  rw [lg_entry_eq]
  exact h s.heap [] _ hP hD0.self va_S.rf (lv_entry as hn)
theorem gl_hret {X : g_L} {cs : Nat × Nat} {ws : va_W} {lv : List (Nat × Value)} {pc : Nat} {cc : ByteArray} {own : String} {d L nL : Nat} (hC : gCL X cc own d L nL (some .int)) {k : Int32} (hQ : X.2.2.2.2.2.2 = MQ X.1.2.2.2.2.2.2.2.1 (g_QH X.2.1 X.2.2.1 X.2.2.2.1 X.2.2.2.2.1 k ws) X.1.2.2.2.2.2.2.1 X.1.2.2.2.2.1 1 6 X.2.2.2.2.1) (hcs : cs.1 ≤ 1 ∧ cs.2 ≤ 6) (hd : decode cc pc = .ok (.ireturn, 1)) : gl X cs ws lv pc [.int k] := by
  intro H locs ls hP hD hS hl
  refine W.widen hcs.1 hcs.2 ?_
  rw [hQ]
  exact W.iret hC.1 hC.2.1 hC.2.2.2.2.2.2.2.1 (fun t ht hW => ⟨⟨rfl, by rw [ht]; exact hP, va_K.moved hW.alike hC.2.2.2.2.2.1, hD⟩, hS.F ht⟩) hS.2.2 hd hC.2.2.2.2.2.2.2.2.1
def g_out (qo : Nat) (cL : ClassId) (f : Nat → Int64) : va_W := [(qo, .inl (cL, 1, .inr (.inl f)))]
theorem g_lay_len {O : (Nat → Int32) → va_W} {nA : Nat} {len aa : Nat → Nat} {cA : ClassId} {σ : g_S} {n : Nat} (hn : (O σ.1).length = n) : (g_lay O nA len aa cA σ).length = n + nA := by simp [g_lay, hn]
theorem g_lay_objE {O : (Nat → Int32) → va_W} {nA : Nat} {len aa : Nat → Nat} {cA : ClassId} {σ : g_S} {q : Nat} {x : Nat × va_E} {E : va_W} (h : (O σ.1)[q]? = some x) : (g_lay O nA len aa cA σ ++ E)[q]? = some x := by
  have hq : q < (g_lay O nA len aa cA σ).length := (List.getElem?_eq_some_iff.mp (g_lay_obj h)).1
  rw [List.getElem?_append_left hq]
  exact g_lay_obj h
theorem g_outAt {a : va_W} {n qo : Nat} {cL : ClassId} {f : Nat → Int64} (hn : a.length = n) : (a ++ g_out qo cL f)[n]? = some (qo, .inl (cL, 1, .inr (.inl f))) := by
  subst hn
  rw [List.getElem?_append_right (Nat.le_refl _), Nat.sub_self]
  rfl
theorem g_outSet {a : va_W} {n qo : Nat} {cL : ClassId} {f g : Nat → Int64} (hn : a.length = n) : (a ++ g_out qo cL f).set n (qo, .inl (cL, 1, .inr (.inl g))) = a ++ g_out qo cL g := by
  subst hn
  rw [List.set_append_right _ _ (Nat.le_refl _), Nat.sub_self]
  rfl
/-- what a helper answers, and what it writes down -/
def g_hk : g_R → Int32
  | .inl _ => 0
  | .inr false => 1
  | .inr true => 2
def g_hf (r : g_R) (f : Nat → Int64) : Nat → Int64 := match r with
  | .inl v => vp_updL f (0 : Int32).toNatClampNeg v.toInt64
  | .inr _ => f
theorem g_in0 : vp_in (0 : Int32) 1 := by
  intro h
  rcases h with h | h
  · exact absurd h (by decide)
  · exact absurd h (by decide)
def R_Law : String := "PatternDeskLaw"
abbrev c_Law_put : ByteArray := method_3_code
def y_Law_put : MethodName := ⟨R_Law, "put", "(LPatternDesk;JI[J)I"⟩
abbrev c_Law_pattern : ByteArray := method_4_code
def y_Law_pattern : MethodName := ⟨R_Law, "pattern", "(LPatternDesk;ZZ[J)I"⟩
abbrev c_Law_match : ByteArray := method_5_code
def y_Law_match : MethodName := ⟨R_Law, "match", "(LPatternDesk;II[J)I"⟩
abbrev c_Law_find : ByteArray := method_6_code
def y_Law_find : MethodName := ⟨R_Law, "find", "(LPatternDesk;II[J)I"⟩
abbrev c_Law_group : ByteArray := method_7_code
def y_Law_group : MethodName := ⟨R_Law, "group", "(LPatternDesk;IZ[J)I"⟩
theorem kc_Law_7 : g_okV R_Law 7 y_Desk_put c_Desk_put 6 (some .int) 2 := ⟨g_mem (List.mem_append_right _ (List.mem_append_right _ (List.mem_append_left _ (List.mem_of_getElem? (i := 44) rfl)))) rfl, g_mem (List.mem_append_right _ (List.mem_append_left _ (List.mem_of_getElem? (i := 1) (by decide +kernel)))) rfl, g_mem (List.mem_append_right _ (List.mem_append_right _ (List.mem_append_left _ (List.mem_of_getElem? (i := 41) (by decide +kernel))))) rfl, g_mem (List.mem_append_right _ (List.mem_append_right _ (List.mem_append_left _ (List.mem_of_getElem? (i := 42) (by decide +kernel))))) rfl, g_mem (List.mem_append_right _ (List.mem_append_right _ (List.mem_append_left _ (List.mem_of_getElem? (i := 43) (by decide +kernel))))) rfl, by decide +kernel, by decide +kernel, by decide +kernel⟩
theorem kc_Law_17 : g_okV R_Law 17 y_Desk_pattern c_Desk_pattern 4 (some .int) 2 := ⟨g_mem (List.mem_append_right _ (List.mem_append_right _ (List.mem_append_left _ (List.mem_of_getElem? (i := 136) rfl)))) rfl, g_mem (List.mem_append_right _ (List.mem_append_left _ (List.mem_of_getElem? (i := 1) (by decide +kernel)))) rfl, g_mem (List.mem_append_right _ (List.mem_append_right _ (List.mem_append_left _ (List.mem_of_getElem? (i := 133) (by decide +kernel))))) rfl, g_mem (List.mem_append_right _ (List.mem_append_right _ (List.mem_append_left _ (List.mem_of_getElem? (i := 134) (by decide +kernel))))) rfl, g_mem (List.mem_append_right _ (List.mem_append_right _ (List.mem_append_left _ (List.mem_of_getElem? (i := 135) (by decide +kernel))))) rfl, by decide +kernel, by decide +kernel, by decide +kernel⟩
theorem kc_Law_21 : g_okV R_Law 21 y_Desk_match c_Desk_match 3 (some .int) 2 := ⟨g_mem (List.mem_append_right _ (List.mem_append_right _ (List.mem_append_right _ (List.mem_append_left _ (List.mem_of_getElem? (i := 57) rfl))))) rfl, g_mem (List.mem_append_right _ (List.mem_append_left _ (List.mem_of_getElem? (i := 1) (by decide +kernel)))) rfl, g_mem (List.mem_append_right _ (List.mem_append_right _ (List.mem_append_right _ (List.mem_append_left _ (List.mem_of_getElem? (i := 54) (by decide +kernel)))))) rfl, g_mem (List.mem_append_right _ (List.mem_append_right _ (List.mem_append_right _ (List.mem_append_left _ (List.mem_of_getElem? (i := 55) (by decide +kernel)))))) rfl, g_mem (List.mem_append_right _ (List.mem_append_right _ (List.mem_append_right _ (List.mem_append_left _ (List.mem_of_getElem? (i := 56) (by decide +kernel)))))) rfl, by decide +kernel, by decide +kernel, by decide +kernel⟩
theorem kc_Law_25 : g_okV R_Law 25 y_Desk_find c_Desk_find 5 (some .int) 2 := ⟨g_mem (List.mem_append_right _ (List.mem_append_right _ (List.mem_append_right _ (List.mem_append_left _ (List.mem_of_getElem? (i := 168) rfl))))) rfl, g_mem (List.mem_append_right _ (List.mem_append_left _ (List.mem_of_getElem? (i := 1) (by decide +kernel)))) rfl, g_mem (List.mem_append_right _ (List.mem_append_right _ (List.mem_append_right _ (List.mem_append_left _ (List.mem_of_getElem? (i := 165) (by decide +kernel)))))) rfl, g_mem (List.mem_append_right _ (List.mem_append_right _ (List.mem_append_right _ (List.mem_append_left _ (List.mem_of_getElem? (i := 166) (by decide +kernel)))))) rfl, g_mem (List.mem_append_right _ (List.mem_append_right _ (List.mem_append_right _ (List.mem_append_left _ (List.mem_of_getElem? (i := 167) (by decide +kernel)))))) rfl, by decide +kernel, by decide +kernel, by decide +kernel⟩
theorem kc_Law_28 : g_okV R_Law 28 y_Desk_group c_Desk_group 3 (some .int) 2 := ⟨g_mem (List.mem_append_right _ (List.mem_append_right _ (List.mem_append_right _ (List.mem_append_left _ (List.mem_of_getElem? (i := 175) rfl))))) rfl, g_mem (List.mem_append_right _ (List.mem_append_left _ (List.mem_of_getElem? (i := 1) (by decide +kernel)))) rfl, g_mem (List.mem_append_right _ (List.mem_append_right _ (List.mem_append_right _ (List.mem_append_left _ (List.mem_of_getElem? (i := 172) (by decide +kernel)))))) rfl, g_mem (List.mem_append_right _ (List.mem_append_right _ (List.mem_append_right _ (List.mem_append_left _ (List.mem_of_getElem? (i := 173) (by decide +kernel)))))) rfl, g_mem (List.mem_append_right _ (List.mem_append_right _ (List.mem_append_right _ (List.mem_append_left _ (List.mem_of_getElem? (i := 174) (by decide +kernel)))))) rfl, by decide +kernel, by decide +kernel, by decide +kernel⟩
theorem kl_Law_13 : Cond.classLink R_Law 13 "java/lang/IllegalArgumentException" ∈ g_TB := g_mem (List.mem_append_right _ (List.mem_append_right _ (List.mem_append_left _ (List.mem_of_getElem? (i := 39) (by decide +kernel))))) rfl
theorem kl_Law_15 : Cond.classLink R_Law 15 "java/lang/IllegalStateException" ∈ g_TB := g_mem (List.mem_append_right _ (List.mem_append_right _ (List.mem_append_left _ (List.mem_of_getElem? (i := 40) (by decide +kernel))))) rfl
theorem d_Law_put_0 : decode c_Law_put 0 = .ok (.aload 4, 2) := by decide +kernel
theorem d_Law_put_2 : decode c_Law_put 2 = .ok (.iconst 0, 1) := by decide +kernel
theorem d_Law_put_3 : decode c_Law_put 3 = .ok (.aload_n 0, 1) := by decide +kernel
theorem d_Law_put_4 : decode c_Law_put 4 = .ok (.lload_n 1, 1) := by decide +kernel
theorem d_Law_put_5 : decode c_Law_put 5 = .ok (.iload_n 3, 1) := by decide +kernel
theorem d_Law_put_6 : decode c_Law_put 6 = .ok (.invokevirtual 7, 3) := by decide +kernel
theorem d_Law_put_9 : decode c_Law_put 9 = .ok (.i2l, 1) := by decide +kernel
theorem d_Law_put_10 : decode c_Law_put 10 = .ok (.lastore, 1) := by decide +kernel
theorem d_Law_put_11 : decode c_Law_put 11 = .ok (.goto 11, 3) := by decide +kernel
theorem d_Law_put_14 : decode c_Law_put 14 = .ok (.astore 5, 2) := by decide +kernel
theorem d_Law_put_16 : decode c_Law_put 16 = .ok (.iconst 1, 1) := by decide +kernel
theorem d_Law_put_17 : decode c_Law_put 17 = .ok (.ireturn, 1) := by decide +kernel
theorem d_Law_put_18 : decode c_Law_put 18 = .ok (.astore 5, 2) := by decide +kernel
theorem d_Law_put_20 : decode c_Law_put 20 = .ok (.iconst 2, 1) := by decide +kernel
theorem d_Law_put_21 : decode c_Law_put 21 = .ok (.ireturn, 1) := by decide +kernel
theorem d_Law_put_22 : decode c_Law_put 22 = .ok (.iconst 0, 1) := by decide +kernel
theorem d_Law_put_23 : decode c_Law_put 23 = .ok (.ireturn, 1) := by decide +kernel
theorem d_Law_pattern_0 : decode c_Law_pattern 0 = .ok (.aload_n 3, 1) := by decide +kernel
theorem d_Law_pattern_1 : decode c_Law_pattern 1 = .ok (.iconst 0, 1) := by decide +kernel
theorem d_Law_pattern_2 : decode c_Law_pattern 2 = .ok (.aload_n 0, 1) := by decide +kernel
theorem d_Law_pattern_3 : decode c_Law_pattern 3 = .ok (.iload_n 1, 1) := by decide +kernel
theorem d_Law_pattern_4 : decode c_Law_pattern 4 = .ok (.iload_n 2, 1) := by decide +kernel
theorem d_Law_pattern_5 : decode c_Law_pattern 5 = .ok (.invokevirtual 17, 3) := by decide +kernel
theorem d_Law_pattern_8 : decode c_Law_pattern 8 = .ok (.i2l, 1) := by decide +kernel
theorem d_Law_pattern_9 : decode c_Law_pattern 9 = .ok (.lastore, 1) := by decide +kernel
theorem d_Law_pattern_10 : decode c_Law_pattern 10 = .ok (.goto 7, 3) := by decide +kernel
theorem d_Law_pattern_13 : decode c_Law_pattern 13 = .ok (.astore 4, 2) := by decide +kernel
theorem d_Law_pattern_15 : decode c_Law_pattern 15 = .ok (.iconst 1, 1) := by decide +kernel
theorem d_Law_pattern_16 : decode c_Law_pattern 16 = .ok (.ireturn, 1) := by decide +kernel
theorem d_Law_pattern_17 : decode c_Law_pattern 17 = .ok (.iconst 0, 1) := by decide +kernel
theorem d_Law_pattern_18 : decode c_Law_pattern 18 = .ok (.ireturn, 1) := by decide +kernel
theorem d_Law_match_0 : decode c_Law_match 0 = .ok (.aload_n 3, 1) := by decide +kernel
theorem d_Law_match_1 : decode c_Law_match 1 = .ok (.iconst 0, 1) := by decide +kernel
theorem d_Law_match_2 : decode c_Law_match 2 = .ok (.aload_n 0, 1) := by decide +kernel
theorem d_Law_match_3 : decode c_Law_match 3 = .ok (.iload_n 1, 1) := by decide +kernel
theorem d_Law_match_4 : decode c_Law_match 4 = .ok (.iload_n 2, 1) := by decide +kernel
theorem d_Law_match_5 : decode c_Law_match 5 = .ok (.invokevirtual 21, 3) := by decide +kernel
theorem d_Law_match_8 : decode c_Law_match 8 = .ok (.i2l, 1) := by decide +kernel
theorem d_Law_match_9 : decode c_Law_match 9 = .ok (.lastore, 1) := by decide +kernel
theorem d_Law_match_10 : decode c_Law_match 10 = .ok (.goto 11, 3) := by decide +kernel
theorem d_Law_match_13 : decode c_Law_match 13 = .ok (.astore 4, 2) := by decide +kernel
theorem d_Law_match_15 : decode c_Law_match 15 = .ok (.iconst 1, 1) := by decide +kernel
theorem d_Law_match_16 : decode c_Law_match 16 = .ok (.ireturn, 1) := by decide +kernel
theorem d_Law_match_17 : decode c_Law_match 17 = .ok (.astore 4, 2) := by decide +kernel
theorem d_Law_match_19 : decode c_Law_match 19 = .ok (.iconst 2, 1) := by decide +kernel
theorem d_Law_match_20 : decode c_Law_match 20 = .ok (.ireturn, 1) := by decide +kernel
theorem d_Law_match_21 : decode c_Law_match 21 = .ok (.iconst 0, 1) := by decide +kernel
theorem d_Law_match_22 : decode c_Law_match 22 = .ok (.ireturn, 1) := by decide +kernel
theorem d_Law_find_0 : decode c_Law_find 0 = .ok (.aload_n 3, 1) := by decide +kernel
theorem d_Law_find_1 : decode c_Law_find 1 = .ok (.iconst 0, 1) := by decide +kernel
theorem d_Law_find_2 : decode c_Law_find 2 = .ok (.aload_n 0, 1) := by decide +kernel
theorem d_Law_find_3 : decode c_Law_find 3 = .ok (.iload_n 1, 1) := by decide +kernel
theorem d_Law_find_4 : decode c_Law_find 4 = .ok (.iload_n 2, 1) := by decide +kernel
theorem d_Law_find_5 : decode c_Law_find 5 = .ok (.invokevirtual 25, 3) := by decide +kernel
theorem d_Law_find_8 : decode c_Law_find 8 = .ok (.i2l, 1) := by decide +kernel
theorem d_Law_find_9 : decode c_Law_find 9 = .ok (.lastore, 1) := by decide +kernel
theorem d_Law_find_10 : decode c_Law_find 10 = .ok (.goto 11, 3) := by decide +kernel
theorem d_Law_find_13 : decode c_Law_find 13 = .ok (.astore 4, 2) := by decide +kernel
theorem d_Law_find_15 : decode c_Law_find 15 = .ok (.iconst 1, 1) := by decide +kernel
theorem d_Law_find_16 : decode c_Law_find 16 = .ok (.ireturn, 1) := by decide +kernel
theorem d_Law_find_17 : decode c_Law_find 17 = .ok (.astore 4, 2) := by decide +kernel
theorem d_Law_find_19 : decode c_Law_find 19 = .ok (.iconst 2, 1) := by decide +kernel
theorem d_Law_find_20 : decode c_Law_find 20 = .ok (.ireturn, 1) := by decide +kernel
theorem d_Law_find_21 : decode c_Law_find 21 = .ok (.iconst 0, 1) := by decide +kernel
theorem d_Law_find_22 : decode c_Law_find 22 = .ok (.ireturn, 1) := by decide +kernel
theorem d_Law_group_0 : decode c_Law_group 0 = .ok (.aload_n 3, 1) := by decide +kernel
theorem d_Law_group_1 : decode c_Law_group 1 = .ok (.iconst 0, 1) := by decide +kernel
theorem d_Law_group_2 : decode c_Law_group 2 = .ok (.aload_n 0, 1) := by decide +kernel
theorem d_Law_group_3 : decode c_Law_group 3 = .ok (.iload_n 1, 1) := by decide +kernel
theorem d_Law_group_4 : decode c_Law_group 4 = .ok (.iload_n 2, 1) := by decide +kernel
theorem d_Law_group_5 : decode c_Law_group 5 = .ok (.invokevirtual 28, 3) := by decide +kernel
theorem d_Law_group_8 : decode c_Law_group 8 = .ok (.i2l, 1) := by decide +kernel
theorem d_Law_group_9 : decode c_Law_group 9 = .ok (.lastore, 1) := by decide +kernel
theorem d_Law_group_10 : decode c_Law_group 10 = .ok (.goto 11, 3) := by decide +kernel
theorem d_Law_group_13 : decode c_Law_group 13 = .ok (.astore 4, 2) := by decide +kernel
theorem d_Law_group_15 : decode c_Law_group 15 = .ok (.iconst 1, 1) := by decide +kernel
theorem d_Law_group_16 : decode c_Law_group 16 = .ok (.ireturn, 1) := by decide +kernel
theorem d_Law_group_17 : decode c_Law_group 17 = .ok (.astore 4, 2) := by decide +kernel
theorem d_Law_group_19 : decode c_Law_group 19 = .ok (.iconst 2, 1) := by decide +kernel
theorem d_Law_group_20 : decode c_Law_group 20 = .ok (.ireturn, 1) := by decide +kernel
theorem d_Law_group_21 : decode c_Law_group 21 = .ok (.iconst 0, 1) := by decide +kernel
theorem d_Law_group_22 : decode c_Law_group 22 = .ok (.ireturn, 1) := by decide +kernel
theorem H_put (l : Launch) (hfl : l.flags = flags0) (D : va_G) (cA cL : ClassId) (ao aa : Nat → Nat) (qo N : Nat) (x1 : Int64) (x3 : Int32) (σ : g_S) (r : g_R) (σe : g_S) (f : Nat → Int64) (hf : Desk_put N x1 x3 σ = some (r, σe)) : MtH l D cA cL y_Law_put c_Law_put 6 [(0, 11, 14, 13), (0, 11, 18, 15)] 7 115 [.ref (ao 0), .long x1, .int x3, .ref qo] (LC ao aa cA σ ++ g_out qo cL f) (g_hk r) (LC ao aa cA σe ++ g_out qo cL (g_hf r f)) := by
  refine g_metH (by decide +kernel) (by simp [lg_sl, Value.category]) (fun X e1 e2 e3 e4 hQ hC hst hnc hRc htab => ?_)
  subst e1 e2 e3 e4
  refine gl_lv [0, 1, 2, 3] rfl ?_
  refine gl_aload hC 3 d_Law_put_0 rfl ?_
  refine gl_iconst hC 0 d_Law_put_2 (by decide) ?_
  refine gl_aload_n hC 0 d_Law_put_3 rfl rfl ?_
  refine gl_lload_n hC 1 d_Law_put_4 rfl rfl ?_
  refine gl_iload_n hC 2 d_Law_put_5 rfl rfl ?_
  cases r with
  | inl v =>
    refine gl_callV hC [.long x1, .int x3] [.int 0, .ref qo] ((Desk_put_m _ _ _ ao aa N x1 x3 σ v σe hf).frame _) kc_Law_7 0 (g_lay_objE rfl) rfl rfl ⟨by decide, by decide⟩ ⟨Nat.zero_le _, Nat.zero_le _⟩ (Nat.le_of_ble_eq_true rfl) [.int x3, .long x1, .ref (ao 0), .int 0, .ref qo] [.int v, .int 0, .ref qo] rfl rfl d_Law_put_6 ?_
    refine gl_i2l hC d_Law_put_9 ?_
    refine gl_last hC 29 (g_outAt (g_lay_len LC_n)) g_in0 _ (g_outSet (g_lay_len LC_n)) d_Law_put_10 ?_
    refine gl_goto hC 22 d_Law_put_11 (by decide) ?_
    refine gl_iconst hC 0 d_Law_put_22 (by decide) ?_
    exact gl_hret hC hQ ⟨Nat.zero_le _, Nat.zero_le _⟩ d_Law_put_23
  | inr b =>
    cases b with
    | false =>
      refine gl_callT hC hst hnc [.long x1, .int x3] [.int 0, .ref qo] ((Desk_put_t _ hfl _ _ ao aa N x1 x3 σ false σe hf).frame _) kc_Law_7 0 (g_lay_objE rfl) rfl rfl ⟨by decide, by decide⟩ hRc (Nat.le_of_ble_eq_true rfl) [.int x3, .long x1, .ref (ao 0), .int 0, .ref qo] rfl d_Law_put_6 (g_cat1 hC htab (by decide) (by decide) kl_Law_13) (fun x => ?_)
      refine gl_astore hC [(5, .ref x), (0, .ref (ao 0)), (1, .long x1), (3, .int x3), (4, .ref qo)] d_Law_put_14 (by decide) rfl ?_
      refine gl_iconst hC 1 d_Law_put_16 (by decide) ?_
      exact gl_hret hC hQ ⟨Nat.le_refl _, Nat.le_refl _⟩ d_Law_put_17
    | true =>
      refine gl_callT hC hst hnc [.long x1, .int x3] [.int 0, .ref qo] ((Desk_put_t _ hfl _ _ ao aa N x1 x3 σ true σe hf).frame _) kc_Law_7 0 (g_lay_objE rfl) rfl rfl ⟨by decide, by decide⟩ hRc (Nat.le_of_ble_eq_true rfl) [.int x3, .long x1, .ref (ao 0), .int 0, .ref qo] rfl d_Law_put_6 (g_cat2 hC htab (by decide) (by decide) (by decide) (by decide) kl_Law_13 kl_Law_15) (fun x => ?_)
      refine gl_astore hC [(5, .ref x), (0, .ref (ao 0)), (1, .long x1), (3, .int x3), (4, .ref qo)] d_Law_put_18 (by decide) rfl ?_
      refine gl_iconst hC 2 d_Law_put_20 (by decide) ?_
      exact gl_hret hC hQ ⟨Nat.le_refl _, Nat.le_refl _⟩ d_Law_put_21
theorem H_pattern (l : Launch) (hfl : l.flags = flags0) (D : va_G) (cA cL : ClassId) (ao aa : Nat → Nat) (qo N : Nat) (x1 : Int32) (x2 : Int32) (σ : g_S) (r : g_R) (σe : g_S) (f : Nat → Int64) (hf : Desk_pattern N x1 x2 σ = some (r, σe)) (hb : r ≠ .inr true) : MtH l D cA cL y_Law_pattern c_Law_pattern 5 [(0, 10, 13, 13)] 8 177 [.ref (ao 0), .int x1, .int x2, .ref qo] (LC ao aa cA σ ++ g_out qo cL f) (g_hk r) (LC ao aa cA σe ++ g_out qo cL (g_hf r f)) := by
  refine g_metH (by decide +kernel) (by simp [lg_sl, Value.category]) (fun X e1 e2 e3 e4 hQ hC hst hnc hRc htab => ?_)
  subst e1 e2 e3 e4
  refine gl_lv [0, 1, 2, 3] rfl ?_
  refine gl_aload_n hC 3 d_Law_pattern_0 rfl rfl ?_
  refine gl_iconst hC 0 d_Law_pattern_1 (by decide) ?_
  refine gl_aload_n hC 0 d_Law_pattern_2 rfl rfl ?_
  refine gl_iload_n hC 1 d_Law_pattern_3 rfl rfl ?_
  refine gl_iload_n hC 2 d_Law_pattern_4 rfl rfl ?_
  cases r with
  | inl v =>
    refine gl_callV hC [.int x1, .int x2] [.int 0, .ref qo] ((Desk_pattern_m _ _ _ ao aa N x1 x2 σ v σe hf).frame _) kc_Law_17 0 (g_lay_objE rfl) rfl rfl ⟨by decide, by decide⟩ ⟨Nat.zero_le _, Nat.zero_le _⟩ (Nat.le_of_ble_eq_true rfl) [.int x2, .int x1, .ref (ao 0), .int 0, .ref qo] [.int v, .int 0, .ref qo] rfl rfl d_Law_pattern_5 ?_
    refine gl_i2l hC d_Law_pattern_8 ?_
    refine gl_last hC 29 (g_outAt (g_lay_len LC_n)) g_in0 _ (g_outSet (g_lay_len LC_n)) d_Law_pattern_9 ?_
    refine gl_goto hC 17 d_Law_pattern_10 (by decide) ?_
    refine gl_iconst hC 0 d_Law_pattern_17 (by decide) ?_
    exact gl_hret hC hQ ⟨Nat.zero_le _, Nat.zero_le _⟩ d_Law_pattern_18
  | inr b =>
    cases b with
    | false =>
      refine gl_callT hC hst hnc [.int x1, .int x2] [.int 0, .ref qo] ((Desk_pattern_t _ hfl _ _ ao aa N x1 x2 σ false σe hf).frame _) kc_Law_17 0 (g_lay_objE rfl) rfl rfl ⟨by decide, by decide⟩ hRc (Nat.le_of_ble_eq_true rfl) [.int x2, .int x1, .ref (ao 0), .int 0, .ref qo] rfl d_Law_pattern_5 (g_cat1 hC htab (by decide) (by decide) kl_Law_13) (fun x => ?_)
      refine gl_astore hC [(4, .ref x), (0, .ref (ao 0)), (1, .int x1), (2, .int x2), (3, .ref qo)] d_Law_pattern_13 (by decide) rfl ?_
      refine gl_iconst hC 1 d_Law_pattern_15 (by decide) ?_
      exact gl_hret hC hQ ⟨Nat.le_refl _, Nat.le_refl _⟩ d_Law_pattern_16
    | true =>
      exact absurd rfl hb
theorem H_match (l : Launch) (hfl : l.flags = flags0) (D : va_G) (cA cL : ClassId) (ao aa : Nat → Nat) (qo N : Nat) (x1 : Int32) (x2 : Int32) (σ : g_S) (r : g_R) (σe : g_S) (f : Nat → Int64) (hf : Desk_match N x1 x2 σ = some (r, σe)) : MtH l D cA cL y_Law_match c_Law_match 5 [(0, 10, 13, 13), (0, 10, 17, 15)] 8 182 [.ref (ao 0), .int x1, .int x2, .ref qo] (LC ao aa cA σ ++ g_out qo cL f) (g_hk r) (LC ao aa cA σe ++ g_out qo cL (g_hf r f)) := by
  refine g_metH (by decide +kernel) (by simp [lg_sl, Value.category]) (fun X e1 e2 e3 e4 hQ hC hst hnc hRc htab => ?_)
  subst e1 e2 e3 e4
  refine gl_lv [0, 1, 2, 3] rfl ?_
  refine gl_aload_n hC 3 d_Law_match_0 rfl rfl ?_
  refine gl_iconst hC 0 d_Law_match_1 (by decide) ?_
  refine gl_aload_n hC 0 d_Law_match_2 rfl rfl ?_
  refine gl_iload_n hC 1 d_Law_match_3 rfl rfl ?_
  refine gl_iload_n hC 2 d_Law_match_4 rfl rfl ?_
  cases r with
  | inl v =>
    refine gl_callV hC [.int x1, .int x2] [.int 0, .ref qo] ((Desk_match_m _ _ _ ao aa N x1 x2 σ v σe hf).frame _) kc_Law_21 0 (g_lay_objE rfl) rfl rfl ⟨by decide, by decide⟩ ⟨Nat.zero_le _, Nat.zero_le _⟩ (Nat.le_of_ble_eq_true rfl) [.int x2, .int x1, .ref (ao 0), .int 0, .ref qo] [.int v, .int 0, .ref qo] rfl rfl d_Law_match_5 ?_
    refine gl_i2l hC d_Law_match_8 ?_
    refine gl_last hC 29 (g_outAt (g_lay_len LC_n)) g_in0 _ (g_outSet (g_lay_len LC_n)) d_Law_match_9 ?_
    refine gl_goto hC 21 d_Law_match_10 (by decide) ?_
    refine gl_iconst hC 0 d_Law_match_21 (by decide) ?_
    exact gl_hret hC hQ ⟨Nat.zero_le _, Nat.zero_le _⟩ d_Law_match_22
  | inr b =>
    cases b with
    | false =>
      refine gl_callT hC hst hnc [.int x1, .int x2] [.int 0, .ref qo] ((Desk_match_t _ hfl _ _ ao aa N x1 x2 σ false σe hf).frame _) kc_Law_21 0 (g_lay_objE rfl) rfl rfl ⟨by decide, by decide⟩ hRc (Nat.le_of_ble_eq_true rfl) [.int x2, .int x1, .ref (ao 0), .int 0, .ref qo] rfl d_Law_match_5 (g_cat1 hC htab (by decide) (by decide) kl_Law_13) (fun x => ?_)
      refine gl_astore hC [(4, .ref x), (0, .ref (ao 0)), (1, .int x1), (2, .int x2), (3, .ref qo)] d_Law_match_13 (by decide) rfl ?_
      refine gl_iconst hC 1 d_Law_match_15 (by decide) ?_
      exact gl_hret hC hQ ⟨Nat.le_refl _, Nat.le_refl _⟩ d_Law_match_16
    | true =>
      refine gl_callT hC hst hnc [.int x1, .int x2] [.int 0, .ref qo] ((Desk_match_t _ hfl _ _ ao aa N x1 x2 σ true σe hf).frame _) kc_Law_21 0 (g_lay_objE rfl) rfl rfl ⟨by decide, by decide⟩ hRc (Nat.le_of_ble_eq_true rfl) [.int x2, .int x1, .ref (ao 0), .int 0, .ref qo] rfl d_Law_match_5 (g_cat2 hC htab (by decide) (by decide) (by decide) (by decide) kl_Law_13 kl_Law_15) (fun x => ?_)
      refine gl_astore hC [(4, .ref x), (0, .ref (ao 0)), (1, .int x1), (2, .int x2), (3, .ref qo)] d_Law_match_17 (by decide) rfl ?_
      refine gl_iconst hC 2 d_Law_match_19 (by decide) ?_
      exact gl_hret hC hQ ⟨Nat.le_refl _, Nat.le_refl _⟩ d_Law_match_20
theorem H_find (l : Launch) (hfl : l.flags = flags0) (D : va_G) (cA cL : ClassId) (ao aa : Nat → Nat) (qo N : Nat) (x1 : Int32) (x2 : Int32) (σ : g_S) (r : g_R) (σe : g_S) (f : Nat → Int64) (hf : Desk_find N x1 x2 σ = some (r, σe)) : MtH l D cA cL y_Law_find c_Law_find 5 [(0, 10, 13, 13), (0, 10, 17, 15)] 8 184 [.ref (ao 0), .int x1, .int x2, .ref qo] (LC ao aa cA σ ++ g_out qo cL f) (g_hk r) (LC ao aa cA σe ++ g_out qo cL (g_hf r f)) := by
  refine g_metH (by decide +kernel) (by simp [lg_sl, Value.category]) (fun X e1 e2 e3 e4 hQ hC hst hnc hRc htab => ?_)
  subst e1 e2 e3 e4
  refine gl_lv [0, 1, 2, 3] rfl ?_
  refine gl_aload_n hC 3 d_Law_find_0 rfl rfl ?_
  refine gl_iconst hC 0 d_Law_find_1 (by decide) ?_
  refine gl_aload_n hC 0 d_Law_find_2 rfl rfl ?_
  refine gl_iload_n hC 1 d_Law_find_3 rfl rfl ?_
  refine gl_iload_n hC 2 d_Law_find_4 rfl rfl ?_
  cases r with
  | inl v =>
    refine gl_callV hC [.int x1, .int x2] [.int 0, .ref qo] ((Desk_find_m _ _ _ ao aa N x1 x2 σ v σe hf).frame _) kc_Law_25 0 (g_lay_objE rfl) rfl rfl ⟨by decide, by decide⟩ ⟨Nat.zero_le _, Nat.zero_le _⟩ (Nat.le_of_ble_eq_true rfl) [.int x2, .int x1, .ref (ao 0), .int 0, .ref qo] [.int v, .int 0, .ref qo] rfl rfl d_Law_find_5 ?_
    refine gl_i2l hC d_Law_find_8 ?_
    refine gl_last hC 29 (g_outAt (g_lay_len LC_n)) g_in0 _ (g_outSet (g_lay_len LC_n)) d_Law_find_9 ?_
    refine gl_goto hC 21 d_Law_find_10 (by decide) ?_
    refine gl_iconst hC 0 d_Law_find_21 (by decide) ?_
    exact gl_hret hC hQ ⟨Nat.zero_le _, Nat.zero_le _⟩ d_Law_find_22
  | inr b =>
    cases b with
    | false =>
      refine gl_callT hC hst hnc [.int x1, .int x2] [.int 0, .ref qo] ((Desk_find_t _ hfl _ _ ao aa N x1 x2 σ false σe hf).frame _) kc_Law_25 0 (g_lay_objE rfl) rfl rfl ⟨by decide, by decide⟩ hRc (Nat.le_of_ble_eq_true rfl) [.int x2, .int x1, .ref (ao 0), .int 0, .ref qo] rfl d_Law_find_5 (g_cat1 hC htab (by decide) (by decide) kl_Law_13) (fun x => ?_)
      refine gl_astore hC [(4, .ref x), (0, .ref (ao 0)), (1, .int x1), (2, .int x2), (3, .ref qo)] d_Law_find_13 (by decide) rfl ?_
      refine gl_iconst hC 1 d_Law_find_15 (by decide) ?_
      exact gl_hret hC hQ ⟨Nat.le_refl _, Nat.le_refl _⟩ d_Law_find_16
    | true =>
      refine gl_callT hC hst hnc [.int x1, .int x2] [.int 0, .ref qo] ((Desk_find_t _ hfl _ _ ao aa N x1 x2 σ true σe hf).frame _) kc_Law_25 0 (g_lay_objE rfl) rfl rfl ⟨by decide, by decide⟩ hRc (Nat.le_of_ble_eq_true rfl) [.int x2, .int x1, .ref (ao 0), .int 0, .ref qo] rfl d_Law_find_5 (g_cat2 hC htab (by decide) (by decide) (by decide) (by decide) kl_Law_13 kl_Law_15) (fun x => ?_)
      refine gl_astore hC [(4, .ref x), (0, .ref (ao 0)), (1, .int x1), (2, .int x2), (3, .ref qo)] d_Law_find_17 (by decide) rfl ?_
      refine gl_iconst hC 2 d_Law_find_19 (by decide) ?_
      exact gl_hret hC hQ ⟨Nat.le_refl _, Nat.le_refl _⟩ d_Law_find_20
theorem H_group (l : Launch) (hfl : l.flags = flags0) (D : va_G) (cA cL : ClassId) (ao aa : Nat → Nat) (qo N : Nat) (x1 : Int32) (x2 : Int32) (σ : g_S) (r : g_R) (σe : g_S) (f : Nat → Int64) (hf : Desk_group N x1 x2 σ = some (r, σe)) : MtH l D cA cL y_Law_group c_Law_group 5 [(0, 10, 13, 13), (0, 10, 17, 15)] 7 112 [.ref (ao 0), .int x1, .int x2, .ref qo] (LC ao aa cA σ ++ g_out qo cL f) (g_hk r) (LC ao aa cA σe ++ g_out qo cL (g_hf r f)) := by
  refine g_metH (by decide +kernel) (by simp [lg_sl, Value.category]) (fun X e1 e2 e3 e4 hQ hC hst hnc hRc htab => ?_)
  subst e1 e2 e3 e4
  refine gl_lv [0, 1, 2, 3] rfl ?_
  refine gl_aload_n hC 3 d_Law_group_0 rfl rfl ?_
  refine gl_iconst hC 0 d_Law_group_1 (by decide) ?_
  refine gl_aload_n hC 0 d_Law_group_2 rfl rfl ?_
  refine gl_iload_n hC 1 d_Law_group_3 rfl rfl ?_
  refine gl_iload_n hC 2 d_Law_group_4 rfl rfl ?_
  cases r with
  | inl v =>
    refine gl_callV hC [.int x1, .int x2] [.int 0, .ref qo] ((Desk_group_m _ _ _ ao aa N x1 x2 σ v σe hf).frame _) kc_Law_28 0 (g_lay_objE rfl) rfl rfl ⟨by decide, by decide⟩ ⟨Nat.zero_le _, Nat.zero_le _⟩ (Nat.le_of_ble_eq_true rfl) [.int x2, .int x1, .ref (ao 0), .int 0, .ref qo] [.int v, .int 0, .ref qo] rfl rfl d_Law_group_5 ?_
    refine gl_i2l hC d_Law_group_8 ?_
    refine gl_last hC 29 (g_outAt (g_lay_len LC_n)) g_in0 _ (g_outSet (g_lay_len LC_n)) d_Law_group_9 ?_
    refine gl_goto hC 21 d_Law_group_10 (by decide) ?_
    refine gl_iconst hC 0 d_Law_group_21 (by decide) ?_
    exact gl_hret hC hQ ⟨Nat.zero_le _, Nat.zero_le _⟩ d_Law_group_22
  | inr b =>
    cases b with
    | false =>
      refine gl_callT hC hst hnc [.int x1, .int x2] [.int 0, .ref qo] ((Desk_group_t _ hfl _ _ ao aa N x1 x2 σ false σe hf).frame _) kc_Law_28 0 (g_lay_objE rfl) rfl rfl ⟨by decide, by decide⟩ hRc (Nat.le_of_ble_eq_true rfl) [.int x2, .int x1, .ref (ao 0), .int 0, .ref qo] rfl d_Law_group_5 (g_cat1 hC htab (by decide) (by decide) kl_Law_13) (fun x => ?_)
      refine gl_astore hC [(4, .ref x), (0, .ref (ao 0)), (1, .int x1), (2, .int x2), (3, .ref qo)] d_Law_group_13 (by decide) rfl ?_
      refine gl_iconst hC 1 d_Law_group_15 (by decide) ?_
      exact gl_hret hC hQ ⟨Nat.le_refl _, Nat.le_refl _⟩ d_Law_group_16
    | true =>
      refine gl_callT hC hst hnc [.int x1, .int x2] [.int 0, .ref qo] ((Desk_group_t _ hfl _ _ ao aa N x1 x2 σ true σe hf).frame _) kc_Law_28 0 (g_lay_objE rfl) rfl rfl ⟨by decide, by decide⟩ hRc (Nat.le_of_ble_eq_true rfl) [.int x2, .int x1, .ref (ao 0), .int 0, .ref qo] rfl d_Law_group_5 (g_cat2 hC htab (by decide) (by decide) (by decide) (by decide) kl_Law_13 kl_Law_15) (fun x => ?_)
      refine gl_astore hC [(4, .ref x), (0, .ref (ao 0)), (1, .int x1), (2, .int x2), (3, .ref qo)] d_Law_group_17 (by decide) rfl ?_
      refine gl_iconst hC 2 d_Law_group_19 (by decide) ?_
      exact gl_hret hC hQ ⟨Nat.le_refl _, Nat.le_refl _⟩ d_Law_group_20
