abbrev g_IAE : String := "java/lang/IllegalArgumentException"
abbrev g_ISE : String := "java/lang/IllegalStateException"
/-- at pc a new 'cls' is caught, and the walk goes on at hpc -/
def g_cat (X : g_L) (pc : Nat) (cls : String) (hpc : Nat) : Prop := ∀ (ls : Array Slot) (rest : List Value) (T : State) (locs : List Loc) (cells slots : Nat) (x : Addr) (ce : Cell) (k : Class),
  Stand X.1.1 X.1.2.1 X.1.2.2.1 X.1.2.2.2.1 X.1.2.2.2.2.1 X.1.2.2.2.2.2.1 X.1.2.2.2.2.2.2.1 X.1.2.2.2.2.2.2.2.1 X.1.2.2.2.2.2.2.2.2.1 X.1.2.2.2.2.2.2.2.2.2 T locs cells slots → T.heap[x]? = some ce → ce.vm = .none → T.vm.findClass cls = some ce.cls → T.vm.assignable ce.cls ce.cls = true → T.vm.classes[ce.cls]? = some k → va_Nc g_ISE g_IAE T →
  ∃ vm' : Vm, X.1.2.2.2.2.1.WarmedH vm' ∧ T.vm.Alike vm' ∧ Stand X.1.1 X.1.2.1 X.1.2.2.1 X.1.2.2.2.1 X.1.2.2.2.2.1 X.1.2.2.2.2.2.1 X.1.2.2.2.2.2.2.1 X.1.2.2.2.2.2.2.2.1 X.1.2.2.2.2.2.2.2.2.1 X.1.2.2.2.2.2.2.2.2.2 (T.setVm vm') locs cells slots ∧
    ∀ target, Steps X.1.1.tables X.1.2.2.1 X.1.2.2.2.2.2.2.2.1 ((T.setVm vm').setTop (F0 X.1.2.2.2.2.2.1 hpc ls [.ref x])) target → Steps X.1.1.tables X.1.2.2.1 X.1.2.2.2.2.2.2.2.1 ((T.setTop (F0 X.1.2.2.2.2.2.1 pc ls rest)).pushFrame (.throwing x)) target
section GH
variable {X : g_L} {cs : Nat × Nat} {ws : va_W} {lv : List (Nat × Value)} {pc : Nat} {cc : ByteArray} {own : String} {d L nL : Nat} {ret : Option FieldType}
theorem g_cat1 (hC : gCL X cc own d L nL ret) {a b h t : Nat} {tl : List (Nat × Nat × Nat × Nat)} (htab : X.1.2.2.2.2.2.2.2.2.2.exceptionTable.toList.map (fun h => (h.startPc, h.endPc, h.handlerPc, h.catchType)) = (a, b, h, t) :: tl) (hin : a ≤ pc ∧ pc < b) (h0 : t ≠ 0) {cls : String} (hlink : Cond.classLink own t cls ∈ g_TB) : g_cat X pc cls h := by
  intro ls rest T locs cells slots x ce k XX hcell hvm hcls hself hk _
  cases htl : X.1.2.2.2.2.2.2.2.2.2.exceptionTable.toList with
  | nil => rw [htl] at htab; cases htab
  | cons x1 r =>
    rw [htl] at htab
    simp only [List.map_cons, List.cons.injEq, Prod.mk.injEq] at htab
    obtain ⟨⟨e1, e2, e3, e4⟩, -⟩ := htab
    subst e1 e2 e3 e4
    exact g_catch1 XX x (g := F0 X.1.2.2.2.2.2.1 pc ls rest) rfl htl (by simp [covers, hin.1, hin.2]) h0 hC.2.2.2.1 (hC.2.2.2.2.1 _ hlink) hcell hvm hcls hself hk
theorem g_cat2 (hC : gCL X cc own d L nL ret) {a b h t a2 b2 h2 t2 : Nat} {tl : List (Nat × Nat × Nat × Nat)} (htab : X.1.2.2.2.2.2.2.2.2.2.exceptionTable.toList.map (fun h => (h.startPc, h.endPc, h.handlerPc, h.catchType)) = (a, b, h, t) :: (a2, b2, h2, t2) :: tl) (hin : a ≤ pc ∧ pc < b) (h0 : t ≠ 0) (hin2 : a2 ≤ pc ∧ pc < b2) (h02 : t2 ≠ 0) (hlink1 : Cond.classLink own t g_IAE ∈ g_TB) (hlink : Cond.classLink own t2 g_ISE ∈ g_TB) : g_cat X pc g_ISE h2 := by
  intro ls rest T locs cells slots x ce k XX hcell hvm hcls hself hk hnc
  cases htl : X.1.2.2.2.2.2.2.2.2.2.exceptionTable.toList with
  | nil => rw [htl] at htab; cases htab
  | cons x1 r =>
    cases r with
    | nil => rw [htl] at htab; simp at htab
    | cons x2 r =>
      rw [htl] at htab
      simp only [List.map_cons, List.cons.injEq, Prod.mk.injEq] at htab
      obtain ⟨⟨e1, e2, e3, e4⟩, ⟨e5, e6, e7, e8⟩, -⟩ := htab
      subst e1 e2 e3 e4 e5 e6 e7 e8
      exact g_catch2 XX x (g := F0 X.1.2.2.2.2.2.1 pc ls rest) rfl htl (by simp [covers, hin.1, hin.2]) h0 (by simp [covers, hin2.1, hin2.2]) h02 hC.2.2.2.1 (hC.2.2.2.2.1 _ hlink1) (hC.2.2.2.2.1 _ hlink) hcell hvm hcls hself hk hnc
/-- a call whose callee throws, caught here -/
theorem gl_callT (hC : gCL X cc own d L nL ret) (hst : g_St X.2.2.2.2.1 X.1.2.2.2.2.1 X.1.2.2.2.2.1.heap) (hnc : va_Nc g_ISE g_IAE X.1.2.2.2.2.1) {y : MethodName} {cy : ByteArray} {my dy Ly index : Nat} {ry : Option FieldType} (as rest : List Value) {b : Nat} {cls : String} {ws1 : va_W}
    (hM : MtX X.1.2.1 X.2.1 X.2.2.1 y cy my ry dy Ly (.ref b :: as) ws cls ws1) (hw : g_okV own index y cy my ry as.length) (q0 : Nat) {ci : Nat} {fs : List Value} (he : ws[q0]? = some (b, .inr (ci, fs))) {q : vw_C} (hc : vwCl[ci]? = some q) (hq : q.1 = y.cls) (hR : dy + 1 ≤ d ∧ 8 + (my + 11) + Ly ≤ L) (hf : cs.1 + 1 ≤ X.1.2.2.2.1.cells ∧ cs.2 + 6 ≤ X.1.2.2.2.1.slots) (h8 : (rest.map fun v => v.category).sum ≤ 8) (st0 : List Value) (hs0 : as.reverse ++ .ref b :: rest = st0)
    (hd : decode cc pc = .ok (.invokevirtual index, 3)) {hpc : Nat} (hcat : g_cat X pc cls hpc) (k : ∀ x : Nat, gl X (cs.1 + 1, cs.2 + 6) ws1 lv hpc [.ref x]) : gl X cs ws lv pc st0 := by
  subst hs0
  obtain ⟨⟨p, l, e, R, s, m, args, below, meth, c⟩, D, cA, cL, A, nl, Q⟩ := X
  obtain ⟨hx, hb, hml, hown, hts, hK, hA, hr, hlocks, hnl, hRf, hRl⟩ := hC
  dsimp only at *
  intro H locs ls hP hD hS hl T hTT XX
  dsimp only at *
  have hgood : ∀ w ∈ (Cond.code y cy my ry :: g_TB), ∀ (a' : Array Value) (U : State), s.WarmedH U.vm → w.before a' U = true := pay_in hts (g_good hw.1)
  obtain ⟨cellB, hc1, hc2, hc3⟩ := va_recv hK hP hc he
  have hfree : ∀ q, va_A ws H.size q → A q := fun q h => by
    rcases h with ⟨i, ex, h⟩ | h
    · exact hD.2 i _ h
    · exact hA q (Nat.le_trans hS.1 h)
  have hlen9 : ∀ sig, parseMethodDescriptor y.desc = some sig → as.length = sig.parameters.length := fun sig h => by
    have h2 := hw.2.2.2.2.2.2.2
    rw [h] at h2
    exact (Option.some.inj h2).symm
  obtain ⟨x, vm₁, mk, t, T', L', hWv, hQx, hh, hv, X', hsm, hLf, hgo⟩ := g_callVX (C := y.cls) XX hx (va_A ws H.size) hown (hts _ hw.2.2.1) (hts _ hw.2.2.2.1) (hts _ hw.2.2.2.2.1) (hts _ hw.1) ⟨hw.2.2.2.2.2.1, hw.2.2.2.2.2.2.1⟩ (hM H.size) hgood List.mem_cons_self (fun a' U hU => word_at hU (good_of_word (List.mem_filter.mp hw.2.1).2) (hts _ hw.2.1))
    (by rw [hTT]; exact hc1) hc2 (by rw [← hq]; exact hc3) (g := F0 m pc ls (as.reverse ++ .ref b :: rest)) rfl (hl.1.trans (hnl.trans hml.symm)) (argsL := as) (rest := rest) hlen9 rfl (lv_room h8) (by rw [hb]; exact hd) ⟨Nat.le_trans hR.1 hRf, Nat.le_trans hR.2 hRl⟩ hf
    (fun vm₁ mk hW1 => by
      have hheap : ((T.setVm vm₁).calling { F0 m pc ls (as.reverse ++ .ref b :: rest) with stack := rest } mk (Value.ref b :: as).toArray).heap = H := hTT
      have hvm9 : ((T.setVm vm₁).calling { F0 m pc ls (as.reverse ++ .ref b :: rest) with stack := rest } mk (Value.ref b :: as).toArray).vm = vm₁ := rfl
      refine ⟨rfl, by rw [hheap], by rw [hheap]; exact hP, va_K.moved (by rw [hvm9]; exact hW1.alike) (g_K1 hK), hD.weaken (fun _ _ _ _ => trivial), ?_⟩
      rw [hheap]
      exact ((hst.kept (fun a h1 h2 => hS.2.1 a h1 h2)).moved (by rw [hvm9]; exact hW1)).narrow hfree)
    (fun a st oc t h => by
      obtain ⟨x, ce, k, L9, h1, -, -, -, -, -, -, -, -, h2, h3, h4⟩ := h
      exact ⟨x, L9, h1, h2, h3, h4⟩)
  obtain ⟨x9, ce, k9, L9, h1, h2, h3, h4, h5, h6, h7, ⟨hP1, hK1, hD1⟩, hF1, hW9, hs9, hL9⟩ := hQx
  cases h1
  have hF1' : H.size ≤ t.heap.size := by rw [← hTT]; exact hF1.1
  have hncT : va_Nc g_ISE g_IAE T' := va_Nc.moved X'.warmed.alike hnc
  obtain ⟨vm', hW', hal', X2, hst2⟩ := hcat ls rest T' (locs ++ L') (cs.1 + 1) (cs.2 + 6) x ce k9 X' (by rw [hh]; exact h3) h4 (by rw [hv]; exact h6) (by rw [hv]; exact h7) (by rw [hv]; exact h5) hncT
  obtain ⟨t2, a1, b1⟩ := k x T'.heap (locs ++ L') ls (by rw [hh]; exact hP1) (hD1.weaken (fun _ _ _ h => hfree _ h))
    ⟨by rw [hh]; exact Nat.le_trans hS.1 hF1', fun q g1 g2 => by
      have hq1 : q < H.size := Nat.lt_of_lt_of_le g1 hS.1
      have h9 : t.heap[q]? = H[q]? := by
        have := hF1.2 q (by show q < T.heap.size; rw [hTT]; exact hq1) (fun z => g2 (hfree q z))
        rw [this]
        show T.heap[q]? = H[q]?
        rw [hTT]
      rw [hh, h9]
      exact hS.2.1 q g1 g2, fun q hq9 => by
      rcases List.mem_append.mp hq9 with h | h
      · exact hS.2.2 q h
      · exact hfree _ (hLf q h)⟩ hl (T'.setVm vm') rfl X2
  exact ⟨t2, hgo _ (hst2 _ a1), b1⟩
end GH
