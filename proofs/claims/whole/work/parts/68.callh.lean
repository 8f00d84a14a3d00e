/-! the law's calls of its helpers -/
section GSW
variable {p : Program} {l : Launch} {e : Env} {R : Room} {s : State} {m : MethodId} {args : Array Value} {below : List Frame} {meth : Method} {c : Code} {T : State} {locs : List Loc} {cells slots : Nat}
theorem g_callSW (X : Stand p l e R s m args below meth c T locs cells slots) (hexec : p.tables.exec = Jvm.exec) {own : String} {index : Nat} {y : MethodName} {bytes : ByteArray} {maxL : Nat} {ret : Option FieldType} {hh : List (Nat × Nat × Nat × Nat)}
    (hown : s.vm.findClass own = some m.cls) (hlink : (Cond.methodLink own index y).before args s = true) (hstat : (Cond.static y).before args s = true) (hinit : (Cond.initialized y.cls).before args s = true)
    (hcode : (Cond.codeWith y bytes maxL ret hh).before args s = true) (hy : y.cls ≠ "java/lang/invoke/MethodHandle" ∧ y.cls ≠ "java/lang/invoke/VarHandle")
    {W : Nat} {Pre : Pt → Array Value → Prop} {Post : Pt → Array Value → Option Value → Pt → Prop} (hK : Back l R p e below s args y 3 W Pre Post)
    {g : JFrame} (hg : g.method = m) (hsize : g.locals.size = c.maxLocals) {argsL rest : List Value} (hlen : ∀ sig, parseMethodDescriptor y.desc = some sig → argsL.length = sig.parameters.length)
    (hstack : g.stack = argsL.reverse ++ rest) (hW : 2 * g.monitorRoom + (rest.map fun v => v.category).sum ≤ W) (hdg : decode c.code g.pc = .ok (.invokestatic index, 3))
    (hpre : ∀ vm₁, s.WarmedH vm₁ → Pre ⟨T.setVm vm₁, locs, cells, slots⟩ argsL.toArray) :
    ∃ (v : Option Value) (vm₁ : Vm) (B : Pt), s.WarmedH vm₁ ∧ Stand p l e R s m args below meth c B.U B.locs B.cells B.slots ∧ Post ⟨T.setVm vm₁, locs, cells, slots⟩ argsL.toArray v B ∧
      ∀ target, Steps p.tables e below (B.U.setTop { g with pc := g.pc + 3, stack := v.toList ++ rest }) target → Steps p.tables e below (T.setTop g) target := by
  obtain ⟨mk, methM, cM, hnamed, hmethM, -, -, -, -, -, -, hsigM⟩ := Cond.codeWith_spec hcode
  have hstatic : methM.isStatic = true := Cond.static_spec hnamed hmethM hstat
  obtain ⟨kP, hkP, -⟩ := className_of_methodNamed hnamed
  have hinitP : kP.init = .initialized := Cond.initialized_spec (findClass_of_methodNamed hnamed) hkP hinit
  obtain ⟨vm₁, X₁, hstep₁⟩ := X.invokestatic hexec hown hlink hnamed hmethM hstatic hkP hinitP hy (g := g) hg (argsL := argsL) (rest := rest) (hlen _ hsigM) hstack hdg
  obtain ⟨v, B, X', hpost, hsteps⟩ := hK m meth c ⟨T.setVm vm₁, locs, cells, slots⟩ { g with stack := rest } (.invokestatic index) mk argsL.toArray X₁ hg hsize hdg hW (X₁.named hnamed) (hpre vm₁ X₁.warmed)
  exact ⟨v, vm₁, B, X₁.warmed, X', hpost, fun target h => hstep₁ _ fun acts => by rw [doInvoke_state]; exact hsteps.trans h⟩
end GSW
theorem MtH.frame {l : Launch} {D : va_G} {cA cL : ClassId} {y : MethodName} {cc : ByteArray} {nL : Nat} {hh : List (Nat × Nat × Nat × Nat)} {d L : Nat} {as : List Value} {ws : va_W} {k : Int32} {ws' : va_W} (h : MtH l D cA cL y cc nL hh d L as ws k ws') (E : va_W) : MtH l D cA cL y cc nL hh d L as (ws ++ E) k (ws' ++ E) := by
  intro sz
  refine MetFree.mono (h sz) (fun a U hU => ?_) (fun _ _ _ _ _ h => h) (fun a st o t hU hQ => ?_)
  · obtain ⟨h1, h2, h3, h4, h5, h6, h7⟩ := hU
    exact ⟨h1, h2, g_app1 h3, h4, g_dapp1 h5, h6.narrow (fun q hq => g_Aapp hq), h7⟩
  · obtain ⟨h1, h2, h3, h4, h5, h6, h7⟩ := hU
    subst h2
    obtain ⟨⟨⟨q1, q2, q3, q4⟩, q5⟩, L, hF, hL⟩ := hQ
    refine ⟨⟨⟨q1, va_P.app q2 (g_stay h3 h5 q5.2), q3, g_stayD h3 h5 q4 (fun q hq => g_Aapp hq) (fun k q hq => ?_)⟩, q5.1, fun q g1 g2 => q5.2 q g1 (fun z => g2 (g_Aapp z))⟩, L, hF, fun q hq => g_Aapp (hL q hq)⟩
    exact Or.inl ⟨ws.length + k, q.2, by rw [List.getElem?_append_right (Nat.le_add_right _ _), Nat.add_sub_cancel_left]; exact hq⟩
def g_okH (own : String) (index : Nat) (y : MethodName) (cy : ByteArray) (my : Nat) (hh : List (Nat × Nat × Nat × Nat)) (n : Nat) : Prop :=
  Cond.codeWith y cy my (some .int) hh ∈ g_TB ∧ Cond.initialized y.cls ∈ g_TB ∧ Cond.methodLink own index y ∈ g_TB ∧ Cond.static y ∈ g_TB ∧ y.cls ≠ "java/lang/invoke/MethodHandle" ∧ y.cls ≠ "java/lang/invoke/VarHandle" ∧ (parseMethodDescriptor y.desc).map (fun d => d.parameters.length) = some n
section GHC
variable {X : g_L} {cs : Nat × Nat} {ws : va_W} {lv : List (Nat × Value)} {pc : Nat} {st : List Value} {cc : ByteArray} {own : String} {d L nL : Nat} {ret : Option FieldType}
theorem gl_widen (a b : Nat) (h : cs.1 ≤ a ∧ cs.2 ≤ b) (k : gl X (a, b) ws lv pc st) : gl X cs ws lv pc st :=
  fun H locs ls hP hD hS hl => W.widen h.1 h.2 (k H locs ls hP hD hS hl)
theorem g_blindH {D : va_G} {cA cL : ClassId} {as : List Value} {sz : Nat} : FrameBlind (va_Pc as (fun U => U.heap.size = sz ∧ va_P D vwCl ws U.heap ∧ va_K D vwCl [(cA, .int), (cL, .long)] U ∧ va_D (fun _ => True) ws ∧ g_St (va_A ws sz) U U.heap ∧ va_Nc g_ISE g_IAE U)) :=
  fun a U g mk q => by
    obtain ⟨q0, q1, qP, qK, qD, qS, qN⟩ := q
    exact ⟨q0, q1, qP, va_K.moved (u := U) (U := U.calling g mk a) (Vm.Alike.refl U.vm) qK, qD, qS.same (u := U) (U := U.calling g mk a) rfl, va_Nc.moved (u := U) (U := U.calling g mk a) (Vm.Alike.refl U.vm) qN⟩
theorem gl_callH (hC : gCL X cc own d L nL ret) (hst : g_St X.2.2.2.2.1 X.1.2.2.2.2.1 X.1.2.2.2.2.1.heap) (hnc : va_Nc g_ISE g_IAE X.1.2.2.2.2.1) {y : MethodName} {cy : ByteArray} {my dy Ly index : Nat} {hh : List (Nat × Nat × Nat × Nat)} (as rest : List Value) {r1 : Int32} {ws1 : va_W}
    (hM : MtH X.1.2.1 X.2.1 X.2.2.1 X.2.2.2.1 y cy my hh dy Ly as ws r1 ws1) (hw : g_okH own index y cy my hh as.length) (hR : dy + 1 ≤ d ∧ 8 + (my + 11) + Ly ≤ L) (hf : cs.1 + 1 ≤ X.1.2.2.2.1.cells ∧ cs.2 + 6 ≤ X.1.2.2.2.1.slots) (h8 : (rest.map fun v => v.category).sum ≤ 8) (st0 : List Value) (hs0 : as.reverse ++ rest = st0)
    (hd : decode cc pc = .ok (.invokestatic index, 3)) (k : gl X (cs.1 + 1, cs.2 + 6) ws1 lv (pc + 3) (.int r1 :: rest)) : gl X cs ws lv pc st0 := by
  subst hs0
  intro H locs ls hP hD hS hl T hT XX
  have hts := hC.2.2.2.2.1
  have hLL := hC.2.2.2.2.2.2.2.2.2.2
  have hfree : ∀ q, va_A ws H.size q → X.2.2.2.2.1 q := fun q h => by
    rcases h with ⟨i, ex, h⟩ | h
    · exact hD.2 i _ h
    · exact hC.2.2.2.2.2.2.1 q (Nat.le_trans hS.1 h)
  have hK : Back X.1.2.1 X.1.2.2.2.1 X.1.1 X.1.2.2.1 X.1.2.2.2.2.2.2.2.1 X.1.2.2.2.2.1 X.1.2.2.2.2.2.2.1 y 3 8 (PreOf X.1.2.2.2.1 1 6 _) (PostOf _ 1 6 _) :=
    va_backW (hh := hh) (bytes := cy) (maxL := my) (ret := some .int) (hM H.size) g_blindH rfl rfl (Nat.le_trans hR.1 hLL.1) (Nat.le_trans hR.2 hLL.2) (pay_in hts (g_good hw.1)) List.mem_cons_self (fun a' U hW => word_at hW (good_of_word (List.mem_filter.mp hw.2.1).2) (hts _ hw.2.1))
  have hlen9 : ∀ sig, parseMethodDescriptor y.desc = some sig → as.length = sig.parameters.length := fun sig h => by
    have h2 := hw.2.2.2.2.2.2
    rw [h] at h2
    exact (Option.some.inj h2).symm
  obtain ⟨v, vm₁, ⟨U', l2, c2, s2⟩, hW₁, X', ⟨g', mk, t, L9, e1, e2, hq, h1, hL, h2, h3⟩, stp⟩ := g_callSW XX hC.1 (bytes := cy) (maxL := my) (ret := some .int) (hh := hh) hC.2.2.2.1 (hts _ hw.2.2.1) (hts _ hw.2.2.2.1) (hts _ hw.2.1) (hts _ hw.1) ⟨hw.2.2.2.2.1, hw.2.2.2.2.2.1⟩ hK (g := F0 X.1.2.2.2.2.2.1 pc ls (as.reverse ++ rest)) rfl (hl.1.trans (hC.2.2.2.2.2.2.2.2.2.1.trans hC.2.2.1.symm)) (argsL := as) (rest := rest) hlen9 rfl (lv_room h8) (by rw [hC.2.1]; exact hd)
    (fun vm₁ hW₁ => ⟨hf.1, hf.2, by
      have hheap : (T.setVm vm₁).heap = H := hT
      refine ⟨rfl, by rw [hheap], by rw [hheap]; exact hP, va_K.moved hW₁.alike hC.2.2.2.2.2.1, hD.weaken (fun _ _ _ _ => trivial), ?_, va_Nc.moved hW₁.alike hnc⟩
      rw [hheap]
      exact ((hst.kept (fun a h1 h2 => hS.2.1 a h1 h2)).moved hW₁).narrow hfree⟩)
  dsimp only [Pt.U, Pt.locs, Pt.cells, Pt.slots] at X' e1 e2 h1 h2 h3 stp
  subst h1; subst h2; subst h3
  obtain ⟨⟨hv, hP1, hK1, hD1⟩, hz, hk⟩ := hq
  cases hv
  have hz' : H.size ≤ t.heap.size := by rw [← hT]; exact hz
  have hk' : ∀ q : Nat, q < H.size → ¬ va_A ws H.size q → t.heap[q]? = H[q]? := fun q g1 g2 => by
    have := hk q (by show q < T.heap.size; rw [hT]; exact g1) g2
    rw [this]
    show T.heap[q]? = H[q]?
    rw [hT]
  obtain ⟨t2, a1, b1⟩ := k U'.heap (locs ++ L9) ls (by rw [e1]; exact hP1) (hD1.weaken (fun _ _ _ h => hfree _ h))
    ⟨Nat.le_trans hS.1 (by rw [e1]; exact hz'), fun q h1 h2 => by rw [e1, hk' q (Nat.lt_of_lt_of_le h1 hS.1) (fun z => h2 (hfree q z))]; exact hS.2.1 q h1 h2, fun q hq => by
      rcases List.mem_append.mp hq with h | h
      · exact hS.2.2 q h
      · exact hfree _ (hL q h)⟩ hl U' rfl X'
  exact ⟨t2, stp t2 a1, b1⟩
end GHC
