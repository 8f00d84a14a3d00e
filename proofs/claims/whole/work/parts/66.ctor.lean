/-! constructors -/
def g_rmK (d L mc ms : Nat) : Room := { frames := d, cells := mc, slots := ms, locals := L }
def g_QK (D : va_G) (cA cL : ClassId) (A : Nat → Prop) (P : va_W → Prop) : Array Value → State → Outcome → State → Prop := fun _ st oc t =>
  (oc = .returned none ∧ ∃ ws', P ws' ∧ va_P D vwCl ws' t.heap ∧ va_K D vwCl [(cA, .int), (cL, .long)] t ∧ va_D A ws') ∧ va_F A st t
def MtK (l : Launch) (D : va_G) (cA cL : ClassId) (y : MethodName) (cc : ByteArray) (nL d L mc ms : Nat) (as : List Value) (G : Vm → Prop) (ws : va_W) (P : va_W → Prop) : Prop :=
  ∀ sz : Nat, Met l y (.code y cc nL none :: g_TB) (g_rmK d L mc ms) (va_Pc as (fun U => U.heap.size = sz ∧ va_P D vwCl ws U.heap ∧ va_K D vwCl [(cA, .int), (cL, .long)] U ∧ va_D (fun _ => True) ws ∧ G U.vm))
    (g_QK D cA cL (va_A ws sz) P) mc ms (va_A ws sz)
theorem MtK.frame {l : Launch} {D : va_G} {cA cL : ClassId} {y : MethodName} {cc : ByteArray} {nL d L mc ms : Nat} {as : List Value} {G : Vm → Prop} {ws : va_W} {P : va_W → Prop} (h : MtK l D cA cL y cc nL d L mc ms as G ws P) (E : va_W) : MtK l D cA cL y cc nL d L mc ms as G (ws ++ E) (fun w => ∃ w', P w' ∧ w = w' ++ E) := by
  intro sz
  refine MetFree.mono (h sz) (fun a U hU => ?_) (fun _ _ _ _ _ h => h) (fun a st o t hU hQ => ?_)
  · obtain ⟨h1, h2, h3, h4, h5, h6⟩ := hU
    exact ⟨h1, h2, g_app1 h3, h4, g_dapp1 h5, h6⟩
  · obtain ⟨h1, h2, h3, h4, h5, h6⟩ := hU
    subst h2
    obtain ⟨⟨⟨q1, w', hp, q2, q3, q4⟩, q5⟩, L, hF, hL⟩ := hQ
    refine ⟨⟨⟨q1, w' ++ E, ⟨w', hp, rfl⟩, va_P.app q2 (g_stay h3 h5 q5.2), q3, g_stayD h3 h5 q4 (fun q hq => g_Aapp hq) (fun k q hq => ?_)⟩, q5.1, fun q g1 g2 => q5.2 q g1 (fun z => g2 (g_Aapp z))⟩, L, hF, fun q hq => g_Aapp (hL q hq)⟩
    exact Or.inl ⟨ws.length + k, q.2, by rw [List.getElem?_append_right (Nat.le_add_right _ _), Nat.add_sub_cancel_left]; exact hq⟩
theorem g_metK {l : Launch} {D : va_G} {cA cL : ClassId} {y : MethodName} {as : List Value} {G : Vm → Prop} {P : va_W → Prop} {ws : va_W} {cc : ByteArray} {d L nL mc ms : Nat} (hy : plainName y.cls = true) (hnm : y.name = "<init>") (hn : (lg_sl as).length ≤ nL)
    (body : ∀ X : g_L, X.1.2.1 = l → X.2.1 = D → X.2.2.1 = cA → X.2.2.2.1 = cL → X.2.2.2.2.2.2 = MQ X.1.2.2.2.2.2.2.2.1 (g_QK D cA cL X.2.2.2.2.1 P) X.1.2.2.2.2.2.2.1 X.1.2.2.2.2.1 mc ms X.2.2.2.2.1 → gCL X cc y.cls d L nL none → X.1.2.2.2.2.2.2.2.2.1.name = "<init>" → G X.1.2.2.2.2.1.vm → X.1.2.2.2.1 = g_rmK d L mc ms → gl X (0, 0) ws (lv_args 0 as) 0 []) : MtK l D cA cL y cc nL d L mc ms as G ws P := by
  intro sz
  refine Met.ofW (cc := cc) (maxL := nL) (ret := none) hy rfl ?_
  intro p e s m args below meth c s₁ B hml hv
  obtain ⟨rfl, hsz, hP, hK, hD0, hG⟩ := hv
  have hts := atoms_spec (ws := .code y cc nL none :: g_TB) B.pre
  subst hsz
  have h := body ((p, l, e, g_rmK d L mc ms, s, m, as.toArray, below, meth, c), D, cA, cL, va_A ws s.heap.size, nL, MQ below (g_QK D cA cL (va_A ws s.heap.size) P) as.toArray s mc ms (va_A ws s.heap.size)) rfl rfl rfl rfl rfl
    ⟨B.exec, B.bytes, hml, findClass_of_methodNamed B.named, fun w hw => hts w (List.mem_cons_of_mem _ hw), hK, fun q h => Or.inr h, B.returns, B.notSynchronized, rfl, Nat.le_refl _, Nat.le_refl _⟩ ((name_of_methodNamed B.named B.method).1.trans hnm) hG rfl
  rw [lg_entry_eq]
  exact h s.heap [] _ hP hD0.self va_S.rf (lv_entry as hn)
def g_okO (own : String) (idx : Nat) : Prop := Cond.methodLink own idx Lib.objectInit ∈ g_TB ∧ Cond.instanceMethod Lib.objectInit ∈ g_TB ∧ Cond.code Lib.objectInit ⟨#[0xb1]⟩ 1 none ∈ g_TB
def g_okI (own : String) (index : Nat) (y : MethodName) (cy : ByteArray) (my n : Nat) : Prop :=
  Cond.code y cy my none ∈ g_TB ∧ Cond.initialized y.cls ∈ g_TB ∧ Cond.methodLink own index y ∈ g_TB ∧ Cond.instanceMethod y ∈ g_TB ∧ y.name = "<init>" ∧ y.cls ≠ "java/lang/invoke/MethodHandle" ∧ y.cls ≠ "java/lang/invoke/VarHandle" ∧ (parseMethodDescriptor y.desc).map (fun d => d.parameters.length) = some n
def g_okIN (own : String) (index : Nat) (y : MethodName) (host : String) (cy : ByteArray) (my n : Nat) : Prop :=
  Cond.code y cy my none ∈ g_TB ∧ Cond.initialized y.cls ∈ g_TB ∧ Cond.instanceMethod y ∈ g_TB ∧ y.name = "<init>" ∧ y.cls ≠ "java/lang/invoke/MethodHandle" ∧ y.cls ≠ "java/lang/invoke/VarHandle" ∧ (parseMethodDescriptor y.desc).map (fun d => d.parameters.length) = some n
section GC
variable {X : g_L} {cs : Nat × Nat} {ws : va_W} {lv : List (Nat × Value)} {pc : Nat} {st : List Value} {cc : ByteArray} {own : String} {d L nL : Nat} {ret : Option FieldType}
theorem gl_objInit (hC : gCL X cc own d L nL ret) {idx a : Nat} (hw : g_okO own idx) (hR : 1 ≤ d ∧ 20 ≤ L) (h8 : (st.map fun v => v.category).sum ≤ 8) (hd : decode cc pc = .ok (.invokespecial idx, 3)) (k : gl X cs ws lv (pc + 3) st) : gl X cs ws lv pc (.ref a :: st) :=
  fun H locs ls hP hD hS hl => W.objInit hC.1 hC.2.1 hC.2.2.2.1 (hC.2.2.2.2.1 _ hw.1) (hC.2.2.2.2.1 _ hw.2.1) (hC.2.2.2.2.1 _ hw.2.2) rfl (hl.1.trans (hC.2.2.2.2.2.2.2.2.2.1.trans hC.2.2.1.symm)) rfl hd (Nat.le_trans hR.1 hC.2.2.2.2.2.2.2.2.2.2.1) (by have h9 := lv_room (m := X.1.2.2.2.2.2.1) (pc := pc) (ls := ls) (rest := .ref a :: st) h8; have h7 := hC.2.2.2.2.2.2.2.2.2.2.2; omega) (k H locs ls hP hD hS hl)
theorem gl_newa (hC : gCL X cc own d L nL ret) (harr : Cond.arrayClass .int ∈ g_TB) (n : Nat) {v : Int32} (hv : v = nI n) (hn : n ≤ 1000000) (hf : cs.1 + 1 ≤ X.1.2.2.2.1.cells ∧ cs.2 + n ≤ X.1.2.2.2.1.slots) (hd : decode cc pc = .ok (.newarray .int, 2)) (k : ∀ q : Nat, gl X (cs.1 + 1, cs.2 + n) (ws ++ [(q, .inl (X.2.2.1, n, .inl (fun _ => 0)))]) lv (pc + 2) (.ref q :: st)) : gl X cs ws lv pc (.int v :: st) := by
  intro H locs ls hP hD hS hl
  subst hv
  have hKK := hC.2.2.2.2.2.1
  refine va_newa (atype := .int) hC.1 hC.2.1 (hC.2.2.2.2.1 _ harr) rfl hKK hP hD hS hC.2.2.2.2.2.2.1 (a0 := (n, .inl (fun _ => 0))) (N' := n) (fun cA => rfl) (nI_pos (by omega)) (nI_clamp (by omega)) (by show n * 4 ≤ 536870912; omega) hf.1 hf.2 hd (fun q cA H1 hK1 hP1 hD1 hS1 => ?_)
  have e1 : X.1.2.2.2.2.1.vm.findClass ("[" ++ FieldType.int.toString) = some cA := (hK1.2 2 (cA, .int) rfl).2
  have e2 : X.1.2.2.2.2.1.vm.findClass ("[" ++ FieldType.int.toString) = some X.2.2.1 := (hKK.2 0 (X.2.2.1, .int) rfl).2
  cases e1.symm.trans e2
  exact k q H1 locs ls hP1 hD1 hS1 hl
theorem gl_newaL (hC : gCL X cc own d L nL ret) (harr : Cond.arrayClass .long ∈ g_TB) (n : Nat) {v : Int32} (hv : v = nI n) (hn : n ≤ 1000000) (hf : cs.1 + 1 ≤ X.1.2.2.2.1.cells ∧ cs.2 + n ≤ X.1.2.2.2.1.slots) (hd : decode cc pc = .ok (.newarray .long, 2)) (k : ∀ q : Nat, gl X (cs.1 + 1, cs.2 + n) (ws ++ [(q, .inl (X.2.2.2.1, n, .inr (.inl (fun _ => 0))))]) lv (pc + 2) (.ref q :: st)) : gl X cs ws lv pc (.int v :: st) := by
  intro H locs ls hP hD hS hl
  subst hv
  have hKK := hC.2.2.2.2.2.1
  refine va_newa (atype := .long) hC.1 hC.2.1 (hC.2.2.2.2.1 _ harr) rfl hKK hP hD hS hC.2.2.2.2.2.2.1 (a0 := (n, .inr (.inl (fun _ => 0)))) (N' := n) (fun cA => rfl) (nI_pos (by omega)) (nI_clamp (by omega)) (by show n * 8 ≤ 536870912; omega) hf.1 hf.2 hd (fun q cA H1 hK1 hP1 hD1 hS1 => ?_)
  have e1 : X.1.2.2.2.2.1.vm.findClass ("[" ++ FieldType.long.toString) = some cA := (hK1.2 2 (cA, .long) rfl).2
  have e2 : X.1.2.2.2.2.1.vm.findClass ("[" ++ FieldType.long.toString) = some X.2.2.2.1 := (hKK.2 1 (X.2.2.2.1, .long) rfl).2
  cases e1.symm.trans e2
  exact k q H1 locs ls hP1 hD1 hS1 hl
theorem gl_new (hC : gCL X cc own d L nL ret) {C : String} {T : u_T} {N ci index : Nat} (hin : ∀ w ∈ u_ws C T N, w ∈ g_TB) (ty : Nat → FieldType) (hty : ∀ k, k < N → parseFieldDescriptor (T k).2.2.1 = some (ty k)) (hcl : Cond.classLink own index C ∈ g_TB) (hinst : Cond.instantiable C N ∈ g_TB) (hini : Cond.initialized C ∈ g_TB) (hc : vwCl[ci]? = some (C, T, N)) (fs : List Value) (hfs : ∀ j, j < N → defaultValue (ty j) = vp_V fs j) (hf : cs.1 + 1 ≤ X.1.2.2.2.1.cells ∧ cs.2 + N ≤ X.1.2.2.2.1.slots) (hd : decode cc pc = .ok (.new index, 3))
    (k : ∀ q : Nat, gl X (cs.1 + 1, cs.2 + N) (ws ++ [(q, .inr (ci, fs))]) lv (pc + 3) (.ref q :: st)) : gl X cs ws lv pc st :=
  fun H locs ls hP hD hS hl => va_new hC.1 hC.2.1 hC.2.2.2.2.1 hin ty hty hC.2.2.2.1 (hC.2.2.2.2.1 _ hcl) (hC.2.2.2.2.1 _ hinst) (hC.2.2.2.2.1 _ hini) hC.2.2.2.2.2.1 hP hD hS hC.2.2.2.2.2.2.1 hc hfs hf.1 hf.2 hd (fun q H1 hP1 hD1 hS1 => k q H1 locs ls hP1 hD1 hS1 hl)
theorem gl_get (hC : gCL X cc own d L nL ret) {ref C : String} {T : u_T} {N ci index : Nat} (hin : ∀ w ∈ u_ws C T N, w ∈ g_TB) {a : Nat} (q0 : Nat) {fs : List Value} (he : ws[q0]? = some (a, .inr (ci, fs))) (hc : vwCl[ci]? = some (C, T, N)) (k0 : Nat) (hk : k0 < N) (hlink : Cond.fieldLink own index ref (T k0).2.1 (T k0).2.2.1 ∈ g_TB) (hs : (T k0).1 = ref) {v : Value} (hv : fs[k0]? = some v) (hd : decode cc pc = .ok (.getfield index, 3)) (k : gl X cs ws lv (pc + 3) (v :: st)) : gl X cs ws lv pc (.ref a :: st) :=
  fun H locs ls hP hD hS hl => va_get hC.1 hC.2.1 hC.2.2.2.2.1 hin hC.2.2.2.1 hC.2.2.2.2.2.1 hP q0 he hc k0 hk (hC.2.2.2.2.1 _ hlink) (fun _ h => hs ▸ h) hv hd (k H locs ls hP hD hS hl)
theorem gl_put (hC : gCL X cc own d L nL ret) {ref C : String} {T : u_T} {N ci index : Nat} (hin : ∀ w ∈ u_ws C T N, w ∈ g_TB) (ty0 : Nat → FieldType) (hty : ∀ k, k < N → parseFieldDescriptor (T k).2.2.1 = some (ty0 k)) (hnm : ∀ a, a < N → ∀ b, b < N → a ≠ b → (T a).2.1 ≠ (T b).2.1) {a : Nat} (q0 : Nat) {fs : List Value} (he : ws[q0]? = some (a, .inr (ci, fs))) (hc : vwCl[ci]? = some (C, T, N)) (k0 : Nat) (hk : k0 < N) (hlink : Cond.fieldLink own index ref (T k0).2.1 (T k0).2.2.1 ∈ g_TB) (hs : (T k0).1 = ref) (hf : (T k0).2.2.2 = false) {ty : FieldType} {v : Value} (ht : parseFieldDescriptor (T k0).2.2.1 = some ty) (hn : narrow ty v = v) (hfit : fits ty v = true) (hl0 : k0 < fs.length) (ws1 : va_W) (h1 : ws.set q0 (a, .inr (ci, fs.set k0 v)) = ws1) (hd : decode cc pc = .ok (.putfield index, 3)) (k : gl X cs ws1 lv (pc + 3) st) : gl X cs ws lv pc (v :: .ref a :: st) :=
  fun H locs ls hP hD hS hl => va_put hC.1 hC.2.1 hC.2.2.2.2.1 hin ty0 hty hnm hC.2.2.2.1 hC.2.2.2.2.2.1 hP hD hS q0 he hc k0 hk (hC.2.2.2.2.1 _ hlink) (fun _ h => hs ▸ h) hf ht hn hfit hl0 hd (fun H1 locs1 p1 d1 s1 => k H1 locs1 ls (h1 ▸ p1) (h1 ▸ d1) s1 hl)
theorem gl_putF (hC : gCL X cc own d L nL ret) (hi : X.1.2.2.2.2.2.2.2.2.1.name = "<init>") {ref C : String} {T : u_T} {N ci index : Nat} (hin : ∀ w ∈ u_ws C T N, w ∈ g_TB) (ty0 : Nat → FieldType) (hty : ∀ k, k < N → parseFieldDescriptor (T k).2.2.1 = some (ty0 k)) (hnm : ∀ a, a < N → ∀ b, b < N → a ≠ b → (T a).2.1 ≠ (T b).2.1) {a : Nat} (q0 : Nat) {fs : List Value} (he : ws[q0]? = some (a, .inr (ci, fs))) (hc : vwCl[ci]? = some (C, T, N)) (k0 : Nat) (hk : k0 < N) (hlink : Cond.fieldLink own index ref (T k0).2.1 (T k0).2.2.1 ∈ g_TB) (hs : (T k0).1 = ref) (hf : (T k0).2.2.2 = true) (hdecl : (T k0).1 = own) {ty : FieldType} {v : Value} (ht : parseFieldDescriptor (T k0).2.2.1 = some ty) (hn : narrow ty v = v) (hfit : fits ty v = true) (hl0 : k0 < fs.length) (ws1 : va_W) (h1 : ws.set q0 (a, .inr (ci, fs.set k0 v)) = ws1) (hd : decode cc pc = .ok (.putfield index, 3)) (k : gl X cs ws1 lv (pc + 3) st) : gl X cs ws lv pc (v :: .ref a :: st) :=
  fun H locs ls hP hD hS hl => va_putF hC.1 hC.2.1 hC.2.2.2.2.1 hin ty0 hty hnm hC.2.2.2.1 hC.2.2.2.2.2.1 hP hD hS q0 he hc k0 hk (hC.2.2.2.2.1 _ hlink) (fun _ h => hs ▸ h) hf hi hdecl ht hn hfit hl0 hd (fun H1 locs1 p1 d1 s1 => k H1 locs1 ls (h1 ▸ p1) (h1 ▸ d1) s1 hl)
theorem gl_kret (hC : gCL X cc own d L nL none) {P : va_W → Prop} {mc ms : Nat} (hQ : X.2.2.2.2.2.2 = MQ X.1.2.2.2.2.2.2.2.1 (g_QK X.2.1 X.2.2.1 X.2.2.2.1 X.2.2.2.2.1 P) X.1.2.2.2.2.2.2.1 X.1.2.2.2.2.1 mc ms X.2.2.2.2.1) (hcs : cs.1 ≤ mc ∧ cs.2 ≤ ms) (hP0 : P ws) (hd : decode cc pc = .ok (.return_, 1)) : gl X cs ws lv pc [] := by
  intro H locs ls hP hD hS hl
  refine W.widen hcs.1 hcs.2 ?_
  rw [hQ]
  exact W.vret hC.1 hC.2.1 hC.2.2.2.2.2.2.2.1 (fun t ht hW => ⟨⟨rfl, ws, hP0, by rw [ht]; exact hP, va_K.moved hW.alike hC.2.2.2.2.2.1, hD⟩, hS.F ht⟩) hS.2.2 hd hC.2.2.2.2.2.2.2.2.1
theorem g_blindK {D : va_G} {cA cL : ClassId} {as : List Value} {G : Vm → Prop} {sz : Nat} : FrameBlind (va_Pc as (fun U => U.heap.size = sz ∧ va_P D vwCl ws U.heap ∧ va_K D vwCl [(cA, .int), (cL, .long)] U ∧ va_D (fun _ => True) ws ∧ G U.vm)) :=
  fun a U g mk q => by
    obtain ⟨q0, q1, qP, qK, qD, qG⟩ := q
    exact ⟨q0, q1, qP, va_K.moved (u := U) (U := U.calling g mk a) (Vm.Alike.refl U.vm) qK, qD, qG⟩
/-- behind a constructor's call -/
theorem gl_ranK {as : Array Value} {P : va_W → Prop} {mc ms : Nat} {st0 rest : List Value} (hC : gCL X cc own d L nL ret)
    (hr : ∀ (H : Heap) (locs : List Loc) (ls : Array Slot), va_P X.2.1 vwCl ws H → va_D X.2.2.2.2.1 ws → va_S X.2.2.2.2.1 X.1.2.2.2.2.1.heap H locs → lv_has ls X.2.2.2.2.2.1 lv →
      va_Run X.1.1 X.1.2.1 X.1.2.2.1 X.1.2.2.2.1 X.1.2.2.2.2.1 X.1.2.2.2.2.2.1 X.1.2.2.2.2.2.2.1 X.1.2.2.2.2.2.2.2.1 X.1.2.2.2.2.2.2.2.2.1 X.1.2.2.2.2.2.2.2.2.2 H locs cs.1 cs.2 mc ms (F0 X.1.2.2.2.2.2.1 pc ls st0) rest (g_QK X.2.1 X.2.2.1 X.2.2.2.1 (va_A ws H.size) P as) (va_A ws H.size))
    (k : ∀ ws1, P ws1 → gl X (cs.1 + mc, cs.2 + ms) ws1 lv (pc + 3) rest) : gl X cs ws lv pc st0 := by
  intro H locs ls hP hD hS hl T hT XX
  obtain ⟨v, st₀, t, T', L, h0, X', hL, e1, e2, ⟨⟨hv, ws1, hPw, hP1, hK1, hD1⟩, hz, hk⟩, stp⟩ := hr H locs ls hP hD hS hl T hT XX
  cases hv
  rw [h0] at hz hk
  have hfree : ∀ q, va_A ws H.size q → X.2.2.2.2.1 q := fun q h => by
    rcases h with ⟨i, ex, h⟩ | h
    · exact hD.2 i _ h
    · exact hC.2.2.2.2.2.2.1 q (Nat.le_trans hS.1 h)
  obtain ⟨t2, a1, b1⟩ := k ws1 hPw T'.heap (locs ++ L) ls (by rw [e1]; exact hP1) (hD1.weaken (fun _ _ _ h => hfree _ h))
    ⟨Nat.le_trans hS.1 (by rw [e1]; exact hz), fun q h1 h2 => by rw [e1, hk q (Nat.lt_of_lt_of_le h1 hS.1) (fun z => h2 (hfree q z))]; exact hS.2.1 q h1 h2, fun q hq => by
      rcases List.mem_append.mp hq with h | h
      · exact hS.2.2 q h
      · exact hfree _ (hL q h)⟩ hl T' rfl X'
  exact ⟨t2, stp t2 a1, b1⟩
theorem gl_callI (hC : gCL X cc own d L nL ret) {y : MethodName} {cy : ByteArray} {my dy Ly mc ms index : Nat} (as rest : List Value) {b : Nat} {G : Vm → Prop} {P : va_W → Prop}
    (hM : MtK X.1.2.1 X.2.1 X.2.2.1 X.2.2.2.1 y cy my dy Ly mc ms (.ref b :: as) G ws P) (hG : ∀ vm, X.1.2.2.2.2.1.WarmedH vm → G vm) (hw : g_okI own index y cy my as.length) (hR : dy + 1 ≤ d ∧ 8 + (my + 11) + Ly ≤ L) (hf : cs.1 + mc ≤ X.1.2.2.2.1.cells ∧ cs.2 + ms ≤ X.1.2.2.2.1.slots) (h8 : (rest.map fun v => v.category).sum ≤ 8) (st0 : List Value) (hs0 : as.reverse ++ .ref b :: rest = st0)
    (hd : decode cc pc = .ok (.invokespecial index, 3)) (k : ∀ ws1, P ws1 → gl X (cs.1 + mc, cs.2 + ms) ws1 lv (pc + 3) rest) : gl X cs ws lv pc st0 := by
  subst hs0
  refine gl_ranK (as := (Value.ref b :: as).toArray) (rest := rest) hC (fun H locs ls hP hD hS hl => ?_) k
  have hts := hC.2.2.2.2.1
  have hLL := hC.2.2.2.2.2.2.2.2.2.2
  exact va_runI ⟨hC.1, hC.2.1, hC.2.2.1, hC.2.2.2.1, hts⟩ (hM H.size) ⟨callB_of as.length hts (g_good hw.1) rfl rfl rfl (hts _ hw.2.1) (hts _ hw.2.2.1) hw.2.2.2.2.2 ⟨Nat.le_trans hR.1 hLL.1, Nat.le_trans hR.2 hLL.2⟩, hw.2.2.2.2.1, hts _ hw.2.2.2.1⟩
    ⟨g_blindK, fun U hU hW => ⟨rfl, by rw [hU], by rw [hU]; exact hP, va_K.moved hW.alike hC.2.2.2.2.2.1, hD.weaken (fun _ _ _ _ => trivial), hG _ hW⟩⟩ rfl rfl (hl.1.trans hC.2.2.2.2.2.2.2.2.2.1) rfl (lv_room h8) hd hf
theorem gl_callIN (hC : gCL X cc own d L nL ret) {y : MethodName} {host : String} {cy : ByteArray} {my dy Ly mc ms index : Nat} (as rest : List Value) {b : Nat} {G : Vm → Prop} {P : va_W → Prop}
    (hM : MtK X.1.2.1 X.2.1 X.2.2.1 X.2.2.2.1 y cy my dy Ly mc ms (.ref b :: as) G ws P) (hG : ∀ vm, X.1.2.2.2.2.1.WarmedH vm → G vm) (hw : g_okIN own index y host cy my as.length) (hnw : va_Nw (.methodLinkNest own index y host) X.1.2.2.2.2.1) (hR : dy + 1 ≤ d ∧ 8 + (my + 11) + Ly ≤ L) (hf : cs.1 + mc ≤ X.1.2.2.2.1.cells ∧ cs.2 + ms ≤ X.1.2.2.2.1.slots) (h8 : (rest.map fun v => v.category).sum ≤ 8) (st0 : List Value) (hs0 : as.reverse ++ .ref b :: rest = st0)
    (hd : decode cc pc = .ok (.invokespecial index, 3)) (k : ∀ ws1, P ws1 → gl X (cs.1 + mc, cs.2 + ms) ws1 lv (pc + 3) rest) : gl X cs ws lv pc st0 := by
  subst hs0
  refine gl_ranK (as := (Value.ref b :: as).toArray) (rest := rest) hC (fun H locs ls hP hD hS hl => ?_) k
  have hts := hC.2.2.2.2.1
  have hLL := hC.2.2.2.2.2.2.2.2.2.2
  exact va_runIN ⟨hC.1, hC.2.1, hC.2.2.1, hC.2.2.2.1, hts⟩ (hM H.size) ⟨va_cnB as.length hts (g_good hw.1) rfl rfl rfl hnw (hts _ hw.2.1) hw.2.2.2.2 ⟨Nat.le_trans hR.1 hLL.1, Nat.le_trans hR.2 hLL.2⟩, hw.2.2.2.1, hts _ hw.2.2.1⟩
    ⟨g_blindK, fun U hU hW => ⟨rfl, by rw [hU], by rw [hU]; exact hP, va_K.moved hW.alike hC.2.2.2.2.2.1, hD.weaken (fun _ _ _ _ => trivial), hG _ hW⟩⟩ rfl rfl (hl.1.trans hC.2.2.2.2.2.2.2.2.2.1) rfl (lv_room h8) hd hf
end GC
