/-! a handler whose class may not be resolved yet -/
section GK
variable {E : CtlPost} {e : Env} {d : Bool} {acts : List Action} {s : State} {f : JFrame} {a : Addr} {Q : Handler → Pre}
theorem g_goCold {x : ExceptionTableEntry} {t : List ExceptionTableEntry} {c : ClassId} {cell : Cell} {vm' : Vm} (hx : covers x f.pc = true) (h0 : x.catchType ≠ 0)
    (hg : (Jvm.resolveClass f.method.cls x.catchType).Gives e.toSetting s.vm (.ok c) vm') (hsz : vm'.classes.size ≤ s.vm.classes.size) (hcell : s.heap[a]? = some cell) (hobj : ∀ k, cell.vm ≠ .statics k)
    (hk : ∃ k, vm'.classes[cell.cls]? = some k) (hc : ∃ k, vm'.classes[c]? = some k) :
    wp (findHandler.go f a (x :: t)) Q E e d acts s ↔
      if vm'.assignable cell.cls c = true then Q (.found x.handlerPc) d acts (s.setVm vm') else wp (findHandler.go f a t) Q E e d acts (s.setVm vm') := by
  simp only [covers] at hx
  have hop : (VmOp.resolveClass f.method.cls x.catchType).answer e s.vm = .ok c ∧ (VmOp.resolveClass f.method.cls x.catchType).tables e s.vm = vm' := hg.op rfl
  have hcell2 : (s.setVm vm').heap[a]? = some cell := hcell
  have hk2 : ∃ k, (s.setVm vm').vm.classes[cell.cls]? = some k := hk
  have hc2 : ∃ k, (s.setVm vm').vm.classes[c]? = some k := hc
  rw [findHandler.go]
  simp only [hx, if_true, beq_iff_eq, h0, if_false, wp_bind']
  rw [W.vmOp_same _ (by rw [hop.2]; exact hsz), hop.1, hop.2]
  cases hfit : (s.setVm vm').vm.assignable cell.cls c <;>
    simp_all [VmOp.dirties, VmOp.acts]
end GK
/-- what a search gives that may warm the tables -/
def g_Finds (e : Env) (s : State) (f : JFrame) (a : Addr) (h : Handler) (vm' : Vm) : Prop :=
  ∀ (Q : Handler → Pre) (E : CtlPost) (d : Bool) (acts : List Action), wp (findHandler f a) Q E e d acts s ↔ Q h d acts (s.setVm vm')
theorem g_stepCatch {e : Env} {s : State} {a : Addr} {f : JFrame} {r : List Frame} {pc : Nat} {vm' : Vm} (hfind : g_Finds e s f a (.found pc) vm') :
    (stepThrowing e s a (.java f :: r)).Is ((s.setVm vm').setFrames (.java { f with pc := pc, stack := [.ref a] } :: r)) [] := by
  simp only [stepThrowing, searchFrame, vmDo]
  generalize hr : Sem.go _ e false [] s = res
  obtain ⟨as, rfl, ha⟩ := Sem.eq_ok_of hr (a := Handler.found pc) (s' := s.setVm vm') (acts' := []) (by simp [hfind _ _ _ _])
  exact ⟨rfl, ha⟩
theorem g_caught {tb : Tables} {e : Env} {s target : State} {g : JFrame} {c : Code} {below : List Frame} {a : Addr} {vm' : Vm} (h : At s g.method c below) {pc : Nat} (hfind : g_Finds e ((s.setTop g).pushFrame (.throwing a)) g a (.found pc) vm')
    (hrest : Steps tb e below ((s.setVm vm').setTop { g with pc := pc, stack := [.ref a] }) target) :
    Steps tb e below ((s.setTop g).pushFrame (.throwing a)) target := by
  obtain ⟨hgo, hw⟩ := h.throwing a
  refine Steps.head hgo hw ?_
  rw [stepThread_throwing (frames_entered h.top _), (g_stepCatch (s := (s.setTop g).pushFrame (.throwing a)) hfind).1]
  obtain ⟨g₀, hg⟩ := Option.isSome_iff_exists.mp h.top
  obtain ⟨r, hr⟩ := State.topJava?_eq_some.mp hg
  have e1 : (((s.setTop g).pushFrame (.throwing a)).setVm vm').setFrames (.java { g with pc := pc, stack := [.ref a] } :: s.frames.tail) = (s.setVm vm').setTop { g with pc := pc, stack := [.ref a] } := by
    have hr' : (s.setVm vm').frames = .java g₀ :: r := hr
    rw [State.setTop_of_frames _ hr']
    have e2 : ((s.setTop g).pushFrame (.throwing a)).setFrames (.java { g with pc := pc, stack := [.ref a] } :: s.frames.tail) = s.setFrames (.java { g with pc := pc, stack := [.ref a] } :: r) := by
      rw [State.pushFrame, State.setFrames_setFrames, State.setTop_of_frames _ hr, State.setFrames_setFrames, hr]
      rfl
    exact congrArg (fun z : State => z.setVm vm') e2
  rw [e1]
  exact hrest
section GK2
variable {p : Program} {l : Launch} {e : Env} {R : Room} {s : State} {m : MethodId} {args : Array Value} {below : List Frame} {meth : Method} {c : Code} {T : State} {locs : List Loc} {cells slots : Nat}
/-- caught by the first handler -/
theorem g_catch1 (X : Stand p l e R s m args below meth c T locs cells slots) (x : Addr) {g : JFrame} (hg : g.method = m) {h1 : ExceptionTableEntry} {tl : List ExceptionTableEntry} (htab : c.exceptionTable.toList = h1 :: tl) (hcov : covers h1 g.pc = true) (h0 : h1.catchType ≠ 0)
    {own cls : String} (hown : s.vm.findClass own = some m.cls) (hlink : (Cond.classLink own h1.catchType cls).before args s = true) {ce : Cell} (hcell : T.heap[x]? = some ce) (hvm : ce.vm = .none) (hcls : T.vm.findClass cls = some ce.cls) (hself : T.vm.assignable ce.cls ce.cls = true) {k : Class} (hk : T.vm.classes[ce.cls]? = some k) :
    ∃ vm' : Vm, s.WarmedH vm' ∧ T.vm.Alike vm' ∧ Stand p l e R s m args below meth c (T.setVm vm') locs cells slots ∧ ∀ target, Steps p.tables e below ((T.setVm vm').setTop { g with pc := h1.handlerPc, stack := [.ref x] }) target → Steps p.tables e below ((T.setTop g).pushFrame (.throwing x)) target := by
  subst hg
  have hpl : e.platform.magicAccessors = ({} : Platform).magicAccessors := by rw [X.admits.platform]
  obtain ⟨cc, hfcc, hcl⟩ := Cond.classLink_spec hown hlink e.platform hpl
  obtain ⟨hg₁, hwarm₁, hready₁⟩ := State.classEntry (e := e) X.warmed hcl
  generalize T.vm.noted g.method.cls h1.catchType (.cls cc) = vm₁ at hg₁ hwarm₁ hready₁
  have hal : T.vm.Alike vm₁ := X.warmed.alike.symm.trans hwarm₁.alike
  have hcc : cc = ce.cls := by
    have e1 : T.vm.findClass cls = some cc := by rw [X.warmed.alike.findClass]; exact hfcc
    exact Option.some.inj (e1.symm.trans hcls)
  subst hcc
  obtain ⟨k', hk', -⟩ := hal.2.2 _ _ hk
  refine ⟨vm₁, hwarm₁, hal, X.noted hwarm₁, fun target hrest => g_caught X.here (vm' := vm₁) (pc := h1.handlerPc) ?_ hrest⟩
  intro Q E d acts
  have hm' : ((T.setTop g).pushFrame (.throwing x)).vm.method? g.method = some meth := by rw [Stand.throwing_vm]; exact X.method'
  rw [W.findHandler_eq hm' X.code, htab, g_goCold (c := ce.cls) (cell := ce) (vm' := vm₁) hcov h0 (by rw [Stand.throwing_vm]; exact hg₁) (by rw [Stand.throwing_vm, hwarm₁.2.1, X.warmed.2.1]; exact Nat.le_refl _) (by rw [Stand.throwing_heap]; exact hcell) (fun z h => by rw [hvm] at h; cases h) ⟨k', hk'⟩ ⟨k', hk'⟩, if_pos (by rw [hal.assignable]; exact hself)]
/-- caught by the second handler: the first's class is another -/
theorem g_catch2 (X : Stand p l e R s m args below meth c T locs cells slots) (x : Addr) {g : JFrame} (hg : g.method = m) {h1 h2 : ExceptionTableEntry} {tl : List ExceptionTableEntry} (htab : c.exceptionTable.toList = h1 :: h2 :: tl) (hcov : covers h1 g.pc = true) (h0 : h1.catchType ≠ 0) (hcov2 : covers h2 g.pc = true) (h02 : h2.catchType ≠ 0)
    {own cls cls1 : String} (hown : s.vm.findClass own = some m.cls) (hlink1 : (Cond.classLink own h1.catchType cls1).before args s = true) (hlink : (Cond.classLink own h2.catchType cls).before args s = true) {ce : Cell} (hcell : T.heap[x]? = some ce) (hvm : ce.vm = .none) (hcls : T.vm.findClass cls = some ce.cls) (hself : T.vm.assignable ce.cls ce.cls = true) {k : Class} (hk : T.vm.classes[ce.cls]? = some k) (hnc : va_Nc cls cls1 T) :
    ∃ vm' : Vm, s.WarmedH vm' ∧ T.vm.Alike vm' ∧ Stand p l e R s m args below meth c (T.setVm vm') locs cells slots ∧ ∀ target, Steps p.tables e below ((T.setVm vm').setTop { g with pc := h2.handlerPc, stack := [.ref x] }) target → Steps p.tables e below ((T.setTop g).pushFrame (.throwing x)) target := by
  subst hg
  have hpl : e.platform.magicAccessors = ({} : Platform).magicAccessors := by rw [X.admits.platform]
  obtain ⟨c1, hfc1, hcl1⟩ := Cond.classLink_spec hown hlink1 e.platform hpl
  obtain ⟨cc, hfcc, hcl⟩ := Cond.classLink_spec hown hlink e.platform hpl
  obtain ⟨hg₁, hwarm₁, hready₁⟩ := State.classEntry (e := e) X.warmed hcl1
  generalize T.vm.noted g.method.cls h1.catchType (.cls c1) = vm₁ at hg₁ hwarm₁ hready₁
  obtain ⟨hg₂, hwarm₂, hready₂⟩ := State.classEntry (e := e) hwarm₁ hcl
  generalize vm₁.noted g.method.cls h2.catchType (.cls cc) = vm₂ at hg₂ hwarm₂ hready₂
  have hal1 : T.vm.Alike vm₁ := X.warmed.alike.symm.trans hwarm₁.alike
  have hal : T.vm.Alike vm₂ := X.warmed.alike.symm.trans hwarm₂.alike
  have hcc : cc = ce.cls := by
    have e1 : T.vm.findClass cls = some cc := by rw [X.warmed.alike.findClass]; exact hfcc
    exact Option.some.inj (e1.symm.trans hcls)
  subst hcc
  have hc1 : T.vm.findClass cls1 = some c1 := by rw [X.warmed.alike.findClass]; exact hfc1
  obtain ⟨k1, hk1, -⟩ := hal1.2.2 _ _ hk
  obtain ⟨k', hk', -⟩ := hal.2.2 _ _ hk
  obtain ⟨kc, hkc⟩ := Vm.classAt_of_findClass hc1
  obtain ⟨kc1, hkc1, -⟩ := hal1.2.2 _ _ hkc
  have hno : vm₁.assignable ce.cls c1 = false := by
    obtain ⟨u1, u2, hu1, hu2, hu3⟩ := hnc
    cases hu1.symm.trans hcls
    cases hu2.symm.trans hc1
    rw [hal1.assignable]
    exact hu3
  refine ⟨vm₂, hwarm₂, hal, X.noted hwarm₂, fun target hrest => g_caught X.here (vm' := vm₂) (pc := h2.handlerPc) ?_ hrest⟩
  intro Q E d acts
  have hm' : ((T.setTop g).pushFrame (.throwing x)).vm.method? g.method = some meth := by rw [Stand.throwing_vm]; exact X.method'
  rw [W.findHandler_eq hm' X.code, htab, g_goCold (c := c1) (cell := ce) (vm' := vm₁) hcov h0 (by rw [Stand.throwing_vm]; exact hg₁) (by rw [Stand.throwing_vm, hwarm₁.2.1, X.warmed.2.1]; exact Nat.le_refl _) (by rw [Stand.throwing_heap]; exact hcell) (fun z h => by rw [hvm] at h; cases h) ⟨k1, hk1⟩ ⟨kc1, hkc1⟩, if_neg (by rw [hno]; decide),
    g_goCold (s := ((T.setTop g).pushFrame (.throwing x)).setVm vm₁) (c := ce.cls) (cell := ce) (vm' := vm₂) hcov2 h02 hg₂ (by show vm₂.classes.size ≤ vm₁.classes.size; rw [hwarm₂.2.1, hwarm₁.2.1]; exact Nat.le_refl _) (by show ((T.setTop g).pushFrame (.throwing x)).heap[x]? = some ce; rw [Stand.throwing_heap]; exact hcell) (fun z h => by rw [hvm] at h; cases h) ⟨k', hk'⟩ ⟨k', hk'⟩, if_pos (by rw [hal.assignable]; exact hself)]
  rfl
end GK2
