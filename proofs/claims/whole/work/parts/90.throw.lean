section GT
variable {p : Program} {l : Launch} {e : Env} {R : Room} {s : State} {m : MethodId} {args : Array Value} {below : List Frame} {meth : Method} {c : Code} {T : State} {locs : List Loc}
def g_re (s T : State) : State := ({ s with heap := T.heap, slotsUsed := T.slotsUsed } : State).setVm T.vm
/-- a walk that has made nothing yet may be taken as one that begins here -/
theorem g_rebase (X : Stand p l e R s m args below meth c T locs 0 0) : Stand p l e R (g_re s T) m args below meth c T [] 0 0 := by
  have hsz : T.heap.size = s.heap.size := Nat.le_antisymm (by have := X.heapSize; simpa using this) X.same.2.1
  have hus : T.slotsUsed ≤ s.slotsUsed := by have := X.used; simpa using this
  have hal := X.warmed.alike
  have hfr : (g_re s T).frames = s.frames := rfl
  have hlo : (g_re s T).localsInUse = s.localsInUse := by
    unfold State.localsInUse
    rw [hfr, X.frames]
    have h1 : (g_re s T).vm.method? m = s.vm.method? m := hal.method? m
    simp only [h1]
  refine ⟨X.admits, X.cas, X.clock, X.frames, ?_, ?_, X.method', X.code, X.here, X.tail, State.WarmedH.refl _, X.limits, X.bytes, ?_⟩
  · have hr := X.room
    have hbk : (g_re s T).slotsTrue = true := X.book
    simp only [State.hasRoom, Bool.and_eq_true, decide_eq_true_eq] at hr ⊢
    refine ⟨⟨⟨⟨?_, ?_⟩, ?_⟩, ?_⟩, hbk⟩
    · rw [hlo]; exact hr.1.1.1.1
    · rw [hlo]; exact hr.1.1.1.2
    · show T.heap.size + R.cells ≤ _
      rw [hsz]; exact hr.1.1.2
    · show T.slotsUsed + R.slots ≤ _
      have := hr.1.2
      omega
  · have hh := X.hears
    have hc : ∀ q, (g_re s T).code? q = s.code? q := fun q => by rw [State.code?_eq, State.code?_eq, show (g_re s T).vm.method? q = s.vm.method? q from hal.method? q]
    have hm2 : (g_re s T).vm.method? m = s.vm.method? m := hal.method? m
    cases below with
    | nil => simpa [State.hears, hm2] using hh
    | cons f r => cases f <;> simpa [State.hears, hc, hm2] using hh
  · have e0 := congrArg (fun z : State => z.setVm T.vm) X.same.1
    refine ⟨e0, Nat.le_refl _, Nat.le_refl _, ?_, ?_, fun a c hc => ⟨c, hc, rfl, rfl, fun _ _ => rfl⟩⟩
    · show T.slotsUsed = T.slotsUsed + ((T.heap.toList.drop T.heap.size).map (·.slots.size)).sum
      rw [List.drop_of_length_le (by simp)]
      rfl
    · show ((T.heap.toList.drop T.heap.size).map (·.slots.size)).sum ≤ 0
      rw [List.drop_of_length_le (by simp)]
      exact Nat.le_refl 0
end GT
/-- a static of Throwable's: it is laid, and holds a reference or null -/
def g_Z (n d : String) (A : Nat → Prop) (U : State) (H : Heap) : Prop := ∃ (c : ClassId) (k : Class) (i : Nat) (f : Field) (a : Nat) (cell : Cell) (v : Value), U.vm.findClass "java/lang/Throwable" = some c ∧ U.fieldFound? "java/lang/Throwable" n d = some (c, k, i, f) ∧ f.isStatic = true ∧ k.statics = some a ∧ H[a]? = some cell ∧ cell.vm.isStatics = true ∧ cell.cls = c ∧
  f.slot < cell.slots.size ∧ k.staticTypes[f.slot]? = some f.type ∧ cell.slots[f.slot]? = some v ∧ (v = .null ∨ ∃ t, v = .ref t) ∧ ¬ A a
theorem g_Z.of {n d : String} {A : Nat → Prop} {U : State} {as : Array Value} (hl : (Cond.laysStatic "java/lang/Throwable" n d).before as U = true) (h : (Cond.isRef (.static "java/lang/Throwable" n d)).before as U = true) (hA : ∀ a : Nat, a < U.heap.size → ¬ A a) : g_Z n d A U U.heap := by
  obtain ⟨c, k, i, f, a, cell, hc, hi, hst, ha, hcell, hs, hcls, hlt, hty⟩ := Cond.laysStatic_spec hl
  cases hv : (Term.static "java/lang/Throwable" n d).eval as U none [] U with
  | none => simp [Cond.before, Cond.holds, Cond.value, hv] at h
  | some w =>
    obtain ⟨hst', a', cell', ha', hcell', -, hslot⟩ := Term.static_spec hi hv
    cases ha.symm.trans ha'
    cases hcell.symm.trans hcell'
    refine ⟨c, k, i, f, a, cell, w, hc, hi, hst, ha, hcell, hs, hcls, hlt, hty, hslot, ?_, hA a (Array.getElem?_eq_some_iff.mp hcell).1⟩
    simp only [Cond.before, Cond.holds, Cond.value, hv] at h
    cases w with
    | null => exact Or.inl rfl
    | ref t => exact Or.inr ⟨t, rfl⟩
    | _ => simp at h
theorem g_Z.moved {n d : String} {A : Nat → Prop} {u U : State} {H : Heap} (hvm : u.vm.Alike U.vm) (h : g_Z n d A u H) : g_Z n d A U H := by
  obtain ⟨c, k, i, f, a, cell, v, h0, h1, h2, h3, h4, h5, h6, h7, h8, h9⟩ := h
  obtain ⟨k', hi', he⟩ := State.fieldFound?_setVm hvm h1
  exact ⟨c, k', i, f, a, cell, v, by rw [hvm.findClass]; exact h0, hi', h2, by rw [he]; exact h3, h4, h5, h6, h7, by rw [he]; exact h8, h9⟩
theorem g_Z.kept {n d : String} {A : Nat → Prop} {U : State} {H H1 : Heap} (h : g_Z n d A U H) (hq : ∀ a : Nat, a < H.size → ¬ A a → H1[a]? = H[a]?) : g_Z n d A U H1 := by
  obtain ⟨c, k, i, f, a, cell, v, h0, h1, h2, h3, h4, h5, h6, h7, h8, h9, h10, h11⟩ := h
  exact ⟨c, k, i, f, a, cell, v, h0, h1, h2, h3, by rw [hq a (Array.getElem?_eq_some_iff.mp h4).1 h11]; exact h4, h5, h6, h7, h8, h9, h10, h11⟩
theorem g_Z.narrow {n d : String} {A B : Nat → Prop} {U : State} {H : Heap} (h : g_Z n d A U H) (hAB : ∀ q, B q → A q) : g_Z n d B U H := by
  obtain ⟨c, k, i, f, a, cell, v, h0, h1, h2, h3, h4, h5, h6, h7, h8, h9, h10, h11⟩ := h
  exact ⟨c, k, i, f, a, cell, v, h0, h1, h2, h3, h4, h5, h6, h7, h8, h9, h10, fun z => h11 (hAB a z)⟩
theorem g_Z.lays {n d : String} {A : Nat → Prop} {U : State} {as : Array Value} (h : g_Z n d A U U.heap) : (Cond.laysStatic "java/lang/Throwable" n d).before as U = true := by
  obtain ⟨c, k, i, f, a, cell, v, h0, h1, h2, h3, h4, h5, h6, h7, h8, h9, h10, h11⟩ := h
  simp [Cond.before, Cond.holds, Cond.value, h0, h1, h2, h3, h4, h5, h6, h7, h8]
theorem g_Z.ref {n d : String} {A : Nat → Prop} {U : State} {as : Array Value} (h : g_Z n d A U U.heap) : (Cond.isRef (.static "java/lang/Throwable" n d)).before as U = true := by
  obtain ⟨c, k, i, f, a, cell, v, h0, h1, h2, h3, h4, h5, h6, h7, h8, h9, h10, h11⟩ := h
  rcases h10 with rfl | ⟨t, rfl⟩ <;> simp [Cond.before, Cond.holds, Cond.value, Term.eval, State.fieldNamed?, h1, h2, h3, h4, h5, h9]
/-- the texts that the class throws with -/
def g_strs : List (Nat × String) := [(44, "n is not 1 .. 4"), (54, "there would be more than 600 units"), (75, "the pattern is too long or wrong"), (107, "there is no result"), (109, "there is no such group"), (120, "there is no such place"), (122, "the fuel is not 1 .. 10,000"), (124, "there is no pattern")]
def g_mild : List Cond := [.declares (Bundle.initS "java/lang/RuntimeException"), .declares (Bundle.initS "java/lang/Exception"), .declares (Bundle.initS "java/lang/Throwable"), .castable "java/lang/IllegalArgumentException" "java/lang/IllegalArgumentException", .castable "java/lang/IllegalStateException" "java/lang/IllegalStateException"]
theorem g_mildT {c : Cond} (hc : c.onTables = true) {u U : State} (h : c.before #[] (u.setVm U.vm) = true) : c.before #[] U = true := by
  have e := Cond.onTables_vm (A := #[]) (A' := #[]) (U := u) (U' := U) U.vm c hc
  have hU : U.setVm U.vm = U := rfl
  rw [hU] at e
  rw [← e]
  exact h
theorem g_mildM {u U : State} (hvm : u.vm.Alike U.vm) (h : ∀ w ∈ g_mild, w.before #[] u = true) : ∀ w ∈ g_mild, w.before #[] U = true := by
  intro w hw
  have h0 := h w hw
  simp only [g_mild, List.mem_cons, List.not_mem_nil, or_false] at hw
  rcases hw with rfl | rfl | rfl | rfl | rfl
  · exact g_mildT rfl (by rw [Cond.declares_setVm hvm]; exact h0)
  · exact g_mildT rfl (by rw [Cond.declares_setVm hvm]; exact h0)
  · exact g_mildT rfl (by rw [Cond.declares_setVm hvm]; exact h0)
  · exact g_mildT rfl (by rw [Cond.castable_setVm hvm]; exact h0)
  · exact g_mildT rfl (by rw [Cond.castable_setVm hvm]; exact h0)
theorem g_mildO : ∀ w ∈ g_mild, w.onTables = true := by decide +kernel
/-- what a throw needs of the state at a method's start -/
def g_St (A : Nat → Prop) (U : State) (H : Heap) : Prop := (∀ w ∈ g_mild, w.before #[] U = true) ∧ g_Z "UNASSIGNED_STACK" "[Ljava/lang/StackTraceElement;" A U H ∧ g_Z "SUPPRESSED_SENTINEL" "Ljava/util/List;" A U H ∧ ∀ q ∈ g_strs, ∃ a, vk_R "PatternDesk" q.1 q.2 a U
def g_T (X : g_X) : Prop := X.1.2.2.1.platform.stackTraces = false ∧ g_St X.2.2.2.1 X.1.2.2.2.2.1 X.1.2.2.2.2.1.heap ∧ 1 ≤ X.1.2.2.2.1.cells ∧ 6 ≤ X.1.2.2.2.1.slots ∧
  (∀ (q : Nat) (cell : Cell), X.2.2.2.1 q → X.1.2.2.2.2.1.heap[q]? = some cell → cell.vm.isStatics = false) ∧ X.1.2.2.2.2.2.2.2.2.2.exceptionTable.isEmpty = true
/-- the words of a throw: all but four stand in the tables -/
def g_tw (a : Cond) : Prop := a ∈ g_TB ∨ a = .isRef (.static "java/lang/Throwable" "UNASSIGNED_STACK" "[Ljava/lang/StackTraceElement;") ∨ a = .isRef (.static "java/lang/Throwable" "SUPPRESSED_SENTINEL" "Ljava/util/List;") ∨
  a = .laysStatic "java/lang/Throwable" "UNASSIGNED_STACK" "[Ljava/lang/StackTraceElement;" ∨ a = .laysStatic "java/lang/Throwable" "SUPPRESSED_SENTINEL" "Ljava/util/List;" ∨ a ∈ g_mild
def g_okT (ic : Nat) (cls : String) : Prop := ∀ a ∈ Bundle.ownAtoms R_Desk ic cls ["java/lang/RuntimeException", "java/lang/Exception"], g_tw a
theorem g_tw0 : ∀ a ∈ Bundle.throwableAtoms, g_tw a := List.forall_mem_cons.mpr ⟨Or.inl (g_mem (List.mem_append_right _ (List.mem_append_left _ (List.mem_of_getElem? (i := 6) (by decide +kernel)))) rfl), List.forall_mem_cons.mpr ⟨Or.inl (g_mem (List.mem_append_right _ (List.mem_append_right _ (List.mem_append_left _ (List.mem_of_getElem? (i := 67) (by decide +kernel))))) rfl), List.forall_mem_cons.mpr ⟨Or.inl (g_mem (List.mem_append_right _ (List.mem_append_right _ (List.mem_append_left _ (List.mem_of_getElem? (i := 76) (by decide +kernel))))) rfl), List.forall_mem_cons.mpr ⟨Or.inl (g_mem (List.mem_append_right _ (List.mem_append_right _ (List.mem_append_left _ (List.mem_of_getElem? (i := 79) rfl)))) rfl), List.forall_mem_cons.mpr ⟨Or.inl (g_mem (List.mem_append_right _ (List.mem_append_right _ (List.mem_append_left _ (List.mem_of_getElem? (i := 82) (by decide +kernel))))) rfl), List.forall_mem_cons.mpr ⟨Or.inl (g_mem (List.mem_append_right _ (List.mem_append_right _ (List.mem_append_left _ (List.mem_of_getElem? (i := 84) (by decide +kernel))))) rfl), List.forall_mem_cons.mpr ⟨Or.inl (g_mem (List.mem_append_right _ (List.mem_append_right _ (List.mem_append_left _ (List.mem_of_getElem? (i := 68) (by decide +kernel))))) rfl), List.forall_mem_cons.mpr ⟨Or.inl (g_mem (List.mem_append_right _ (List.mem_append_right _ (List.mem_append_left _ (List.mem_of_getElem? (i := 69) rfl)))) rfl), List.forall_mem_cons.mpr ⟨Or.inl (g_mem (List.mem_append_right _ (List.mem_append_left _ (List.mem_of_getElem? (i := 20) (by decide +kernel)))) rfl), List.forall_mem_cons.mpr ⟨Or.inl (g_mem (List.mem_append_right _ (List.mem_append_left _ (List.mem_of_getElem? (i := 21) rfl))) rfl), List.forall_mem_cons.mpr ⟨Or.inl (g_mem (List.mem_append_right _ (List.mem_append_right _ (List.mem_append_left _ (List.mem_of_getElem? (i := 70) (by decide +kernel))))) rfl), List.forall_mem_cons.mpr ⟨Or.inl (g_mem (List.mem_append_right _ (List.mem_append_right _ (List.mem_append_left _ (List.mem_of_getElem? (i := 75) (by decide +kernel))))) rfl), List.forall_mem_cons.mpr ⟨Or.inl (g_mem (List.mem_append_right _ (List.mem_append_right _ (List.mem_append_left _ (List.mem_of_getElem? (i := 80) (by decide +kernel))))) rfl), List.forall_mem_cons.mpr ⟨Or.inl (g_mem (List.mem_append_right _ (List.mem_append_right _ (List.mem_append_left _ (List.mem_of_getElem? (i := 100) (by decide +kernel))))) rfl), List.forall_mem_cons.mpr ⟨Or.inl (g_mem (List.mem_append_right _ (List.mem_append_right _ (List.mem_append_left _ (List.mem_of_getElem? (i := 57) (by decide +kernel))))) rfl), List.forall_mem_cons.mpr ⟨Or.inl (g_mem (List.mem_append_right _ (List.mem_append_right _ (List.mem_append_left _ (List.mem_of_getElem? (i := 101) (by decide +kernel))))) rfl), List.forall_mem_cons.mpr ⟨Or.inl (g_mem (List.mem_append_right _ (List.mem_append_right _ (List.mem_append_left _ (List.mem_of_getElem? (i := 59) (by decide +kernel))))) rfl), List.forall_mem_cons.mpr ⟨Or.inl (g_mem (List.mem_append_right _ (List.mem_append_right _ (List.mem_append_left _ (List.mem_of_getElem? (i := 102) (by decide +kernel))))) rfl), List.forall_mem_cons.mpr ⟨Or.inl (g_mem (List.mem_append_right _ (List.mem_append_right _ (List.mem_append_left _ (List.mem_of_getElem? (i := 61) (by decide +kernel))))) rfl), List.forall_mem_cons.mpr ⟨Or.inl (g_mem (List.mem_append_right _ (List.mem_append_right _ (List.mem_append_left _ (List.mem_of_getElem? (i := 71) (by decide +kernel))))) rfl), List.forall_mem_cons.mpr ⟨Or.inr (Or.inr (Or.inr (Or.inl rfl))), List.forall_mem_cons.mpr ⟨Or.inl (g_mem (List.mem_append_right _ (List.mem_append_right _ (List.mem_append_left _ (List.mem_of_getElem? (i := 73) (by decide +kernel))))) rfl), List.forall_mem_cons.mpr ⟨Or.inr (Or.inr (Or.inr (Or.inr (Or.inl rfl)))), List.forall_mem_cons.mpr ⟨Or.inl (g_mem (List.mem_append_right _ (List.mem_append_right _ (List.mem_append_left _ (List.mem_of_getElem? (i := 63) (by decide +kernel))))) rfl), fun _ h => absurd h List.not_mem_nil⟩⟩⟩⟩⟩⟩⟩⟩⟩⟩⟩⟩⟩⟩⟩⟩⟩⟩⟩⟩⟩⟩⟩⟩
theorem g_tw1 : ∀ a ∈ Bundle.throwableSAtoms, g_tw a := List.forall_mem_cons.mpr ⟨Or.inl (g_mem (List.mem_append_right _ (List.mem_append_right _ (List.mem_append_left _ (List.mem_of_getElem? (i := 96) (by decide +kernel))))) rfl), List.forall_mem_cons.mpr ⟨Or.inl (g_mem (List.mem_append_right _ (List.mem_append_right _ (List.mem_append_left _ (List.mem_of_getElem? (i := 97) rfl)))) rfl), List.forall_mem_cons.mpr ⟨Or.inl (g_mem (List.mem_append_right _ (List.mem_append_right _ (List.mem_append_left _ (List.mem_of_getElem? (i := 99) (by decide +kernel))))) rfl), List.forall_mem_cons.mpr ⟨Or.inl (g_mem (List.mem_append_right _ (List.mem_append_right _ (List.mem_append_left _ (List.mem_of_getElem? (i := 63) (by decide +kernel))))) rfl), fun _ h => absurd h List.not_mem_nil⟩⟩⟩⟩
theorem g_twR : ∀ a ∈ Bundle.passSAtoms "java/lang/RuntimeException" "java/lang/Exception" 7 Bundle.six, g_tw a := List.forall_mem_cons.mpr ⟨Or.inl (g_mem (List.mem_append_right _ (List.mem_append_right _ (List.mem_append_left _ (List.mem_of_getElem? (i := 90) (by decide +kernel))))) rfl), List.forall_mem_cons.mpr ⟨Or.inl (g_mem (List.mem_append_right _ (List.mem_append_right _ (List.mem_append_left _ (List.mem_of_getElem? (i := 91) rfl)))) rfl), List.forall_mem_cons.mpr ⟨Or.inl (g_mem (List.mem_append_right _ (List.mem_append_right _ (List.mem_append_left _ (List.mem_of_getElem? (i := 92) (by decide +kernel))))) rfl), List.forall_mem_cons.mpr ⟨Or.inl (g_mem (List.mem_append_right _ (List.mem_append_right _ (List.mem_append_left _ (List.mem_of_getElem? (i := 93) (by decide +kernel))))) rfl), List.forall_mem_cons.mpr ⟨Or.inr (Or.inr (Or.inr (Or.inr (Or.inr (List.mem_of_getElem? (i := 1) rfl))))), fun _ h => absurd h List.not_mem_nil⟩⟩⟩⟩⟩
theorem g_twE : ∀ a ∈ Bundle.passSAtoms "java/lang/Exception" "java/lang/Throwable" 7 Bundle.six, g_tw a := List.forall_mem_cons.mpr ⟨Or.inl (g_mem (List.mem_append_right _ (List.mem_append_right _ (List.mem_append_left _ (List.mem_of_getElem? (i := 93) (by decide +kernel))))) rfl), List.forall_mem_cons.mpr ⟨Or.inl (g_mem (List.mem_append_right _ (List.mem_append_right _ (List.mem_append_left _ (List.mem_of_getElem? (i := 94) rfl)))) rfl), List.forall_mem_cons.mpr ⟨Or.inl (g_mem (List.mem_append_right _ (List.mem_append_right _ (List.mem_append_left _ (List.mem_of_getElem? (i := 95) (by decide +kernel))))) rfl), List.forall_mem_cons.mpr ⟨Or.inl (g_mem (List.mem_append_right _ (List.mem_append_right _ (List.mem_append_left _ (List.mem_of_getElem? (i := 96) (by decide +kernel))))) rfl), List.forall_mem_cons.mpr ⟨Or.inr (Or.inr (Or.inr (Or.inr (Or.inr (List.mem_of_getElem? (i := 2) rfl))))), fun _ h => absurd h List.not_mem_nil⟩⟩⟩⟩⟩
theorem g_twI : ∀ a ∈ Bundle.passSAtoms "java/lang/IllegalArgumentException" "java/lang/RuntimeException" 7 Bundle.six, g_tw a := List.forall_mem_cons.mpr ⟨Or.inl (g_mem (List.mem_append_right _ (List.mem_append_right _ (List.mem_append_left _ (List.mem_of_getElem? (i := 87) (by decide +kernel))))) rfl), List.forall_mem_cons.mpr ⟨Or.inl (g_mem (List.mem_append_right _ (List.mem_append_right _ (List.mem_append_left _ (List.mem_of_getElem? (i := 88) rfl)))) rfl), List.forall_mem_cons.mpr ⟨Or.inl (g_mem (List.mem_append_right _ (List.mem_append_right _ (List.mem_append_left _ (List.mem_of_getElem? (i := 89) (by decide +kernel))))) rfl), List.forall_mem_cons.mpr ⟨Or.inl (g_mem (List.mem_append_right _ (List.mem_append_right _ (List.mem_append_left _ (List.mem_of_getElem? (i := 90) (by decide +kernel))))) rfl), List.forall_mem_cons.mpr ⟨Or.inr (Or.inr (Or.inr (Or.inr (Or.inr (List.mem_of_getElem? (i := 0) rfl))))), fun _ h => absurd h List.not_mem_nil⟩⟩⟩⟩⟩
theorem g_atI : g_okT 46 "java/lang/IllegalArgumentException" :=
  List.forall_mem_append.mpr ⟨List.forall_mem_append.mpr ⟨List.forall_mem_append.mpr ⟨g_tw0, g_tw1⟩, List.forall_mem_append.mpr ⟨g_twI, List.forall_mem_append.mpr ⟨g_twR, g_twE⟩⟩⟩, List.forall_mem_cons.mpr ⟨Or.inl (g_mem (List.mem_append_right _ (List.mem_append_right _ (List.mem_append_left _ (List.mem_of_getElem? (i := 86) (by decide +kernel))))) rfl), List.forall_mem_cons.mpr ⟨Or.inl (g_mem (List.mem_append_right _ (List.mem_append_right _ (List.mem_append_left _ (List.mem_of_getElem? (i := 46) (by decide +kernel))))) rfl), List.forall_mem_cons.mpr ⟨Or.inr (Or.inr (Or.inr (Or.inr (Or.inr (List.mem_of_getElem? (i := 3) rfl))))), List.forall_mem_cons.mpr ⟨Or.inl (g_mem (List.mem_append_right _ (List.mem_append_right _ (List.mem_append_left _ (List.mem_of_getElem? (i := 54) (by decide +kernel))))) rfl), List.forall_mem_cons.mpr ⟨Or.inl (g_mem (List.mem_append_right _ (List.mem_append_right _ (List.mem_append_left _ (List.mem_of_getElem? (i := 55) (by decide +kernel))))) rfl), List.forall_mem_cons.mpr ⟨Or.inl (g_mem (List.mem_append_right _ (List.mem_append_right _ (List.mem_append_left _ (List.mem_of_getElem? (i := 56) (by decide +kernel))))) rfl), List.forall_mem_cons.mpr ⟨Or.inl (g_mem (List.mem_append_right _ (List.mem_append_right _ (List.mem_append_left _ (List.mem_of_getElem? (i := 58) (by decide +kernel))))) rfl), List.forall_mem_cons.mpr ⟨Or.inl (g_mem (List.mem_append_right _ (List.mem_append_right _ (List.mem_append_left _ (List.mem_of_getElem? (i := 60) (by decide +kernel))))) rfl), List.forall_mem_cons.mpr ⟨Or.inl (g_mem (List.mem_append_right _ (List.mem_append_right _ (List.mem_append_left _ (List.mem_of_getElem? (i := 62) (by decide +kernel))))) rfl), List.forall_mem_cons.mpr ⟨Or.inr (Or.inl rfl), List.forall_mem_cons.mpr ⟨Or.inr (Or.inr (Or.inl rfl)), List.forall_mem_cons.mpr ⟨Or.inl (g_mem (List.mem_append_right _ (List.mem_append_right _ (List.mem_append_left _ (List.mem_of_getElem? (i := 66) (by decide +kernel))))) rfl), List.forall_mem_cons.mpr ⟨Or.inl (g_mem (List.mem_append_right _ (List.mem_append_right _ (List.mem_append_left _ (List.mem_of_getElem? (i := 65) (by decide +kernel))))) rfl), List.forall_mem_cons.mpr ⟨Or.inl (g_mem (List.mem_append_right _ (List.mem_append_right _ (List.mem_append_left _ (List.mem_of_getElem? (i := 64) (by decide +kernel))))) rfl), fun _ h => absurd h List.not_mem_nil⟩⟩⟩⟩⟩⟩⟩⟩⟩⟩⟩⟩⟩⟩⟩
theorem g_twS : ∀ a ∈ Bundle.passSAtoms "java/lang/IllegalStateException" "java/lang/RuntimeException" 7 Bundle.six, g_tw a := List.forall_mem_cons.mpr ⟨Or.inl (g_mem (List.mem_append_right _ (List.mem_append_right _ (List.mem_append_left _ (List.mem_of_getElem? (i := 123) (by decide +kernel))))) rfl), List.forall_mem_cons.mpr ⟨Or.inl (g_mem (List.mem_append_right _ (List.mem_append_right _ (List.mem_append_left _ (List.mem_of_getElem? (i := 124) rfl)))) rfl), List.forall_mem_cons.mpr ⟨Or.inl (g_mem (List.mem_append_right _ (List.mem_append_right _ (List.mem_append_left _ (List.mem_of_getElem? (i := 125) (by decide +kernel))))) rfl), List.forall_mem_cons.mpr ⟨Or.inl (g_mem (List.mem_append_right _ (List.mem_append_right _ (List.mem_append_left _ (List.mem_of_getElem? (i := 90) (by decide +kernel))))) rfl), List.forall_mem_cons.mpr ⟨Or.inr (Or.inr (Or.inr (Or.inr (Or.inr (List.mem_of_getElem? (i := 0) rfl))))), fun _ h => absurd h List.not_mem_nil⟩⟩⟩⟩⟩
theorem g_atS : g_okT 56 "java/lang/IllegalStateException" :=
  List.forall_mem_append.mpr ⟨List.forall_mem_append.mpr ⟨List.forall_mem_append.mpr ⟨g_tw0, g_tw1⟩, List.forall_mem_append.mpr ⟨g_twS, List.forall_mem_append.mpr ⟨g_twR, g_twE⟩⟩⟩, List.forall_mem_cons.mpr ⟨Or.inl (g_mem (List.mem_append_right _ (List.mem_append_right _ (List.mem_append_left _ (List.mem_of_getElem? (i := 122) (by decide +kernel))))) rfl), List.forall_mem_cons.mpr ⟨Or.inl (g_mem (List.mem_append_right _ (List.mem_append_right _ (List.mem_append_left _ (List.mem_of_getElem? (i := 113) (by decide +kernel))))) rfl), List.forall_mem_cons.mpr ⟨Or.inr (Or.inr (Or.inr (Or.inr (Or.inr (List.mem_of_getElem? (i := 4) rfl))))), List.forall_mem_cons.mpr ⟨Or.inl (g_mem (List.mem_append_right _ (List.mem_append_right _ (List.mem_append_left _ (List.mem_of_getElem? (i := 115) (by decide +kernel))))) rfl), List.forall_mem_cons.mpr ⟨Or.inl (g_mem (List.mem_append_right _ (List.mem_append_right _ (List.mem_append_left _ (List.mem_of_getElem? (i := 78) (by decide +kernel))))) rfl), List.forall_mem_cons.mpr ⟨Or.inl (g_mem (List.mem_append_right _ (List.mem_append_right _ (List.mem_append_left _ (List.mem_of_getElem? (i := 116) (by decide +kernel))))) rfl), List.forall_mem_cons.mpr ⟨Or.inl (g_mem (List.mem_append_right _ (List.mem_append_right _ (List.mem_append_left _ (List.mem_of_getElem? (i := 117) (by decide +kernel))))) rfl), List.forall_mem_cons.mpr ⟨Or.inl (g_mem (List.mem_append_right _ (List.mem_append_right _ (List.mem_append_left _ (List.mem_of_getElem? (i := 118) (by decide +kernel))))) rfl), List.forall_mem_cons.mpr ⟨Or.inl (g_mem (List.mem_append_right _ (List.mem_append_right _ (List.mem_append_left _ (List.mem_of_getElem? (i := 119) (by decide +kernel))))) rfl), List.forall_mem_cons.mpr ⟨Or.inr (Or.inl rfl), List.forall_mem_cons.mpr ⟨Or.inr (Or.inr (Or.inl rfl)), List.forall_mem_cons.mpr ⟨Or.inl (g_mem (List.mem_append_right _ (List.mem_append_right _ (List.mem_append_left _ (List.mem_of_getElem? (i := 66) (by decide +kernel))))) rfl), List.forall_mem_cons.mpr ⟨Or.inl (g_mem (List.mem_append_right _ (List.mem_append_right _ (List.mem_append_left _ (List.mem_of_getElem? (i := 65) (by decide +kernel))))) rfl), List.forall_mem_cons.mpr ⟨Or.inl (g_mem (List.mem_append_right _ (List.mem_append_right _ (List.mem_append_left _ (List.mem_of_getElem? (i := 120) (by decide +kernel))))) rfl), fun _ h => absurd h List.not_mem_nil⟩⟩⟩⟩⟩⟩⟩⟩⟩⟩⟩⟩⟩⟩⟩
section GT2
variable {X : g_X} {we ws : va_W} {lv : List (Nat × Value)} {pc : Nat} {cc : ByteArray} {d L nL : Nat} {ret : Option FieldType}
set_option maxHeartbeats 1000000 in
/-- throw new E("text") -/
theorem gw_throw (hC : gC X cc R_Desk d L nL ret) (hT : g_T X) {cls text : String} {ik is ic : Nat} (hk : Cond.classLink R_Desk ik cls ∈ g_TB) (hini : Cond.initialized cls ∈ g_TB) (hins : Cond.instantiable cls 6 ∈ g_TB) (hs : (is, text) ∈ g_strs) (hat : g_okT ic cls) (hf : Bundle.fit cls = true)
    (hR : 6 ≤ d ∧ 90 ≤ L) (d0 : decode cc pc = .ok (.new ik, 3)) (d3 : decode cc (pc + 3) = .ok (.dup, 1)) (d4 : decode cc (pc + 4) = .ok (.ldc is, 2)) (d6 : decode cc (pc + 6) = .ok (.invokespecial ic, 3)) (d9 : decode cc (pc + 9) = .ok (.athrow, 1)) :
    gw X (.inr cls) ws ws lv pc [] := by
  obtain ⟨⟨p, l, e, R, s, m, args, below, meth, c⟩, D, cA, A, nl⟩ := X
  obtain ⟨hx, hb, hml, hown, hts, hK, hA, hr, hlocks, hnl, hRf, hRl⟩ := hC
  obtain ⟨htr, ⟨hmi, hZ1, hZ2, hstr⟩, hRc, hRs, hns, hex⟩ := hT
  dsimp only at *
  intro H locs ls hP hD hS hl T hTT XX
  dsimp only at *
  have X0 := g_rebase XX
  have hW : s.WarmedH (g_re s T).vm := XX.warmed
  have hal := hW.alike
  have hts2 : ∀ w ∈ g_TB, w.before args (g_re s T) = true := fun w hw => word_at (U := g_re s T) hW (good_of_word (List.mem_filter.mp hw).2) (hts w hw)
  have hH : (g_re s T).heap = H := hTT
  have hkept : ∀ a : Nat, a < s.heap.size → ¬ A a → (g_re s T).heap[a]? = s.heap[a]? := fun a h1 h2 => by rw [hH]; exact hS.2.1 a h1 h2
  have hY1 := (hZ1.kept hkept).moved (U := g_re s T) hal
  have hY2 := (hZ2.kept hkept).moved (U := g_re s T) hal
  obtain ⟨sa, hvk⟩ := hstr _ hs
  have hvk2 := vk_R.warm hW hvk
  have hat2 : ∀ a ∈ Bundle.ownAtoms R_Desk ic cls ["java/lang/RuntimeException", "java/lang/Exception"], a.before args (g_re s T) = true := fun a ha => by
    rcases hat a ha with h | rfl | rfl | rfl | rfl | h
    · exact hts2 a h
    · exact hY1.ref
    · exact hY2.ref
    · exact hY1.lays
    · exact hY2.lays
    · exact va_any (g_mildO a h) (g_mildM hal hmi a h)
  have hown2 : (g_re s T).vm.findClass R_Desk = some m.cls := by rw [hal.findClass]; exact hown
  obtain ⟨cX, kX0, hfX, hkX0, -⟩ := Cond.instantiable_spec (hts2 _ hins)
  have hsz : T.heap.size = s.heap.size := Nat.le_antisymm (by have := XX.heapSize; simpa using this) XX.same.2.1
  have key : W p l e R (g_re s T) m args below meth c T.heap [] 0 0 (fun t => ∃ oc, t.status = .running ∧ Ended t below oc ∧ g_Qx cls D cA A ws args s oc t) (F0 m pc ls []) := by
    refine W.newcK hx hb hown2 (hts2 _ hk) (hts2 _ hins) (hts2 _ hini) rfl d0 (by omega) (by omega) hfX rfl (fun H1 kC hkC hn1 hs1 ho1 => ?_)
    refine lv_dup hx hb d3 rfl ?_
    refine va_ldcS hx hb hown2 hvk2 d4 ?_
    intro T2 hT2 X2
    have hRL : 0 + 1 + (13 * 3 + 42) ≤ R.locals := by omega
    have hRF : 2 + 3 < R.frames := by omega
    obtain ⟨U, hst, hrun, hend, hWU, hsame, ce, hce, hoc⟩ := X2.ctorThrowS hx htr (names := ["java/lang/RuntimeException", "java/lang/Exception"]) hown2 hf (by decide +kernel) hat2 (fun x h => by cases h) hfX hkC (by rw [hT2]; exact hn1) (Nat.le_refl _) (msg := .ref sa) rfl (g := F0 m (pc + 6) ls [.ref sa, .ref T.heap.size, .ref T.heap.size]) rfl (hl.1.trans (hnl.trans hml.symm)) rfl rfl (rest := []) rfl (by rw [hb]; exact d6) (by rw [hb]; exact d9) (fun x h => by rw [Array.isEmpty_iff.mp hex] at h; cases h) hRF hRL hlocks
    refine ⟨U, hst, .threw T.heap.size, hrun, hend, ?_⟩
    have hcls : ce.cls = cX := Option.some.inj (hoc.cls.symm.trans hfX)
    have halU := hWU.alike
    obtain ⟨kU, hkU, -⟩ := halU.2.2 _ _ hkC
    have hold : ∀ (q : Nat) (x : Cell), T.heap[q]? = some x → U.heap[q]? = some x := fun q x h => hsame.old_cell (show (g_re s T).heap[q]? = some x from h)
    have hszU : T.heap.size ≤ U.heap.size := hsame.2.1
    have hus : T.slotsUsed = s.slotsUsed := by
      have h4 : T.slotsUsed = s.slotsUsed + ((T.heap.toList.drop s.heap.size).map (·.slots.size)).sum := XX.same.2.2.2.1
      rw [h4, ← hsz, List.drop_of_length_le (by simp)]
      rfl
    refine ⟨T.heap.size, ce, kU, locs, rfl, by omega, hce, hoc.vm, by rw [hcls]; exact hkU, by rw [halU.findClass]; exact hoc.cls, by rw [halU.assignable]; exact hoc.self, ⟨hP.kept (fun k q hq => ?_), va_K.moved (hal.trans halU) hK, hD⟩, ⟨by omega, fun q h1 h2 => ?_⟩, State.WarmedH.trans (t := g_re s T) hW hWU, ⟨?_, by show s.heap.size ≤ U.heap.size; omega, ?_, ?_, ?_, ?_⟩, hS.2.2⟩
    · obtain ⟨x, hx9⟩ : ∃ x, H[q.1]? = some x := ⟨_, Array.getElem?_eq_getElem (hP k q hq).lt⟩
      rw [hx9]
      exact hold q.1 x (by rw [hTT]; exact hx9)
    · obtain ⟨x, hx9⟩ : ∃ x, s.heap[q]? = some x := ⟨_, Array.getElem?_eq_getElem h1⟩
      rw [hx9]
      exact hold q x (by rw [hTT, hS.2.1 q h1 h2]; exact hx9)
    · exact congrArg (fun z : State => z.setVm s.vm) hsame.1
    · have := hsame.2.2.1
      show U.heap.size ≤ s.heap.size + 1
      have h9 : U.heap.size ≤ T.heap.size + (0 + 1) := this
      omega
    · have h4 : U.slotsUsed = T.slotsUsed + ((U.heap.toList.drop T.heap.size).map (·.slots.size)).sum := hsame.2.2.2.1
      show U.slotsUsed = s.slotsUsed + ((U.heap.toList.drop s.heap.size).map (·.slots.size)).sum
      rw [h4, hus, hsz]
    · have h5 : ((U.heap.toList.drop T.heap.size).map (·.slots.size)).sum ≤ 0 + 6 := hsame.2.2.2.2.1
      show ((U.heap.toList.drop s.heap.size).map (·.slots.size)).sum ≤ 6
      rw [← hsz]
      omega
    · intro q x hq
      obtain ⟨x1, h1, h2, h3, h4⟩ := XX.same.2.2.2.2.2 q x hq
      exact ⟨x1, hold q x1 h1, h2, h3, h4⟩
  exact key T rfl X0
end GT2
