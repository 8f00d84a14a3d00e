section GT
variable {p : Program} {l : Launch} {e : Env} {R : Room} {s : State} {m : MethodId} {args : Array Value} {below : List Frame} {meth : Method} {c : Code} {T : State} {locs : List Loc}
def g_re (s T : State) : State := ({ s with heap := T.heap, slotsUsed := T.slotsUsed } : State).setVm T.vm
/-- a walk that has made nothing yet may be taken as one that begins here -/
theorem g_rebase (X : Stand p l e R s m args below meth c T locs 0 0) : Stand p l e R (g_re s T) m args below meth c T [] 0 0 := by
  have hsz : T.heap.size = s.heap.size := Nat.le_antisymm (by have := X.heapSize; simpa using this) X.same.2.1
  have hus : T.slotsUsed ≤ s.slotsUsed := by have := X.used; simpa using this
  have hal := X.warmed.alike
  have hfr : (g_re s T).frames = s.frames := rfl
  have hlo : (g_re s T).localsInUse = s.localsInUse := by
    unfold State.localsInUse
    rw [hfr, X.frames]
    have h1 : (g_re s T).vm.method? m = s.vm.method? m := hal.method? m
    simp only [h1]
  refine ⟨X.admits, X.cas, X.clock, X.frames, ?_, ?_, X.method', X.code, X.here, X.tail, State.WarmedH.refl _, X.limits, X.bytes, ?_⟩
  · have hr := X.room
    have hbk : (g_re s T).slotsTrue = true := X.book
    simp only [State.hasRoom, Bool.and_eq_true, decide_eq_true_eq] at hr ⊢
    refine ⟨⟨⟨⟨?_, ?_⟩, ?_⟩, ?_⟩, hbk⟩
    · rw [hlo]; exact hr.1.1.1.1
    · rw [hlo]; exact hr.1.1.1.2
    · show T.heap.size + R.cells ≤ _
      rw [hsz]; exact hr.1.1.2
    · show T.slotsUsed + R.slots ≤ _
      have := hr.1.2
      omega
  · have hh := X.hears
    have hc : ∀ q, (g_re s T).code? q = s.code? q := fun q => by rw [State.code?_eq, State.code?_eq, show (g_re s T).vm.method? q = s.vm.method? q from hal.method? q]
    have hm2 : (g_re s T).vm.method? m = s.vm.method? m := hal.method? m
    cases below with
    | nil => simpa [State.hears, hm2] using hh
    | cons f r => cases f <;> simpa [State.hears, hc, hm2] using hh
  · have e0 := congrArg (fun z : State => z.setVm T.vm) X.same.1
    refine ⟨e0, Nat.le_refl _, Nat.le_refl _, ?_, ?_, fun a c hc => ⟨c, hc, rfl, rfl, fun _ _ => rfl⟩⟩
    · show T.slotsUsed = T.slotsUsed + ((T.heap.toList.drop T.heap.size).map (·.slots.size)).sum
      rw [List.drop_of_length_le (by simp)]
      rfl
    · show ((T.heap.toList.drop T.heap.size).map (·.slots.size)).sum ≤ 0
      rw [List.drop_of_length_le (by simp)]
      exact Nat.le_refl 0
end GT
/-- a static of Throwable's: it is laid, and holds a reference or null -/
def g_Z (n d : String) (A : Nat → Prop) (U : State) (H : Heap) : Prop := ∃ (c : ClassId) (k : Class) (i : Nat) (f : Field) (a : Nat) (cell : Cell) (v : Value), U.vm.findClass "java/lang/Throwable" = some c ∧ U.fieldFound? "java/lang/Throwable" n d = some (c, k, i, f) ∧ f.isStatic = true ∧ k.statics = some a ∧ H[a]? = some cell ∧ cell.vm.isStatics = true ∧ cell.cls = c ∧
  f.slot < cell.slots.size ∧ k.staticTypes[f.slot]? = some f.type ∧ cell.slots[f.slot]? = some v ∧ (v = .null ∨ ∃ t, v = .ref t) ∧ ¬ A a
theorem g_Z.of {n d : String} {A : Nat → Prop} {U : State} {as : Array Value} (hl : (Cond.laysStatic "java/lang/Throwable" n d).before as U = true) (h : (Cond.isRef (.static "java/lang/Throwable" n d)).before as U = true) (hA : ∀ a : Nat, a < U.heap.size → ¬ A a) : g_Z n d A U U.heap := by
  obtain ⟨c, k, i, f, a, cell, hc, hi, hst, ha, hcell, hs, hcls, hlt, hty⟩ := Cond.laysStatic_spec hl
  cases hv : (Term.static "java/lang/Throwable" n d).eval as U none [] U with
  | none => simp [Cond.before, Cond.holds, Cond.value, hv] at h
  | some w =>
    obtain ⟨hst', a', cell', ha', hcell', -, hslot⟩ := Term.static_spec hi hv
    cases ha.symm.trans ha'
    cases hcell.symm.trans hcell'
    refine ⟨c, k, i, f, a, cell, w, hc, hi, hst, ha, hcell, hs, hcls, hlt, hty, hslot, ?_, hA a (Array.getElem?_eq_some_iff.mp hcell).1⟩
    simp only [Cond.before, Cond.holds, Cond.value, hv] at h
    cases w with
    | null => exact Or.inl rfl
    | ref t => exact Or.inr ⟨t, rfl⟩
    | _ => simp at h
theorem g_Z.moved {n d : String} {A : Nat → Prop} {u U : State} {H : Heap} (hvm : u.vm.Alike U.vm) (h : g_Z n d A u H) : g_Z n d A U H := by
  obtain ⟨c, k, i, f, a, cell, v, h0, h1, h2, h3, h4, h5, h6, h7, h8, h9⟩ := h
  obtain ⟨k', hi', he⟩ := State.fieldFound?_setVm hvm h1
  exact ⟨c, k', i, f, a, cell, v, by rw [hvm.findClass]; exact h0, hi', h2, by rw [he]; exact h3, h4, h5, h6, h7, by rw [he]; exact h8, h9⟩
theorem g_Z.kept {n d : String} {A : Nat → Prop} {U : State} {H H1 : Heap} (h : g_Z n d A U H) (hq : ∀ a : Nat, a < H.size → ¬ A a → H1[a]? = H[a]?) : g_Z n d A U H1 := by
  obtain ⟨c, k, i, f, a, cell, v, h0, h1, h2, h3, h4, h5, h6, h7, h8, h9, h10, h11⟩ := h
  exact ⟨c, k, i, f, a, cell, v, h0, h1, h2, h3, by rw [hq a (Array.getElem?_eq_some_iff.mp h4).1 h11]; exact h4, h5, h6, h7, h8, h9, h10, h11⟩
theorem g_Z.narrow {n d : String} {A B : Nat → Prop} {U : State} {H : Heap} (h : g_Z n d A U H) (hAB : ∀ q, B q → A q) : g_Z n d B U H := by
  obtain ⟨c, k, i, f, a, cell, v, h0, h1, h2, h3, h4, h5, h6, h7, h8, h9, h10, h11⟩ := h
  exact ⟨c, k, i, f, a, cell, v, h0, h1, h2, h3, h4, h5, h6, h7, h8, h9, h10, fun z => h11 (hAB a z)⟩
theorem g_Z.lays {n d : String} {A : Nat → Prop} {U : State} {as : Array Value} (h : g_Z n d A U U.heap) : (Cond.laysStatic "java/lang/Throwable" n d).before as U = true := by
  obtain ⟨c, k, i, f, a, cell, v, h0, h1, h2, h3, h4, h5, h6, h7, h8, h9, h10, h11⟩ := h
  simp [Cond.before, Cond.holds, Cond.value, h0, h1, h2, h3, h4, h5, h6, h7, h8]
theorem g_Z.ref {n d : String} {A : Nat → Prop} {U : State} {as : Array Value} (h : g_Z n d A U U.heap) : (Cond.isRef (.static "java/lang/Throwable" n d)).before as U = true := by
  obtain ⟨c, k, i, f, a, cell, v, h0, h1, h2, h3, h4, h5, h6, h7, h8, h9, h10, h11⟩ := h
  rcases h10 with rfl | ⟨t, rfl⟩ <;> simp [Cond.before, Cond.holds, Cond.value, Term.eval, State.fieldNamed?, h1, h2, h3, h4, h5, h9]
/-- the texts that the class throws with -/
def g_strs : List (Nat × String) := [(44, "n is not 1 .. 4"), (54, "there would be more than 600 units"), (75, "the pattern is too long or wrong"), (107, "there is no result"), (109, "there is no such group"), (120, "there is no such place"), (122, "the fuel is not 1 .. 10,000"), (124, "there is no pattern")]
def g_mild : List Cond := [.declares (Bundle.initS "java/lang/RuntimeException"), .declares (Bundle.initS "java/lang/Exception"), .declares (Bundle.initS "java/lang/Throwable"), .castable "java/lang/IllegalArgumentException" "java/lang/IllegalArgumentException", .castable "java/lang/IllegalStateException" "java/lang/IllegalStateException"]
theorem g_mildT {c : Cond} (hc : c.onTables = true) {u U : State} (h : c.before #[] (u.setVm U.vm) = true) : c.before #[] U = true := by
  have e := Cond.onTables_vm (A := #[]) (A' := #[]) (U := u) (U' := U) U.vm c hc
  have hU : U.setVm U.vm = U := rfl
  rw [hU] at e
  rw [← e]
  exact h
theorem g_mildM {u U : State} (hvm : u.vm.Alike U.vm) (h : ∀ w ∈ g_mild, w.before #[] u = true) : ∀ w ∈ g_mild, w.before #[] U = true := by
  intro w hw
  have h0 := h w hw
  simp only [g_mild, List.mem_cons, List.not_mem_nil, or_false] at hw
  rcases hw with rfl | rfl | rfl | rfl | rfl
  · exact g_mildT rfl (by rw [Cond.declares_setVm hvm]; exact h0)
  · exact g_mildT rfl (by rw [Cond.declares_setVm hvm]; exact h0)
  · exact g_mildT rfl (by rw [Cond.declares_setVm hvm]; exact h0)
  · exact g_mildT rfl (by rw [Cond.castable_setVm hvm]; exact h0)
  · exact g_mildT rfl (by rw [Cond.castable_setVm hvm]; exact h0)
theorem g_mildO : ∀ w ∈ g_mild, w.onTables = true := by decide +kernel
/-- what a throw needs of the state at a method's start -/
def g_St (A : Nat → Prop) (U : State) (H : Heap) : Prop := (∀ w ∈ g_mild, w.before #[] U = true) ∧ g_Z "UNASSIGNED_STACK" "[Ljava/lang/StackTraceElement;" A U H ∧ g_Z "SUPPRESSED_SENTINEL" "Ljava/util/List;" A U H ∧ ∀ q ∈ g_strs, ∃ a, vk_R "PatternDesk" q.1 q.2 a U
def g_T (X : g_X) : Prop := X.1.2.1.flags = flags0 ∧ g_St X.2.2.2.1 X.1.2.2.2.2.1 X.1.2.2.2.2.1.heap ∧ 1 ≤ X.1.2.2.2.1.cells ∧ 6 ≤ X.1.2.2.2.1.slots ∧
  (∀ (q : Nat) (cell : Cell), X.2.2.2.1 q → X.1.2.2.2.2.1.heap[q]? = some cell → cell.vm.isStatics = false) ∧ X.1.2.2.2.2.2.2.2.2.2.exceptionTable.isEmpty = true
/-- the words of a throw: all but four stand in the tables -/
def g_tw (a : Cond) : Prop := a ∈ g_TB ∨ a = .isRef (.static "java/lang/Throwable" "UNASSIGNED_STACK" "[Ljava/lang/StackTraceElement;") ∨ a = .isRef (.static "java/lang/Throwable" "SUPPRESSED_SENTINEL" "Ljava/util/List;") ∨
  a = .laysStatic "java/lang/Throwable" "UNASSIGNED_STACK" "[Ljava/lang/StackTraceElement;" ∨ a = .laysStatic "java/lang/Throwable" "SUPPRESSED_SENTINEL" "Ljava/util/List;" ∨ a ∈ g_mild
def g_okT (ic : Nat) (cls : String) : Prop := ∀ a ∈ Bundle.ownAtoms R_Desk ic cls ["java/lang/RuntimeException", "java/lang/Exception"], g_tw a
theorem g_tw0 : ∀ a ∈ Bundle.throwableAtoms, g_tw a := List.forall_mem_cons.mpr ⟨Or.inl (g_mem (List.mem_append_right _ (List.mem_append_left _ (List.mem_of_getElem? (i := 6) (by decide +kernel)))) rfl), List.forall_mem_cons.mpr ⟨Or.inl (g_mem (List.mem_append_right _ (List.mem_append_right _ (List.mem_append_left _ (List.mem_of_getElem? (i := 67) (by decide +kernel))))) rfl), List.forall_mem_cons.mpr ⟨Or.inl (g_mem (List.mem_append_right _ (List.mem_append_right _ (List.mem_append_left _ (List.mem_of_getElem? (i := 76) (by decide +kernel))))) rfl), List.forall_mem_cons.mpr ⟨Or.inl (g_mem (List.mem_append_right _ (List.mem_append_right _ (List.mem_append_left _ (List.mem_of_getElem? (i := 79) rfl)))) rfl), List.forall_mem_cons.mpr ⟨Or.inl (g_mem (List.mem_append_right _ (List.mem_append_right _ (List.mem_append_left _ (List.mem_of_getElem? (i := 82) (by decide +kernel))))) rfl), List.forall_mem_cons.mpr ⟨Or.inl (g_mem (List.mem_append_right _ (List.mem_append_right _ (List.mem_append_left _ (List.mem_of_getElem? (i := 84) (by decide +kernel))))) rfl), List.forall_mem_cons.mpr ⟨Or.inl (g_mem (List.mem_append_right _ (List.mem_append_right _ (List.mem_append_left _ (List.mem_of_getElem? (i := 68) (by decide +kernel))))) rfl), List.forall_mem_cons.mpr ⟨Or.inl (g_mem (List.mem_append_right _ (List.mem_append_right _ (List.mem_append_left _ (List.mem_of_getElem? (i := 69) rfl)))) rfl), List.forall_mem_cons.mpr ⟨Or.inl (g_mem (List.mem_append_right _ (List.mem_append_left _ (List.mem_of_getElem? (i := 20) (by decide +kernel)))) rfl), List.forall_mem_cons.mpr ⟨Or.inl (g_mem (List.mem_append_right _ (List.mem_append_left _ (List.mem_of_getElem? (i := 21) rfl))) rfl), List.forall_mem_cons.mpr ⟨Or.inl (g_mem (List.mem_append_right _ (List.mem_append_right _ (List.mem_append_left _ (List.mem_of_getElem? (i := 70) (by decide +kernel))))) rfl), List.forall_mem_cons.mpr ⟨Or.inl (g_mem (List.mem_append_right _ (List.mem_append_right _ (List.mem_append_left _ (List.mem_of_getElem? (i := 75) (by decide +kernel))))) rfl), List.forall_mem_cons.mpr ⟨Or.inl (g_mem (List.mem_append_right _ (List.mem_append_right _ (List.mem_append_left _ (List.mem_of_getElem? (i := 80) (by decide +kernel))))) rfl), List.forall_mem_cons.mpr ⟨Or.inl (g_mem (List.mem_append_right _ (List.mem_append_right _ (List.mem_append_left _ (List.mem_of_getElem? (i := 100) (by decide +kernel))))) rfl), List.forall_mem_cons.mpr ⟨Or.inl (g_mem (List.mem_append_right _ (List.mem_append_right _ (List.mem_append_left _ (List.mem_of_getElem? (i := 57) (by decide +kernel))))) rfl), List.forall_mem_cons.mpr ⟨Or.inl (g_mem (List.mem_append_right _ (List.mem_append_right _ (List.mem_append_left _ (List.mem_of_getElem? (i := 101) (by decide +kernel))))) rfl), List.forall_mem_cons.mpr ⟨Or.inl (g_mem (List.mem_append_right _ (List.mem_append_right _ (List.mem_append_left _ (List.mem_of_getElem? (i := 59) (by decide +kernel))))) rfl), List.forall_mem_cons.mpr ⟨Or.inl (g_mem (List.mem_append_right _ (List.mem_append_right _ (List.mem_append_left _ (List.mem_of_getElem? (i := 102) (by decide +kernel))))) rfl), List.forall_mem_cons.mpr ⟨Or.inl (g_mem (List.mem_append_right _ (List.mem_append_right _ (List.mem_append_left _ (List.mem_of_getElem? (i := 61) (by decide +kernel))))) rfl), List.forall_mem_cons.mpr ⟨Or.inl (g_mem (List.mem_append_right _ (List.mem_append_right _ (List.mem_append_left _ (List.mem_of_getElem? (i := 71) (by decide +kernel))))) rfl), List.forall_mem_cons.mpr ⟨Or.inr (Or.inr (Or.inr (Or.inl rfl))), List.forall_mem_cons.mpr ⟨Or.inl (g_mem (List.mem_append_right _ (List.mem_append_right _ (List.mem_append_left _ (List.mem_of_getElem? (i := 73) (by decide +kernel))))) rfl), List.forall_mem_cons.mpr ⟨Or.inr (Or.inr (Or.inr (Or.inr (Or.inl rfl)))), List.forall_mem_cons.mpr ⟨Or.inl (g_mem (List.mem_append_right _ (List.mem_append_right _ (List.mem_append_left _ (List.mem_of_getElem? (i := 63) (by decide +kernel))))) rfl), fun _ h => absurd h List.not_mem_nil⟩⟩⟩⟩⟩⟩⟩⟩⟩⟩⟩⟩⟩⟩⟩⟩⟩⟩⟩⟩⟩⟩⟩⟩
theorem g_tw1 : ∀ a ∈ Bundle.throwableSAtoms, g_tw a := List.forall_mem_cons.mpr ⟨Or.inl (g_mem (List.mem_append_right _ (List.mem_append_right _ (List.mem_append_left _ (List.mem_of_getElem? (i := 96) (by decide +kernel))))) rfl), List.forall_mem_cons.mpr ⟨Or.inl (g_mem (List.mem_append_right _ (List.mem_append_right _ (List.mem_append_left _ (List.mem_of_getElem? (i := 97) rfl)))) rfl), List.forall_mem_cons.mpr ⟨Or.inl (g_mem (List.mem_append_right _ (List.mem_append_right _ (List.mem_append_left _ (List.mem_of_getElem? (i := 99) (by decide +kernel))))) rfl), List.forall_mem_cons.mpr ⟨Or.inl (g_mem (List.mem_append_right _ (List.mem_append_right _ (List.mem_append_left _ (List.mem_of_getElem? (i := 63) (by decide +kernel))))) rfl), fun _ h => absurd h List.not_mem_nil⟩⟩⟩⟩
theorem g_twR : ∀ a ∈ Bundle.passSAtoms "java/lang/RuntimeException" "java/lang/Exception" 7 Bundle.six, g_tw a := List.forall_mem_cons.mpr ⟨Or.inl (g_mem (List.mem_append_right _ (List.mem_append_right _ (List.mem_append_left _ (List.mem_of_getElem? (i := 90) (by decide +kernel))))) rfl), List.forall_mem_cons.mpr ⟨Or.inl (g_mem (List.mem_append_right _ (List.mem_append_right _ (List.mem_append_left _ (List.mem_of_getElem? (i := 91) rfl)))) rfl), List.forall_mem_cons.mpr ⟨Or.inl (g_mem (List.mem_append_right _ (List.mem_append_right _ (List.mem_append_left _ (List.mem_of_getElem? (i := 92) (by decide +kernel))))) rfl), List.forall_mem_cons.mpr ⟨Or.inl (g_mem (List.mem_append_right _ (List.mem_append_right _ (List.mem_append_left _ (List.mem_of_getElem? (i := 93) (by decide +kernel))))) rfl), List.forall_mem_cons.mpr ⟨Or.inr (Or.inr (Or.inr (Or.inr (Or.inr (List.mem_of_getElem? (i := 1) rfl))))), fun _ h => absurd h List.not_mem_nil⟩⟩⟩⟩⟩
theorem g_twE : ∀ a ∈ Bundle.passSAtoms "java/lang/Exception" "java/lang/Throwable" 7 Bundle.six, g_tw a := List.forall_mem_cons.mpr ⟨Or.inl (g_mem (List.mem_append_right _ (List.mem_append_right _ (List.mem_append_left _ (List.mem_of_getElem? (i := 93) (by decide +kernel))))) rfl), List.forall_mem_cons.mpr ⟨Or.inl (g_mem (List.mem_append_right _ (List.mem_append_right _ (List.mem_append_left _ (List.mem_of_getElem? (i := 94) rfl)))) rfl), List.forall_mem_cons.mpr ⟨Or.inl (g_mem (List.mem_append_right _ (List.mem_append_right _ (List.mem_append_left _ (List.mem_of_getElem? (i := 95) (by decide +kernel))))) rfl), List.forall_mem_cons.mpr ⟨Or.inl (g_mem (List.mem_append_right _ (List.mem_append_right _ (List.mem_append_left _ (List.mem_of_getElem? (i := 96) (by decide +kernel))))) rfl), List.forall_mem_cons.mpr ⟨Or.inr (Or.inr (Or.inr (Or.inr (Or.inr (List.mem_of_getElem? (i := 2) rfl))))), fun _ h => absurd h List.not_mem_nil⟩⟩⟩⟩⟩
theorem g_twI : ∀ a ∈ Bundle.passSAtoms "java/lang/IllegalArgumentException" "java/lang/RuntimeException" 7 Bundle.six, g_tw a := List.forall_mem_cons.mpr ⟨Or.inl (g_mem (List.mem_append_right _ (List.mem_append_right _ (List.mem_append_left _ (List.mem_of_getElem? (i := 87) (by decide +kernel))))) rfl), List.forall_mem_cons.mpr ⟨Or.inl (g_mem (List.mem_append_right _ (List.mem_append_right _ (List.mem_append_left _ (List.mem_of_getElem? (i := 88) rfl)))) rfl), List.forall_mem_cons.mpr ⟨Or.inl (g_mem (List.mem_append_right _ (List.mem_append_right _ (List.mem_append_left _ (List.mem_of_getElem? (i := 89) (by decide +kernel))))) rfl), List.forall_mem_cons.mpr ⟨Or.inl (g_mem (List.mem_append_right _ (List.mem_append_right _ (List.mem_append_left _ (List.mem_of_getElem? (i := 90) (by decide +kernel))))) rfl), List.forall_mem_cons.mpr ⟨Or.inr (Or.inr (Or.inr (Or.inr (Or.inr (List.mem_of_getElem? (i := 0) rfl))))), fun _ h => absurd h List.not_mem_nil⟩⟩⟩⟩⟩
theorem g_atI : g_okT 46 "java/lang/IllegalArgumentException" :=
  List.forall_mem_append.mpr ⟨List.forall_mem_append.mpr ⟨List.forall_mem_append.mpr ⟨g_tw0, g_tw1⟩, List.forall_mem_append.mpr ⟨g_twI, List.forall_mem_append.mpr ⟨g_twR, g_twE⟩⟩⟩, List.forall_mem_cons.mpr ⟨Or.inl (g_mem (List.mem_append_right _ (List.mem_append_right _ (List.mem_append_left _ (List.mem_of_getElem? (i := 86) (by decide +kernel))))) rfl), List.forall_mem_cons.mpr ⟨Or.inl (g_mem (List.mem_append_right _ (List.mem_append_right _ (List.mem_append_left _ (List.mem_of_getElem? (i := 46) (by decide +kernel))))) rfl), List.forall_mem_cons.mpr ⟨Or.inr (Or.inr (Or.inr (Or.inr (Or.inr (List.mem_of_getElem? (i := 3) rfl))))), List.forall_mem_cons.mpr ⟨Or.inl (g_mem (List.mem_append_right _ (List.mem_append_right _ (List.mem_append_left _ (List.mem_of_getElem? (i := 54) (by decide +kernel))))) rfl), List.forall_mem_cons.mpr ⟨Or.inl (g_mem (List.mem_append_right _ (List.mem_append_right _ (List.mem_append_left _ (List.mem_of_getElem? (i := 55) (by decide +kernel))))) rfl), List.forall_mem_cons.mpr ⟨Or.inl (g_mem (List.mem_append_right _ (List.mem_append_right _ (List.mem_append_left _ (List.mem_of_getElem? (i := 56) (by decide +kernel))))) rfl), List.forall_mem_cons.mpr ⟨Or.inl (g_mem (List.mem_append_right _ (List.mem_append_right _ (List.mem_append_left _ (List.mem_of_getElem? (i := 58) (by decide +kernel))))) rfl), List.forall_mem_cons.mpr ⟨Or.inl (g_mem (List.mem_append_right _ (List.mem_append_right _ (List.mem_append_left _ (List.mem_of_getElem? (i := 60) (by decide +kernel))))) rfl), List.forall_mem_cons.mpr ⟨Or.inl (g_mem (List.mem_append_right _ (List.mem_append_right _ (List.mem_append_left _ (List.mem_of_getElem? (i := 62) (by decide +kernel))))) rfl), List.forall_mem_cons.mpr ⟨Or.inr (Or.inl rfl), List.forall_mem_cons.mpr ⟨Or.inr (Or.inr (Or.inl rfl)), List.forall_mem_cons.mpr ⟨Or.inl (g_mem (List.mem_append_right _ (List.mem_append_right _ (List.mem_append_left _ (List.mem_of_getElem? (i := 66) (by decide +kernel))))) rfl), List.forall_mem_cons.mpr ⟨Or.inl (g_mem (List.mem_append_right _ (List.mem_append_right _ (List.mem_append_left _ (List.mem_of_getElem? (i := 65) (by decide +kernel))))) rfl), List.forall_mem_cons.mpr ⟨Or.inl (g_mem (List.mem_append_right _ (List.mem_append_right _ (List.mem_append_left _ (List.mem_of_getElem? (i := 64) (by decide +kernel))))) rfl), fun _ h => absurd h List.not_mem_nil⟩⟩⟩⟩⟩⟩⟩⟩⟩⟩⟩⟩⟩⟩⟩
theorem g_twS : ∀ a ∈ Bundle.passSAtoms "java/lang/IllegalStateException" "java/lang/RuntimeException" 7 Bundle.six, g_tw a := List.forall_mem_cons.mpr ⟨Or.inl (g_mem (List.mem_append_right _ (List.mem_append_right _ (List.mem_append_left _ (List.mem_of_getElem? (i := 123) (by decide +kernel))))) rfl), List.forall_mem_cons.mpr ⟨Or.inl (g_mem (List.mem_append_right _ (List.mem_append_right _ (List.mem_append_left _ (List.mem_of_getElem? (i := 124) rfl)))) rfl), List.forall_mem_cons.mpr ⟨Or.inl (g_mem (List.mem_append_right _ (List.mem_append_right _ (List.mem_append_left _ (List.mem_of_getElem? (i := 125) (by decide +kernel))))) rfl), List.forall_mem_cons.mpr ⟨Or.inl (g_mem (List.mem_append_right _ (List.mem_append_right _ (List.mem_append_left _ (List.mem_of_getElem? (i := 90) (by decide +kernel))))) rfl), List.forall_mem_cons.mpr ⟨Or.inr (Or.inr (Or.inr (Or.inr (Or.inr (List.mem_of_getElem? (i := 0) rfl))))), fun _ h => absurd h List.not_mem_nil⟩⟩⟩⟩⟩
theorem g_atS : g_okT 56 "java/lang/IllegalStateException" :=
  List.forall_mem_append.mpr ⟨List.forall_mem_append.mpr ⟨List.forall_mem_append.mpr ⟨g_tw0, g_tw1⟩, List.forall_mem_append.mpr ⟨g_twS, List.forall_mem_append.mpr ⟨g_twR, g_twE⟩⟩⟩, List.forall_mem_cons.mpr ⟨Or.inl (g_mem (List.mem_append_right _ (List.mem_append_right _ (List.mem_append_left _ (List.mem_of_getElem? (i := 122) (by decide +kernel))))) rfl), List.forall_mem_cons.mpr ⟨Or.inl (g_mem (List.mem_append_right _ (List.mem_append_right _ (List.mem_append_left _ (List.mem_of_getElem? (i := 113) (by decide +kernel))))) rfl), List.forall_mem_cons.mpr ⟨Or.inr (Or.inr (Or.inr (Or.inr (Or.inr (List.mem_of_getElem? (i := 4) rfl))))), List.forall_mem_cons.mpr ⟨Or.inl (g_mem (List.mem_append_right _ (List.mem_append_right _ (List.mem_append_left _ (List.mem_of_getElem? (i := 115) (by decide +kernel))))) rfl), List.forall_mem_cons.mpr ⟨Or.inl (g_mem (List.mem_append_right _ (List.mem_append_right _ (List.mem_append_left _ (List.mem_of_getElem? (i := 78) (by decide +kernel))))) rfl), List.forall_mem_cons.mpr ⟨Or.inl (g_mem (List.mem_append_right _ (List.mem_append_right _ (List.mem_append_left _ (List.mem_of_getElem? (i := 116) (by decide +kernel))))) rfl), List.forall_mem_cons.mpr ⟨Or.inl (g_mem (List.mem_append_right _ (List.mem_append_right _ (List.mem_append_left _ (List.mem_of_getElem? (i := 117) (by decide +kernel))))) rfl), List.forall_mem_cons.mpr ⟨Or.inl (g_mem (List.mem_append_right _ (List.mem_append_right _ (List.mem_append_left _ (List.mem_of_getElem? (i := 118) (by decide +kernel))))) rfl), List.forall_mem_cons.mpr ⟨Or.inl (g_mem (List.mem_append_right _ (List.mem_append_right _ (List.mem_append_left _ (List.mem_of_getElem? (i := 119) (by decide +kernel))))) rfl), List.forall_mem_cons.mpr ⟨Or.inr (Or.inl rfl), List.forall_mem_cons.mpr ⟨Or.inr (Or.inr (Or.inl rfl)), List.forall_mem_cons.mpr ⟨Or.inl (g_mem (List.mem_append_right _ (List.mem_append_right _ (List.mem_append_left _ (List.mem_of_getElem? (i := 66) (by decide +kernel))))) rfl), List.forall_mem_cons.mpr ⟨Or.inl (g_mem (List.mem_append_right _ (List.mem_append_right _ (List.mem_append_left _ (List.mem_of_getElem? (i := 65) (by decide +kernel))))) rfl), List.forall_mem_cons.mpr ⟨Or.inl (g_mem (List.mem_append_right _ (List.mem_append_right _ (List.mem_append_left _ (List.mem_of_getElem? (i := 120) (by decide +kernel))))) rfl), fun _ h => absurd h List.not_mem_nil⟩⟩⟩⟩⟩⟩⟩⟩⟩⟩⟩⟩⟩⟩⟩
section GT2
variable {X : g_X} {we ws : va_W} {lv : List (Nat × Value)} {pc : Nat} {cc : ByteArray} {d L nL : Nat} {ret : Option FieldType}
set_option maxHeartbeats 1000000 in
/-- throw new E("text") -/
theorem gw_throw (hC : gC X cc R_Desk d L nL ret) (hT : g_T X) {cls text : String} {ik is ic : Nat} (hk : Cond.classLink R_Desk ik cls ∈ g_TB) (hini : Cond.initialized cls ∈ g_TB) (hins : Cond.instantiable cls 6 ∈ g_TB) (hs : (is, text) ∈ g_strs) (hat : g_okT ic cls) (hf : Bundle.fit cls = true)
    (hR : 6 ≤ d ∧ 90 ≤ L) (d0 : decode cc pc = .ok (.new ik, 3)) (d3 : decode cc (pc + 3) = .ok (.dup, 1)) (d4 : decode cc (pc + 4) = .ok (.ldc is, 2)) (d6 : decode cc (pc + 6) = .ok (.invokespecial ic, 3)) (d9 : decode cc (pc + 9) = .ok (.athrow, 1)) :
    gw X (.inr cls) ws ws lv pc [] := by
  obtain ⟨⟨p, l, e, R, s, m, args, below, meth, c⟩, D, cA, A, nl⟩ := X
  obtain ⟨hx, hb, hml, hown, hts, hK, hA, hr, hlocks, hnl, hRf, hRl⟩ := hC
  obtain ⟨hfl, ⟨hmi, hZ1, hZ2, hstr⟩, hRc, hRs, hns, hex⟩ := hT
  dsimp only at *
  intro H locs ls hP hD hS hl T hTT XX
  dsimp only at *
  have htr : e.platform.stackTraces = false := Launch.traces_off hfl XX.admits
  have X0 := g_rebase XX
  have hW : s.WarmedH (g_re s T).vm := XX.warmed
  have hal := hW.alike
  have hts2 : ∀ w ∈ g_TB, w.before args (g_re s T) = true := fun w hw => word_at (U := g_re s T) hW (good_of_word (List.mem_filter.mp hw).2) (hts w hw)
  have hH : (g_re s T).heap = H := hTT
  have hkept : ∀ a : Nat, a < s.heap.size → ¬ A a → (g_re s T).heap[a]? = s.heap[a]? := fun a h1 h2 => by rw [hH]; exact hS.2.1 a h1 h2
  have hY1 := (hZ1.kept hkept).moved (U := g_re s T) hal
  have hY2 := (hZ2.kept hkept).moved (U := g_re s T) hal
  obtain ⟨sa, hvk⟩ := hstr _ hs
  have hvk2 := vk_R.warm hW hvk
  have hat2 : ∀ a ∈ Bundle.ownAtoms R_Desk ic cls ["java/lang/RuntimeException", "java/lang/Exception"], a.before args (g_re s T) = true := fun a ha => by
    rcases hat a ha with h | rfl | rfl | rfl | rfl | h
    · exact hts2 a h
    · exact hY1.ref
    · exact hY2.ref
    · exact hY1.lays
    · exact hY2.lays
    · exact va_any (g_mildO a h) (g_mildM hal hmi a h)
  have hown2 : (g_re s T).vm.findClass R_Desk = some m.cls := by rw [hal.findClass]; exact hown
  obtain ⟨cX, kX0, hfX, hkX0, -⟩ := Cond.instantiable_spec (hts2 _ hins)
  have hsz : T.heap.size = s.heap.size := Nat.le_antisymm (by have := XX.heapSize; simpa using this) XX.same.2.1
  have key : W p l e R (g_re s T) m args below meth c T.heap [] 0 0 (fun t => ∃ oc, t.status = .running ∧ Ended t below oc ∧ g_Qx cls D cA A ws args s oc t) (F0 m pc ls []) := by
    refine W.newcK hx hb hown2 (hts2 _ hk) (hts2 _ hins) (hts2 _ hini) rfl d0 (by omega) (by omega) hfX rfl (fun H1 kC hkC hn1 hs1 ho1 => ?_)
    refine lv_dup hx hb d3 rfl ?_
    refine va_ldcS hx hb hown2 hvk2 d4 ?_
    intro T2 hT2 X2
    have hRL : 0 + 1 + (13 * 3 + 42) ≤ R.locals := by omega
    have hRF : 2 + 3 < R.frames := by omega
    obtain ⟨U, hst, hrun, hend, hWU, hsame, ce, hce, hoc⟩ := X2.ctorThrowS hx htr (names := ["java/lang/RuntimeException", "java/lang/Exception"]) hown2 hf (by decide +kernel) hat2 (fun x h => by cases h) hfX hkC (by rw [hT2]; exact hn1) (Nat.le_refl _) (msg := .ref sa) rfl (g := F0 m (pc + 6) ls [.ref sa, .ref T.heap.size, .ref T.heap.size]) rfl (hl.1.trans (hnl.trans hml.symm)) rfl rfl (rest := []) rfl (by rw [hb]; exact d6) (by rw [hb]; exact d9) (fun x h => by rw [Array.isEmpty_iff.mp hex] at h; cases h) hRF hRL hlocks
    refine ⟨U, hst, .threw T.heap.size, hrun, hend, ?_⟩
    have hcls : ce.cls = cX := Option.some.inj (hoc.cls.symm.trans hfX)
    have halU := hWU.alike
    obtain ⟨kU, hkU, -⟩ := halU.2.2 _ _ hkC
    have hold : ∀ (q : Nat) (x : Cell), T.heap[q]? = some x → U.heap[q]? = some x := fun q x h => hsame.old_cell (show (g_re s T).heap[q]? = some x from h)
    have hszU : T.heap.size ≤ U.heap.size := hsame.2.1
    have hus : T.slotsUsed = s.slotsUsed := by
      have h4 : T.slotsUsed = s.slotsUsed + ((T.heap.toList.drop s.heap.size).map (·.slots.size)).sum := XX.same.2.2.2.1
      rw [h4, ← hsz, List.drop_of_length_le (by simp)]
      rfl
    refine ⟨T.heap.size, ce, kU, locs, rfl, by omega, hce, hoc.vm, by rw [hcls]; exact hkU, by rw [halU.findClass]; exact hoc.cls, by rw [halU.assignable]; exact hoc.self, ⟨hP.kept (fun k q hq => ?_), va_K.moved (hal.trans halU) hK, hD⟩, ⟨by omega, fun q h1 h2 => ?_⟩, State.WarmedH.trans (t := g_re s T) hW hWU, ⟨?_, by show s.heap.size ≤ U.heap.size; omega, ?_, ?_, ?_, ?_⟩, hS.2.2⟩
    · obtain ⟨x, hx9⟩ : ∃ x, H[q.1]? = some x := ⟨_, Array.getElem?_eq_getElem (hP k q hq).lt⟩
      rw [hx9]
      exact hold q.1 x (by rw [hTT]; exact hx9)
    · obtain ⟨x, hx9⟩ : ∃ x, s.heap[q]? = some x := ⟨_, Array.getElem?_eq_getElem h1⟩
      rw [hx9]
      exact hold q x (by rw [hTT, hS.2.1 q h1 h2]; exact hx9)
    · exact congrArg (fun z : State => z.setVm s.vm) hsame.1
    · have := hsame.2.2.1
      show U.heap.size ≤ s.heap.size + 1
      have h9 : U.heap.size ≤ T.heap.size + (0 + 1) := this
      omega
    · have h4 : U.slotsUsed = T.slotsUsed + ((U.heap.toList.drop T.heap.size).map (·.slots.size)).sum := hsame.2.2.2.1
      show U.slotsUsed = s.slotsUsed + ((U.heap.toList.drop s.heap.size).map (·.slots.size)).sum
      rw [h4, hus, hsz]
    · have h5 : ((U.heap.toList.drop T.heap.size).map (·.slots.size)).sum ≤ 0 + 6 := hsame.2.2.2.2.1
      show ((U.heap.toList.drop s.heap.size).map (·.slots.size)).sum ≤ 6
      rw [← hsz]
      omega
    · intro q x hq
      obtain ⟨x1, h1, h2, h3, h4⟩ := XX.same.2.2.2.2.2 q x hq
      exact ⟨x1, hold q x1 h1, h2, h3, h4⟩
  exact key T rfl X0
end GT2
def g_rmX (d L : Nat) : Room := { frames := d, cells := 1, slots := 6, locals := L }
/-- a method that throws a new one of this class, and leaves that world -/
def MtX (l : Launch) (D : va_G) (cA : ClassId) (y : MethodName) (cc : ByteArray) (nL : Nat) (ret : Option FieldType) (d L : Nat) (as : List Value) (ws : va_W) (cls : String) (ws' : va_W) : Prop :=
  ∀ sz : Nat, MetFree l y (headSpec (.code y cc nL ret :: g_TB) (g_rmX d L)) (va_Pc as (fun U => U.heap.size = sz ∧ va_P D vwCl ws U.heap ∧ va_K D vwCl [(cA, .int)] U ∧ va_D (fun _ => True) ws ∧ g_St (va_A ws sz) U U.heap))
    (fun _ _ _ _ _ => True) (g_Qx cls D cA (va_A ws sz) ws')
theorem g_ns {D : va_G} {cl : List vw_C} {q : Nat × va_E} {H : Heap} (h : va_at D cl q H) {cell : Cell} (hc : H[q.1]? = some cell) : cell.vm.isStatics = false := by
  obtain ⟨a, x⟩ := q
  cases x with
  | inl x =>
    have h1 : H[a]? = some (vp_cell x.1 x.2) := h
    cases h1.symm.trans hc
    obtain ⟨cA, n, f⟩ := x
    rcases f with f | f | f | f | f <;> rfl
  | inr o =>
    obtain ⟨r, -, cell', h1, -, h3, -⟩ := h
    cases h1.symm.trans hc
    rw [h3]
    rfl
theorem g_St.moved {A : Nat → Prop} {u U : State} {H : Heap} (hW : u.WarmedH U.vm) (h : g_St A u H) : g_St A U H :=
  ⟨g_mildM hW.alike h.1, h.2.1.moved hW.alike, h.2.2.1.moved hW.alike, fun q hq => (h.2.2.2 q hq).elim fun a ha => ⟨a, vk_R.warm hW ha⟩⟩
theorem g_St.kept {A : Nat → Prop} {U : State} {H H1 : Heap} (h : g_St A U H) (hq : ∀ a : Nat, a < H.size → ¬ A a → H1[a]? = H[a]?) : g_St A U H1 := ⟨h.1, h.2.1.kept hq, h.2.2.1.kept hq, h.2.2.2⟩
theorem g_St.narrow {A B : Nat → Prop} {U : State} {H : Heap} (h : g_St A U H) (hAB : ∀ q, B q → A q) : g_St B U H := ⟨h.1, h.2.1.narrow hAB, h.2.2.1.narrow hAB, h.2.2.2⟩
theorem g_St.same {A : Nat → Prop} {u U : State} {H : Heap} (hv : U.vm = u.vm) (h : g_St A u H) : g_St A U H := h.moved (by rw [hv]; exact State.WarmedH.refl u)
theorem g_metX {l : Launch} (hfl : l.flags = flags0) {D : va_G} {cA : ClassId} {y : MethodName} {as : List Value} {cls : String} {ws' ws : va_W} {cc : ByteArray} {d L nL : Nat} {ret : Option FieldType} (hy : plainName y.cls = true) (hn : (lg_sl as).length ≤ nL)
    (body : ∀ X : g_X, X.1.2.1 = l → X.2.1 = D → X.2.2.1 = cA → gC X cc y.cls d L nL ret → g_T X → gw X (.inr cls) ws' ws (lv_args 0 as) 0 []) : MtX l D cA y cc nL ret d L as ws cls ws' := by
  intro sz
  refine MetFree.of_bodyS (code := cc) (maxLocals := nL) (ret := ret) hy ?_ ?_
  · intro args s m h hn
    obtain ⟨meth, c, h1, h2, h3, h4, h5, h6, -, -⟩ := Cond.code_spec hn (atoms_spec (ws := .code y cc nL ret :: g_TB) h _ List.mem_cons_self)
    exact ⟨meth, c, h1, h2, h3, h4, h5, h6⟩
  · intro p e s m args below meth c s₁ B hml hP _
    obtain ⟨rfl, hsz, hP, hK, hD0, hst⟩ := hP
    have hts := atoms_spec (ws := .code y cc nL ret :: g_TB) B.pre
    subst hsz
    have hh0 : s₁.heap = s.heap := by rw [B.state]; rfl
    have h := body ((p, l, e, g_rmX d L, s, m, as.toArray, below, meth, c), D, cA, va_A ws s.heap.size, nL) rfl rfl rfl
      ⟨B.exec, B.bytes, hml, findClass_of_methodNamed B.named, fun w hw => hts w (List.mem_cons_of_mem _ hw), hK, fun q h => Or.inr h, B.returns, B.notSynchronized, rfl, Nat.le_refl _, Nat.le_refl _⟩
      ⟨hfl, hst, Nat.le_refl _, Nat.le_refl _, fun q cell hA hc => by
        rcases hA with ⟨k, ex, hk⟩ | hA
        · exact g_ns (hP k _ hk) hc
        · exact absurd (Array.getElem?_eq_some_iff.mp hc).1 (Nat.not_lt.mpr hA), B.noHandlers (hts _ List.mem_cons_self)⟩
    obtain ⟨t, a1, oc, b1, b2, b3⟩ := h s.heap [] _ hP hD0.self va_S.rf (lv_entry as hn) s₁ hh0 (Stand.of_body B)
    rw [← lg_entry_eq] at a1
    exact ⟨t, oc, a1, b1, b2, b3⟩
section GX
variable {p : Program} {l : Launch} {e : Env} {R : Room} {s : State} {m : MethodId} {args : Array Value} {below : List Frame} {meth : Method} {c : Code} {T : State} {locs : List Loc} {cells slots : Nat}
/-- a call whose callee throws: the walk stands under the note 'throwing x' -/
theorem g_callVX (X : Stand p l e R s m args below meth c T locs cells slots) (hexec : p.tables.exec = Jvm.exec) {own C : String} {index : Nat} {y : MethodName} {bytes : ByteArray} {maxL : Nat} {ret : Option FieldType} {ws : List Cond} {rm : Room} {Pc : Array Value → State → Prop} {Qc : Array Value → State → Outcome → State → Prop} (F : Addr → Prop)
    (hown : s.vm.findClass own = some m.cls) (hlink : (Cond.methodLink own index y).before args s = true) (hinst : (Cond.instanceMethod y).before args s = true) (hsel : (Cond.selects C y y).before args s = true)
    (hcode : (Cond.code y bytes maxL ret).before args s = true) (hy : y.cls ≠ "java/lang/invoke/MethodHandle" ∧ y.cls ≠ "java/lang/invoke/VarHandle")
    (hM : MetFree l y (headSpec ws rm) Pc (fun _ _ _ _ _ => True) Qc) (hws : ∀ w ∈ ws, ∀ (a' : Array Value) (U : State), s.WarmedH U.vm → w.before a' U = true) (hcw : Cond.code y bytes maxL ret ∈ ws) (hini : ∀ (a' : Array Value) (U : State), s.WarmedH U.vm → (Cond.initialized y.cls).before a' U = true)
    {b : Addr} {cellB : Cell} (hcell : T.heap[b]? = some cellB) (hobj : cellB.vm.isStatics = false) (hcls : s.vm.findClass C = some cellB.cls)
    {g : JFrame} (hg : g.method = m) (hsize : g.locals.size = c.maxLocals) {argsL rest : List Value} (hlen : ∀ sig, parseMethodDescriptor y.desc = some sig → argsL.length = sig.parameters.length)
    (hstack : g.stack = argsL.reverse ++ .ref b :: rest) (hW : 2 * g.monitorRoom + (rest.map fun v => v.category).sum ≤ 8) (hdg : decode c.code g.pc = .ok (.invokevirtual index, 3))
    (hR : rm.frames + 1 ≤ R.frames ∧ 8 + (maxL + 11) + rm.locals ≤ R.locals) (hf : cells + rm.cells ≤ R.cells ∧ slots + rm.slots ≤ R.slots)
    (hpre : ∀ (vm₁ : Vm) (mk : MethodId), s.WarmedH vm₁ → Pc (Value.ref b :: argsL).toArray ((T.setVm vm₁).calling { g with stack := rest } mk (Value.ref b :: argsL).toArray))
    (hq : ∀ (a : Array Value) (st : State) (oc : Outcome) (t : State), Qc a st oc t → ∃ (x : Addr) (L : List Loc), oc = .threw x ∧ st.WarmedH t.vm ∧ st.sameButNew ({ t with vm := st.vm } : State) L 1 6 ∧ ∀ q ∈ L, F q.base) :
    ∃ (x : Addr) (vm₁ : Vm) (mk : MethodId) (t T' : State) (L : List Loc), s.WarmedH vm₁ ∧ Qc (Value.ref b :: argsL).toArray ((T.setVm vm₁).calling { g with stack := rest } mk (Value.ref b :: argsL).toArray) (.threw x) t ∧ T'.heap = t.heap ∧ T'.vm = t.vm ∧ Stand p l e R s m args below meth c T' (locs ++ L) (cells + 1) (slots + 6) ∧
      ((T.setVm vm₁).calling { g with stack := rest } mk (Value.ref b :: argsL).toArray).sameButNew ({ t with vm := ((T.setVm vm₁).calling { g with stack := rest } mk (Value.ref b :: argsL).toArray).vm } : State) L 1 6 ∧ (∀ q ∈ L, F q.base) ∧
      ∀ target, Steps p.tables e below ((T'.setTop { g with stack := rest }).pushFrame (.throwing x)) target → Steps p.tables e below (T.setTop g) target := by
  obtain ⟨mk, methM, hnamed, hmethM, hstM, habM⟩ := Cond.instanceMethod_spec hinst
  obtain ⟨methM', cM, hmethM', -, -, -, -, -, -, hsigM⟩ := Cond.code_spec hnamed hcode
  cases hmethM.symm.trans hmethM'
  obtain ⟨c2, r2, m2, q1, q2, q3, q4, kP, hkP, hkPi⟩ := Cond.selects_spec hsel
  cases hcls.symm.trans q1
  cases (State.methodFound?_of_named hnamed hy).symm.trans q2
  cases hnamed.symm.trans q3
  have hselP : selectMethod e.platform s.vm cellB.cls mk = .method mk := by rw [Launch.admits_selectMethod X.admits]; exact q4
  obtain ⟨vm₁, X₁, hstep₁⟩ := X.invokevirtual hexec hown hlink hnamed hmethM hstM hkP hkPi hy (a := b) (cell := cellB) hcell
    (fun z h => by rw [h] at hobj; cases hobj) hselP hmethM habM hkP hkPi (g := g) hg (argsL := argsL) (rest := rest) (hlen _ hsigM) hstack hdg
  have hn := X₁.named hnamed
  obtain ⟨methY, cY, hmY, hcY, -, hlY, -, -, -, -⟩ := Cond.code_spec hn (hws _ hcw (Value.ref b :: argsL).toArray (T.setVm vm₁) X₁.warmed)
  obtain ⟨kY, hkY, -⟩ := className_of_methodNamed hn
  have hinitY : kY.init = .initialized := Cond.initialized_spec (findClass_of_methodNamed hn) hkY (hini (Value.ref b :: argsL).toArray (T.setVm vm₁) X₁.warmed)
  have hAt : At (T.setVm vm₁) ({ g with stack := rest } : JFrame).method c below := by
    show At (T.setVm vm₁) g.method c below
    rw [hg]; exact X₁.here
  have happ : (headSpec ws rm).appliesLoose y e.platform ((T.setVm vm₁).calling { g with stack := rest } mk (Value.ref b :: argsL).toArray) = true :=
    Spec.appliesLoose_calling (g := { g with stack := rest }) hAt hdg hn hkY hinitY
      (X₁.room_calling (g := { g with stack := rest }) (R' := rm) hsize hmY hcY hR.1 (by rw [hlY]; have h2 := hR.2; dsimp only; omega) hf.1 hf.2) (atoms_intro fun w hw => hws w hw _ _ X₁.warmed)
  obtain ⟨mid, hmid⟩ := hAt.above
  have hfr : ((T.setVm vm₁).setTop { g with stack := rest }).frames = (.java { g with stack := rest } :: mid) ++ below := by rw [State.frames_setTop' _ hAt.top, hmid]; rfl
  obtain ⟨oc, s₂, hsteps, -, hend, hqq⟩ := Steps.callFree hM p X.admits X.cas X.clock (acts := []) hfr happ (hpre vm₁ mk X₁.warmed) trivial
  have hq2 : Qc (Value.ref b :: argsL).toArray ((T.setVm vm₁).calling { g with stack := rest } mk (Value.ref b :: argsL).toArray) oc s₂ := hqq
  obtain ⟨x, L, rfl, hW2, hs2, hF2⟩ := hq _ _ _ _ hq2
  have hend2 : Ended s₂ (.java { g with stack := rest } :: below) (.threw x) := by
    rw [State.frames_setTop' _ hAt.top, X₁.tail] at hend
    exact hend
  obtain ⟨T', X', -, -, ht⟩ := X₁.outOfThrown (g := { g with stack := rest }) hg hend2 hW2 hs2
  refine ⟨x, vm₁, mk, s₂, T', L, X₁.warmed, hq2, ?_, ?_, X', hs2, hF2, fun target h => hstep₁ _ fun acts => ?_⟩
  · rw [ht, Stand.throwing_heap]
  · rw [ht, Stand.throwing_vm]
  · rw [doInvoke_state]
    exact hsteps.trans (by rw [ht]; exact h)
end GX
section GX2
variable {X : g_X} {ws : va_W} {lv : List (Nat × Value)} {pc : Nat} {cc : ByteArray} {own : String} {d L nL : Nat} {ret : Option FieldType}
/-- a call whose callee throws, and nobody here catches it -/
theorem gw_callX (hC : gC X cc own d L nL ret) (hT : g_T X) {y : MethodName} {cy : ByteArray} {my dy Ly index : Nat} {ry : Option FieldType} (as rest : List Value) {b : Nat} {cls : String} {ws1 : va_W}
    (hM : MtX X.1.2.1 X.2.1 X.2.2.1 y cy my ry dy Ly (.ref b :: as) ws cls ws1) (hw : g_okV own index y cy my ry as.length) (q0 : Nat) {ci : Nat} {fs : List Value} (he : ws[q0]? = some (b, .inr (ci, fs))) {q : vw_C} (hc : vwCl[ci]? = some q) (hq : q.1 = y.cls) (hR : dy + 1 ≤ d ∧ 8 + (my + 11) + Ly ≤ L) (h8 : (rest.map fun v => v.category).sum ≤ 8) (st0 : List Value) (hs0 : as.reverse ++ .ref b :: rest = st0)
    (hd : decode cc pc = .ok (.invokevirtual index, 3)) : gw X (.inr cls) ws1 ws lv pc st0 := by
  subst hs0
  obtain ⟨⟨p, l, e, R, s, m, args, below, meth, c⟩, D, cA, A, nl⟩ := X
  obtain ⟨hx, hb, hml, hown, hts, hK, hA, hr, hlocks, hnl, hRf, hRl⟩ := hC
  obtain ⟨htr, hst, hRc, hRs, hns, hex⟩ := hT
  dsimp only at *
  intro H locs ls hP hD hS hl T hTT XX
  dsimp only at *
  have hgood : ∀ w ∈ (Cond.code y cy my ry :: g_TB), ∀ (a' : Array Value) (U : State), s.WarmedH U.vm → w.before a' U = true := pay_in hts (g_good hw.1)
  obtain ⟨cellB, hc1, hc2, hc3⟩ := va_recv hK hP hc he
  have hfree : ∀ q, va_A ws H.size q → A q := fun q h => by
    rcases h with ⟨i, ex, h⟩ | h
    · exact hD.2 i _ h
    · exact hA q (Nat.le_trans hS.1 h)
  have hlen9 : ∀ sig, parseMethodDescriptor y.desc = some sig → as.length = sig.parameters.length := fun sig h => by
    have h2 := hw.2.2.2.2.2.2.2
    rw [h] at h2
    exact (Option.some.inj h2).symm
  obtain ⟨x, vm₁, mk, t, T', L', hWv, hQx, hh, hv, X', hsm, hLf, hgo⟩ := g_callVX (C := y.cls) XX hx (va_A ws H.size) hown (hts _ hw.2.2.1) (hts _ hw.2.2.2.1) (hts _ hw.2.2.2.2.1) (hts _ hw.1) ⟨hw.2.2.2.2.2.1, hw.2.2.2.2.2.2.1⟩ (hM H.size) hgood List.mem_cons_self (fun a' U hU => word_at hU (good_of_word (List.mem_filter.mp hw.2.1).2) (hts _ hw.2.1))
    (by rw [hTT]; exact hc1) hc2 (by rw [← hq]; exact hc3) (g := F0 m pc ls (as.reverse ++ .ref b :: rest)) rfl (hl.1.trans (hnl.trans hml.symm)) (argsL := as) (rest := rest) hlen9 rfl (lv_room h8) (by rw [hb]; exact hd) ⟨Nat.le_trans hR.1 hRf, Nat.le_trans hR.2 hRl⟩ ⟨by show 0 + 1 ≤ R.cells; omega, by show 0 + 6 ≤ R.slots; omega⟩
    (fun vm₁ mk hW1 => by
      have hheap : ((T.setVm vm₁).calling { F0 m pc ls (as.reverse ++ .ref b :: rest) with stack := rest } mk (Value.ref b :: as).toArray).heap = H := hTT
      have hvm9 : ((T.setVm vm₁).calling { F0 m pc ls (as.reverse ++ .ref b :: rest) with stack := rest } mk (Value.ref b :: as).toArray).vm = vm₁ := rfl
      refine ⟨rfl, by rw [hheap], by rw [hheap]; exact hP, va_K.moved (by rw [hvm9]; exact hW1.alike) hK, hD.weaken (fun _ _ _ _ => trivial), ?_⟩
      rw [hheap]
      exact ((hst.kept (fun a h1 h2 => hS.2.1 a h1 h2)).moved (by rw [hvm9]; exact hW1)).narrow hfree)
    (fun a st oc t h => by
      obtain ⟨x, ce, k, L9, h1, -, -, -, -, -, -, -, -, h2, h3, h4⟩ := h
      exact ⟨x, L9, h1, h2, h3, h4⟩)
  obtain ⟨x9, ce, k, L9, h1, h2, h3, h4, h5, h6, h7, ⟨hP1, hK1, hD1⟩, hF1, hW9, hs9, hL9⟩ := hQx
  cases h1
  obtain ⟨hwalk, hrun, hended, hWU, hsame⟩ := X'.leaveThrown x (g := { F0 m pc ls (as.reverse ++ .ref b :: rest) with stack := rest }) rfl rfl rfl (fun z h => by rw [Array.isEmpty_iff.mp hex] at h; cases h) hlocks
  have eh : (T'.setFrames (.throwing x :: below)).heap = t.heap := hh
  have ev : (T'.setFrames (.throwing x :: below)).vm = t.vm := hv
  have h2' : H.size ≤ x := by rw [← hTT]; exact h2
  have hF1' : H.size ≤ t.heap.size := by rw [← hTT]; exact hF1.1
  refine ⟨T'.setFrames (.throwing x :: below), hgo _ hwalk, .threw x, hrun, hended, x, ce, k, locs ++ L', rfl, Nat.le_trans hS.1 h2', by rw [eh]; exact h3, h4, by rw [ev]; exact h5, by rw [ev]; exact h6, by rw [ev]; exact h7, ⟨by rw [eh]; exact hP1, va_K.moved (by rw [ev]; exact Vm.Alike.refl _) hK1, hD1.weaken (fun _ _ _ h => hfree _ h)⟩, ⟨by rw [eh]; exact Nat.le_trans hS.1 hF1', fun q g1 g2 => ?_⟩, hWU, hsame, fun q hq9 => ?_⟩
  · have hq1 : q < H.size := Nat.lt_of_lt_of_le g1 hS.1
    have h9 : t.heap[q]? = H[q]? := by
      have := hF1.2 q (by show q < T.heap.size; rw [hTT]; exact hq1) (fun z => g2 (hfree q z))
      rw [this]
      show T.heap[q]? = H[q]?
      rw [hTT]
    rw [eh, h9]
    exact hS.2.1 q g1 g2
  · rcases List.mem_append.mp hq9 with h | h
    · exact hS.2.2 q h
    · exact hfree _ (hLf q h)
end GX2
/-! results of methods that may throw -/
abbrev g_R : Type := Int32 ⊕ Bool
def g_cls (b : Bool) : String := if b then "java/lang/IllegalStateException" else "java/lang/IllegalArgumentException"
def g_oi : g_R → g_O
  | .inl r => .inl (some (.int r))
  | .inr b => .inr (g_cls b)
def g_ov : g_R → g_O
  | .inl _ => .inl none
  | .inr b => .inr (g_cls b)
def g_isT : g_R → Bool
  | .inl _ => false
  | .inr _ => true
def g_thr (x : Option (g_R × g_S)) (f : Int32 × g_S → Option (g_R × g_S)) : Option (g_R × g_S) := x.bind fun z => match z.1 with
  | .inl v => f (v, z.2)
  | .inr b => some (.inr b, z.2)
theorem g_thrE {x : Option (g_R × g_S)} {f : Int32 × g_S → Option (g_R × g_S)} {r : g_R} {σe : g_S} (h : g_thr x f = some (r, σe)) : (∃ b, x = some (.inr b, σe) ∧ r = .inr b) ∨ ∃ q : Int32 × g_S, x = some (.inl q.1, q.2) ∧ f q = some (r, σe) := by
  unfold g_thr at h
  obtain ⟨⟨z, σ1⟩, h1, h2⟩ := g_bind h
  cases z with
  | inl v => exact Or.inr ⟨(v, σ1), h1, h2⟩
  | inr b =>
    cases h2
    exact Or.inl ⟨b, h1, rfl⟩
