section GT
variable {p : Program} {l : Launch} {e : Env} {R : Room} {s : State} {m : MethodId} {args : Array Value} {below : List Frame} {meth : Method} {c : Code} {T : State} {locs : List Loc}
def g_re (s T : State) : State := ({ s with heap := T.heap, slotsUsed := T.slotsUsed } : State).setVm T.vm
/-- a walk that has made nothing yet may be taken as one that begins here -/
theorem g_rebase (X : Stand p l e R s m args below meth c T locs 0 0) : Stand p l e R (g_re s T) m args below meth c T [] 0 0 := by
  have hsz : T.heap.size = s.heap.size := Nat.le_antisymm (by have := X.heapSize; simpa using this) X.same.2.1
  have hus : T.slotsUsed ≤ s.slotsUsed := by have := X.used; simpa using this
  have hal := X.warmed.alike
  have hfr : (g_re s T).frames = s.frames := rfl
  have hlo : (g_re s T).localsInUse = s.localsInUse := by
    unfold State.localsInUse
    rw [hfr, X.frames]
    have h1 : (g_re s T).vm.method? m = s.vm.method? m := hal.method? m
    simp only [h1]
  refine ⟨X.admits, X.cas, X.clock, X.frames, ?_, ?_, X.method', X.code, X.here, X.tail, State.WarmedH.refl _, X.limits, X.bytes, ?_⟩
  · have hr := X.room
    have hbk : (g_re s T).slotsTrue = true := X.book
    simp only [State.hasRoom, Bool.and_eq_true, decide_eq_true_eq] at hr ⊢
    refine ⟨⟨⟨⟨?_, ?_⟩, ?_⟩, ?_⟩, hbk⟩
    · rw [hlo]; exact hr.1.1.1.1
    · rw [hlo]; exact hr.1.1.1.2
    · show T.heap.size + R.cells ≤ _
      rw [hsz]; exact hr.1.1.2
    · show T.slotsUsed + R.slots ≤ _
      have := hr.1.2
      omega
  · have hh := X.hears
    unfold State.hears at hh ⊢
    sorry
  · sorry
end GT
