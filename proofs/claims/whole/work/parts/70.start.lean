/-! THE CLAIM OUT OF ONE WALK OF THE LAW'S BODY. Your part is whole_start (and what it stands on); all else here is the same for every law, but numbers. -/
def R_law : String := "PatternDeskLaw"
def lw_P (b : Addr) (xs : List Int32) (args : Array Value) (s : State) : Prop := args = #[.ref b] ∧ s.IntsAt b xs ∧ xs.length ≤ 2048 ∧ (Jvm.Cond.and given_1 narrow_1).before args s = true
def lw_Q (_ : Array Value) (s : State) (o : Outcome) (t : State) : Prop := o = .returned (some (.int 1)) ∧ Framed s o t [] 601024 7293033
def lw_Z (below : List Frame) (a : Array Value) (s : State) : State → Prop := fun t => ∃ o, t.status = .running ∧ Ended t below o ∧ lw_Q a s o t
/-- the law's own end, with 1 on the stack, nothing written that was there before, its room as the claim has it -/
theorem lw_ret {p : Program} {l : Launch} {e : Env} {s : State} {m : MethodId} {below : List Frame} {meth : Method} {c : Code} {b : Nat} (hx : p.tables.exec = Jvm.exec) (hb : c.code = code) (hr : meth.sig.returnType = ret) (hlocks : meth.locks = false) {pc : Nat} {H : Heap} {ls : Array Slot} (hdg : decode code pc = .ok (.ireturn, 1)) : W p l e room_1 s m #[Value.ref b] below meth c H [] 601024 7293033 (lw_Z below #[Value.ref b] s) (F0 m pc ls [.int 1]) := by
  intro T hT X
  obtain ⟨fs, hret, hrun, hended, hW, hframe⟩ := X.leave (v := some (.int 1)) (hlocks := hlocks) (fun h => by rw [hr] at h; cases h)
  have hmeth' : T.vm.method? m = some meth := X.method'
  refine ⟨T.setFrames fs, ?_, .returned (some (.int 1)), hrun, hended, rfl, ⟨_, rfl⟩, hW, hframe⟩
  jvm_step X.here [X.here.top, hx, hb, hdg, hmeth', hr, ret, narrow_b1]
  (try refine ⟨rfl, ?_⟩); (try refine ⟨rfl, ?_⟩)
  first | (intro acts; rw [hret _ acts rfl rfl rfl]) | rw [hret _ _ rfl rfl rfl]
  exact Steps.refl _
/-- what holds at the law's entry: the machine, the code, the tables' words (any of lw_tbl by 'hts w (by decide +kernel)'), the script of L ints xs at the cell b, what the Statement gives of the start (any of its parts by flat_of_before) -/
def lw_At (p : Program) (s : State) (m : MethodId) (meth : Method) (c : Code) (b L : Nat) (xs : Nat → Int32) : Prop :=
  p.tables.exec = Jvm.exec ∧ c.code = code ∧ meth.sig.returnType = ret ∧ c.maxLocals = 7 ∧ s.vm.findClass R_law = some m.cls ∧ (∀ w ∈ lw_tbl, w.before #[Value.ref b] s = true) ∧ va_X b L xs s s.heap ∧ b < s.heap.size ∧ meth.locks = false ∧ (Jvm.Cond.and given_1 narrow_1).before #[Value.ref b] s = true
set_option maxHeartbeats 4000000 in
theorem whole_start_of {I : g_S → g_S → Prop} (hI : g_Sim I) {p : Program} {e : Env} {s : State} {m : MethodId} {below : List Frame} {meth : Method} {c : Code} (l : Launch) (hfl : l.flags = flags0) {b L : Nat} {xs : Nat → Int32} (hL : L ≤ 2048) (C0 : lw_At p s m meth c b L xs) : W p l e room_1 s m #[Value.ref b] below meth c s.heap [] 0 0 (lw_Z below #[Value.ref b] s) (entryFrame m ([Value.ref b] : List Value).toArray 7) := by
  obtain ⟨hx, hb, hr, hml, hown, hts, hX, hbl, hlocks, hgv⟩ := id C0
  have htb : ∀ w ∈ g_TB, w.before #[Value.ref b] s = true := fun w hw => hts w (List.mem_filter.mp hw).1
  have hfb := flat_of_before _ hgv
  have hA : ∀ q : Nat, s.heap.size ≤ q → (fun q : Nat => s.heap.size ≤ q) q := fun _ h => h
  have hbA : ¬ (fun q : Nat => s.heap.size ≤ q) b := Nat.not_le.mpr hbl
  have hAn : ∀ a : Nat, a < s.heap.size → ¬ (fun q : Nat => s.heap.size ≤ q) a := fun a h => Nat.not_le.mpr h
  obtain ⟨c0, iS0, hKn0⟩ := u_known (C := R_Desk) (T := T_Desk) (N := 8) (n := 8) htb in_Desk (htb _ k_ob_Desk)
  obtain ⟨c1, iS1, hKn1⟩ := u_known (C := R_Program) (T := T_Program) (N := 19) (n := 19) htb in_Program (htb _ k_ob_Program)
  obtain ⟨c2, iS2, hKn2⟩ := u_known (C := R_Reader) (T := T_Reader) (N := 17) (n := 17) htb in_Reader (htb _ k_ob_Reader)
  obtain ⟨c3, iS3, hKn3⟩ := u_known (C := R_Machine) (T := T_Machine) (N := 15) (n := 15) htb in_Machine (htb _ k_ob_Machine)
  obtain ⟨c4, iS4, hKn4⟩ := u_known (C := R_Mod) (T := T_Mod) (N := 48) (n := 48) htb in_Mod (htb _ k_ob_Mod)
  obtain ⟨dC, dI, hKc⟩ : ∃ (dC : Nat → ClassId) (dI : Nat → Nat → Nat), ∀ (k : Nat) (q : vw_C), vwCl[k]? = some q → u_Kn s q.1 q.2.1 q.2.2 (dC k) (dI k) := by
    refine ⟨fun k => if k = 0 then c0 else if k = 1 then c1 else if k = 2 then c2 else if k = 3 then c3 else c4, fun k => if k = 0 then iS0 else if k = 1 then iS1 else if k = 2 then iS2 else if k = 3 then iS3 else iS4, ?_⟩
    intro k q hq
    match k, hq with
    | 0, hq => cases hq; exact hKn0
    | 1, hq => cases hq; exact hKn1
    | 2, hq => cases hq; exact hKn2
    | 3, hq => cases hq; exact hKn3
    | 4, hq => cases hq; exact hKn4
    | k + 5, hq => simp [vwCl] at hq
  obtain ⟨cA, kA, compA, hA1, hA2, hA3⟩ := Cond.arrayClass_spec (htb _ k_arrI)
  obtain ⟨cL, kL, compL, hL1, hL2, hL3⟩ := Cond.arrayClass_spec (htb _ k_arrL)
  have hK : va_K (dC, dI) vwCl [(cA, .int), (cL, .long)] s := ⟨hKc, fun k q h => by
    match k, h with
    | 0, h => cases h; exact ⟨fun n z => ⟨fun k h => (by cases h), kA, hA2, compA, hA3⟩, hA1⟩
    | 1, h => cases h; exact ⟨fun n z => ⟨fun k h => (by cases h), kL, hL2, compL, hL3⟩, hL1⟩
    | k + 2, h => simp at h⟩
  have hmild : ∀ w ∈ g_mild, w.before #[] s = true := fun w hw => va_tabs (g_mildO w hw) rfl (hts w ((by decide +kernel : ∀ w ∈ g_mild, w ∈ lw_tbl) w hw))
  have hst : g_St (fun q : Nat => s.heap.size ≤ q) s s.heap := ⟨hmild,
    g_Z.of (hts _ (by decide +kernel)) (hfb _ (by decide +kernel)) hAn,
    g_Z.of (hts _ (by decide +kernel)) (hfb _ (by decide +kernel)) hAn,
    fun q hq => by
      have h1 := hts _ ((by decide +kernel : ∀ q ∈ g_strs, Cond.stringRef "PatternDesk" q.1 q.2 ∈ lw_tbl) q hq)
      have h2 := hfb _ ((by decide +kernel : ∀ q ∈ g_strs, Cond.exactly (.string "PatternDesk" q.1) "java/lang/String" ∈ flatC (Jvm.Cond.and given_1 narrow_1)) q hq)
      obtain ⟨a2, ce, cS, kS, q1, -⟩ := Cond.exactly_spec h2
      exact ⟨a2, vk_R.of h1 q1⟩⟩
  have hnc : va_Nc g_ISE g_IAE s := va_Nc.of (hfb _ (by decide +kernel))
  have hGD : ∀ vm, s.WarmedH vm → g_GD vm := fun vm hW U hU => va_Nw.warmM (s := s) (by rw [hU]; exact hW) (va_Nw.of rfl (hts _ (by decide +kernel)))
  have h := law_start (X := ((p, l, e, room_1, s, m, #[Value.ref b], below, meth, c), (dC, dI), cA, cL, (fun q : Nat => s.heap.size ≤ q), 7, lw_Z below #[Value.ref b] s)) (b := b) (L := L) (xs := xs)
    ⟨hx, hb, hml, hown, htb, hK, hA, hr, hlocks, rfl, Nat.le_refl _, Nat.le_refl _⟩ hX hbl hbA hst hnc hfl rfl hL hI
    (fun cs ws lv h H locs ls hP hD hS hl => va_forget (fun q hq => hS.2.2 q hq) (W.widen h.1 h.2 (lw_ret hx hb hr hlocks d_Law_law_550))) hGD
  rw [lg_entry_eq]
  exact h s.heap [] _ (fun k q h => by simp at h) ⟨fun i j p q h => by simp at h, fun k q h => by simp at h⟩ va_S.rf (lv_entry [.ref b] (Nat.le_of_ble_eq_true rfl))
