/-! THE JUDGEMENT gw: a walk inside one method over a world that is a list of cells; the state stands in the goal. No cell is made. -/
abbrev g_X : Type := (Program × Launch × Env × Room × State × MethodId × Array Value × List Frame × Method × Code) × va_G × ClassId × (Nat → Prop) × Nat
def g_rm (d L : Nat) : Room := { frames := d, cells := 0, slots := 0, locals := L }
/-- what a method leaves: its answer, the world, and nothing else changed -/
def g_Q (D : va_G) (cA : ClassId) (A : Nat → Prop) (rv : Option Value) (ws' : va_W) : Array Value → State → Outcome → State → Prop := fun _ st oc t =>
  (oc = .returned rv ∧ va_P D vwCl ws' t.heap ∧ va_K D vwCl [(cA, .int)] t ∧ va_D A ws') ∧ va_F A st t
/-- how a walk is to end: returned, or threw a new one of this class -/
abbrev g_O : Type := Option Value ⊕ String
def g_Qx (cls : String) (D : va_G) (cA : ClassId) (A : Nat → Prop) (ws' : va_W) : Array Value → State → Outcome → State → Prop := fun _ st oc t =>
  ∃ (a : Nat) (ce : Cell) (k : Class) (L : List Loc), oc = .threw a ∧ st.heap.size ≤ a ∧ t.heap[a]? = some ce ∧ ce.vm = .none ∧ t.vm.classes[ce.cls]? = some k ∧ t.vm.findClass cls = some ce.cls ∧ t.vm.assignable ce.cls ce.cls = true ∧
    (va_P D vwCl ws' t.heap ∧ va_K D vwCl [(cA, .int)] t ∧ va_D A ws') ∧ va_F A st t ∧ st.WarmedH t.vm ∧ st.sameButNew { t with vm := st.vm } L 1 6 ∧ ∀ q ∈ L, A q.base
def g_QQ (X : g_X) (o : g_O) (ws' : va_W) : State → Prop := match o with
  | .inl rv => MQ X.1.2.2.2.2.2.2.2.1 (g_Q X.2.1 X.2.2.1 X.2.2.2.1 rv ws') X.1.2.2.2.2.2.2.1 X.1.2.2.2.2.1 0 0 X.2.2.2.1
  | .inr cls => fun t => ∃ oc, t.status = .running ∧ Ended t X.1.2.2.2.2.2.2.2.1 oc ∧ g_Qx cls X.2.1 X.2.2.1 X.2.2.2.1 ws' X.1.2.2.2.2.2.2.1 X.1.2.2.2.2.1 oc t
def gw (X : g_X) (rv : g_O) (ws' ws : va_W) (lv : List (Nat × Value)) (pc : Nat) (st : List Value) : Prop :=
  ∀ (H : Heap) (locs : List Loc) (ls : Array Slot), va_P X.2.1 vwCl ws H → va_D X.2.2.2.1 ws → va_S X.2.2.2.1 X.1.2.2.2.2.1.heap H locs → lv_has ls X.2.2.2.2 lv →
    W X.1.1 X.1.2.1 X.1.2.2.1 X.1.2.2.2.1 X.1.2.2.2.2.1 X.1.2.2.2.2.2.1 X.1.2.2.2.2.2.2.1 X.1.2.2.2.2.2.2.2.1 X.1.2.2.2.2.2.2.2.2.1 X.1.2.2.2.2.2.2.2.2.2 H locs 0 0
      (g_QQ X rv ws') (F0 X.1.2.2.2.2.2.1 pc ls st)
/-- what stays the same in a walk -/
def gC (X : g_X) (cc : ByteArray) (own : String) (d L nL : Nat) (ret : Option FieldType) : Prop :=
  X.1.1.tables.exec = Jvm.exec ∧ X.1.2.2.2.2.2.2.2.2.2.code = cc ∧ X.1.2.2.2.2.2.2.2.2.2.maxLocals = nL ∧ X.1.2.2.2.2.1.vm.findClass own = some X.1.2.2.2.2.2.1.cls ∧
  (∀ w ∈ g_TB, w.before X.1.2.2.2.2.2.2.1 X.1.2.2.2.2.1 = true) ∧ va_K X.2.1 vwCl [(X.2.2.1, .int)] X.1.2.2.2.2.1 ∧ (∀ q, X.1.2.2.2.2.1.heap.size ≤ q → X.2.2.2.1 q) ∧
  X.1.2.2.2.2.2.2.2.2.1.sig.returnType = ret ∧ X.1.2.2.2.2.2.2.2.2.1.locks = false ∧ X.2.2.2.2 = nL ∧ d ≤ X.1.2.2.2.1.frames ∧ L ≤ X.1.2.2.2.1.locals
/-- a method by its answer and its world: called so, in this world, it answers so and leaves that world -/
def Mt (l : Launch) (D : va_G) (cA : ClassId) (y : MethodName) (cc : ByteArray) (nL : Nat) (ret : Option FieldType) (d L : Nat) (as : List Value) (ws : va_W) (rv : Option Value) (ws' : va_W) : Prop :=
  ∀ sz : Nat, Met l y (.code y cc nL ret :: g_TB) (g_rm d L) (va_Pc as (fun U => U.heap.size = sz ∧ va_P D vwCl ws U.heap ∧ va_K D vwCl [(cA, .int)] U ∧ va_D (fun _ => True) ws))
    (g_Q D cA (va_A ws sz) rv ws') 0 0 (va_A ws sz)
section GW
variable {X : g_X} {rv : g_O} {ws' ws : va_W} {lv lv' : List (Nat × Value)} {pc : Nat} {st : List Value} {cc : ByteArray} {own : String} {d L nL : Nat} {ret : Option FieldType}
theorem gw_lv (ks : List Nat) (hp : lv_pick lv ks = lv') (k : gw X rv ws' ws lv' pc st) : gw X rv ws' ws lv pc st :=
  fun H locs ls hP hD hS hl => k H locs ls hP hD hS (lv_sub hl ks hp)
theorem gw_iconst (hC : gC X cc own d L nL ret) {n : Int} (v : Int32) (hd : decode cc pc = .ok (.iconst n, 1)) (hv : Int32.ofInt n = v) (k : gw X rv ws' ws lv (pc + 1) (.int v :: st)) : gw X rv ws' ws lv pc st :=
  fun H locs ls hP hD hS hl => lv_iconst hC.1 hC.2.1 hd hv (k H locs ls hP hD hS hl)
theorem gw_bipush (hC : gC X cc own d L nL ret) {n : Int} (v : Int32) (hd : decode cc pc = .ok (.bipush n, 2)) (hv : (Int8.ofInt n).toInt32 = v) (k : gw X rv ws' ws lv (pc + 2) (.int v :: st)) : gw X rv ws' ws lv pc st :=
  fun H locs ls hP hD hS hl => lv_bipush hC.1 hC.2.1 hd hv (k H locs ls hP hD hS hl)
theorem gw_sipush (hC : gC X cc own d L nL ret) {n : Int} (v : Int32) (hd : decode cc pc = .ok (.sipush n, 3)) (hv : (Int16.ofInt n).toInt32 = v) (k : gw X rv ws' ws lv (pc + 3) (.int v :: st)) : gw X rv ws' ws lv pc st :=
  fun H locs ls hP hD hS hl => lv_sipush hC.1 hC.2.1 hd hv (k H locs ls hP hD hS hl)
theorem gw_ldc (hC : gC X cc own d L nL ret) {index : Nat} (v : Int32) (hc : Jvm.Cond.constant own index v ∈ g_TB) (hd : decode cc pc = .ok (.ldc index, 2)) (k : gw X rv ws' ws lv (pc + 2) (.int v :: st)) : gw X rv ws' ws lv pc st :=
  fun H locs ls hP hD hS hl => W.ldc hC.1 hC.2.1 hC.2.2.2.1 (hC.2.2.2.2.1 _ hc) rfl hd (k H locs ls hP hD hS hl)
theorem gw_ldc2 (hC : gC X cc own d L nL ret) {index : Nat} (v : Int64) (hc : Jvm.Cond.constantLong own index v ∈ g_TB) (hd : decode cc pc = .ok (.ldc2_w index, 3)) (k : gw X rv ws' ws lv (pc + 3) (.long v :: st)) : gw X rv ws' ws lv pc st :=
  fun H locs ls hP hD hS hl => W.ldc2 hC.1 hC.2.1 hC.2.2.2.1 (hC.2.2.2.2.1 _ hc) rfl hd (k H locs ls hP hD hS hl)
theorem gw_iload_n (hC : gC X cc own d L nL ret) {j : Fin 4} {i : Nat} {x : Int32} (q : Nat) (hd : decode cc pc = .ok (.iload_n j, 1)) (hi : (j : Nat) = i) (hq : lv[q]? = some (i, .int x)) (k : gw X rv ws' ws lv (pc + 1) (.int x :: st)) : gw X rv ws' ws lv pc st :=
  fun H locs ls hP hD hS hl => lv_iload_n hC.1 hC.2.1 hd hi (lv_at hl q hq) (k H locs ls hP hD hS hl)
theorem gw_iload (hC : gC X cc own d L nL ret) {i : Nat} {x : Int32} (q : Nat) (hd : decode cc pc = .ok (.iload i, 2)) (hq : lv[q]? = some (i, .int x)) (k : gw X rv ws' ws lv (pc + 2) (.int x :: st)) : gw X rv ws' ws lv pc st :=
  fun H locs ls hP hD hS hl => lv_iload hC.1 hC.2.1 hd (lv_at hl q hq) (k H locs ls hP hD hS hl)
theorem gw_aload_n (hC : gC X cc own d L nL ret) {j : Fin 4} {i : Nat} {x : Nat} (q : Nat) (hd : decode cc pc = .ok (.aload_n j, 1)) (hi : (j : Nat) = i) (hq : lv[q]? = some (i, .ref x)) (k : gw X rv ws' ws lv (pc + 1) (.ref x :: st)) : gw X rv ws' ws lv pc st :=
  fun H locs ls hP hD hS hl => lv_aload_n hC.1 hC.2.1 hd hi (lv_at hl q hq) (k H locs ls hP hD hS hl)
theorem gw_aload (hC : gC X cc own d L nL ret) {i : Nat} {x : Nat} (q : Nat) (hd : decode cc pc = .ok (.aload i, 2)) (hq : lv[q]? = some (i, .ref x)) (k : gw X rv ws' ws lv (pc + 2) (.ref x :: st)) : gw X rv ws' ws lv pc st :=
  fun H locs ls hP hD hS hl => lv_aload hC.1 hC.2.1 hd (lv_at hl q hq) (k H locs ls hP hD hS hl)
theorem gw_lload_n (hC : gC X cc own d L nL ret) {j : Fin 4} {i : Nat} {x : Int64} (q : Nat) (hd : decode cc pc = .ok (.lload_n j, 1)) (hi : (j : Nat) = i) (hq : lv[q]? = some (i, .long x)) (k : gw X rv ws' ws lv (pc + 1) (.long x :: st)) : gw X rv ws' ws lv pc st :=
  fun H locs ls hP hD hS hl => lv_lload_n hC.1 hC.2.1 hd hi (lv_at hl q hq) (k H locs ls hP hD hS hl)
theorem gw_istore_n (hC : gC X cc own d L nL ret) {j : Fin 4} {i : Nat} {x : Int32} (lv' : List (Nat × Value)) (hd : decode cc pc = .ok (.istore_n j, 1)) (hi : (j : Nat) = i) (hn : i < nL) (hl' : (i, Value.int x) :: lv.filter (fun q => !(q.1 == i) && !(q.1 + 1 == i && q.2.category == 2)) = lv') (k : gw X rv ws' ws lv' (pc + 1) st) : gw X rv ws' ws lv pc (.int x :: st) :=
  fun H locs ls hP hD hS hl => lv_istore_n hC.1 hC.2.1 hd hi hl (by rw [hC.2.2.2.2.2.2.2.2.2.1]; exact hn) hl' (fun ls2 h2 => k H locs ls2 hP hD hS h2)
theorem gw_istore (hC : gC X cc own d L nL ret) {i : Nat} {x : Int32} (lv' : List (Nat × Value)) (hd : decode cc pc = .ok (.istore i, 2)) (hn : i < nL) (hl' : (i, Value.int x) :: lv.filter (fun q => !(q.1 == i) && !(q.1 + 1 == i && q.2.category == 2)) = lv') (k : gw X rv ws' ws lv' (pc + 2) st) : gw X rv ws' ws lv pc (.int x :: st) :=
  fun H locs ls hP hD hS hl => lv_istore hC.1 hC.2.1 hd hl (by rw [hC.2.2.2.2.2.2.2.2.2.1]; exact hn) hl' (fun ls2 h2 => k H locs ls2 hP hD hS h2)
theorem gw_iinc (hC : gC X cc own d L nL ret) {i : Nat} {n : Int} {x : Int32} (v : Int32) (q : Nat) (lv' : List (Nat × Value)) (hd : decode cc pc = .ok (.iinc i n, 3)) (hq : lv[q]? = some (i, .int x)) (hv : x + Int32.ofInt n = v) (hn : i < nL) (hl' : (i, Value.int v) :: lv.filter (fun q => !(q.1 == i) && !(q.1 + 1 == i && q.2.category == 2)) = lv') (k : gw X rv ws' ws lv' (pc + 3) st) : gw X rv ws' ws lv pc st :=
  fun H locs ls hP hD hS hl => lv_iinc hC.1 hC.2.1 hd hl hq hv (by rw [hC.2.2.2.2.2.2.2.2.2.1]; exact hn) hl' (fun ls2 h2 => k H locs ls2 hP hD hS h2)
theorem gw_iadd (hC : gC X cc own d L nL ret) {x y : Int32} (hd : decode cc pc = .ok (.iadd, 1)) (k : gw X rv ws' ws lv (pc + 1) (.int (x + y) :: st)) : gw X rv ws' ws lv pc (.int y :: .int x :: st) :=
  fun H locs ls hP hD hS hl => lv_iadd hC.1 hC.2.1 hd (k H locs ls hP hD hS hl)
theorem gw_isub (hC : gC X cc own d L nL ret) {x y : Int32} (hd : decode cc pc = .ok (.isub, 1)) (k : gw X rv ws' ws lv (pc + 1) (.int (x - y) :: st)) : gw X rv ws' ws lv pc (.int y :: .int x :: st) :=
  fun H locs ls hP hD hS hl => lv_isub hC.1 hC.2.1 hd (k H locs ls hP hD hS hl)
theorem gw_imul (hC : gC X cc own d L nL ret) {x y : Int32} (hd : decode cc pc = .ok (.imul, 1)) (k : gw X rv ws' ws lv (pc + 1) (.int (x * y) :: st)) : gw X rv ws' ws lv pc (.int y :: .int x :: st) :=
  fun H locs ls hP hD hS hl => lv_imul hC.1 hC.2.1 hd (k H locs ls hP hD hS hl)
theorem gw_iand (hC : gC X cc own d L nL ret) {x y : Int32} (hd : decode cc pc = .ok (.iand, 1)) (k : gw X rv ws' ws lv (pc + 1) (.int (x &&& y) :: st)) : gw X rv ws' ws lv pc (.int y :: .int x :: st) :=
  fun H locs ls hP hD hS hl => lv_iand hC.1 hC.2.1 hd (k H locs ls hP hD hS hl)
theorem gw_ior (hC : gC X cc own d L nL ret) {x y : Int32} (hd : decode cc pc = .ok (.ior, 1)) (k : gw X rv ws' ws lv (pc + 1) (.int (x ||| y) :: st)) : gw X rv ws' ws lv pc (.int y :: .int x :: st) :=
  fun H locs ls hP hD hS hl => lv_ior hC.1 hC.2.1 hd (k H locs ls hP hD hS hl)
theorem gw_ishl (hC : gC X cc own d L nL ret) {x y : Int32} (hd : decode cc pc = .ok (.ishl, 1)) (k : gw X rv ws' ws lv (pc + 1) (.int (x <<< (y &&& 31)) :: st)) : gw X rv ws' ws lv pc (.int y :: .int x :: st) :=
  fun H locs ls hP hD hS hl => lv_ishl hC.1 hC.2.1 hd (k H locs ls hP hD hS hl)
theorem gw_irem (hC : gC X cc own d L nL ret) {x y : Int32} (hd : decode cc pc = .ok (.irem, 1)) (hne : ¬ y = 0) (k : gw X rv ws' ws lv (pc + 1) (.int (x - x / y * y) :: st)) : gw X rv ws' ws lv pc (.int y :: .int x :: st) :=
  fun H locs ls hP hD hS hl => lv_irem hC.1 hC.2.1 hd hne (k H locs ls hP hD hS hl)
theorem gw_iushr (hC : gC X cc own d L nL ret) {x y : Int32} (hd : decode cc pc = .ok (.iushr, 1)) (k : gw X rv ws' ws lv (pc + 1) (.int ((x.toUInt32 >>> (y.toUInt32 &&& Int32.toUInt32 31)).toInt32) :: st)) : gw X rv ws' ws lv pc (.int y :: .int x :: st) :=
  fun H locs ls hP hD hS hl => lv_iushr hC.1 hC.2.1 hd rfl (k H locs ls hP hD hS hl)
theorem gw_lushr (hC : gC X cc own d L nL ret) {x : Int64} {y : Int32} (hd : decode cc pc = .ok (.lushr, 1)) (k : gw X rv ws' ws lv (pc + 1) (.long ((x.toUInt64 >>> (y.toInt64.toUInt64 &&& Int64.toUInt64 63)).toInt64) :: st)) : gw X rv ws' ws lv pc (.int y :: .long x :: st) :=
  fun H locs ls hP hD hS hl => lv_lushr hC.1 hC.2.1 hd rfl (k H locs ls hP hD hS hl)
theorem gw_lshr (hC : gC X cc own d L nL ret) {x : Int64} {y : Int32} (hd : decode cc pc = .ok (.lshr, 1)) (k : gw X rv ws' ws lv (pc + 1) (.long (x >>> (y.toInt64 &&& 63)) :: st)) : gw X rv ws' ws lv pc (.int y :: .long x :: st) :=
  fun H locs ls hP hD hS hl => lv_lshr hC.1 hC.2.1 hd rfl (k H locs ls hP hD hS hl)
theorem gw_lshl (hC : gC X cc own d L nL ret) {x : Int64} {y : Int32} (hd : decode cc pc = .ok (.lshl, 1)) (k : gw X rv ws' ws lv (pc + 1) (.long (x <<< (y.toInt64 &&& 63)) :: st)) : gw X rv ws' ws lv pc (.int y :: .long x :: st) :=
  fun H locs ls hP hD hS hl => lv_lshl hC.1 hC.2.1 hd rfl (k H locs ls hP hD hS hl)
theorem gw_land (hC : gC X cc own d L nL ret) {x y : Int64} (hd : decode cc pc = .ok (.land, 1)) (k : gw X rv ws' ws lv (pc + 1) (.long (x &&& y) :: st)) : gw X rv ws' ws lv pc (.long y :: .long x :: st) :=
  fun H locs ls hP hD hS hl => lv_land hC.1 hC.2.1 hd (k H locs ls hP hD hS hl)
theorem gw_lor (hC : gC X cc own d L nL ret) {x y : Int64} (hd : decode cc pc = .ok (.lor, 1)) (k : gw X rv ws' ws lv (pc + 1) (.long (x ||| y) :: st)) : gw X rv ws' ws lv pc (.long y :: .long x :: st) :=
  fun H locs ls hP hD hS hl => lv_lor hC.1 hC.2.1 hd (k H locs ls hP hD hS hl)
theorem gw_l2i (hC : gC X cc own d L nL ret) {x : Int64} (hd : decode cc pc = .ok (.l2i, 1)) (k : gw X rv ws' ws lv (pc + 1) (.int (x.toInt32) :: st)) : gw X rv ws' ws lv pc (.long x :: st) :=
  fun H locs ls hP hD hS hl => lv_l2i hC.1 hC.2.1 hd rfl (k H locs ls hP hD hS hl)
theorem gw_i2l (hC : gC X cc own d L nL ret) {x : Int32} (hd : decode cc pc = .ok (.i2l, 1)) (k : gw X rv ws' ws lv (pc + 1) (.long (x.toInt64) :: st)) : gw X rv ws' ws lv pc (.int x :: st) :=
  fun H locs ls hP hD hS hl => lv_i2l hC.1 hC.2.1 hd rfl (k H locs ls hP hD hS hl)
theorem gw_dup (hC : gC X cc own d L nL ret) {v : Value} (hd : decode cc pc = .ok (.dup, 1)) (hv : v.category = 1) (k : gw X rv ws' ws lv (pc + 1) (v :: v :: st)) : gw X rv ws' ws lv pc (v :: st) :=
  fun H locs ls hP hD hS hl => lv_dup hC.1 hC.2.1 hd hv (k H locs ls hP hD hS hl)
theorem gw_pop (hC : gC X cc own d L nL ret) {v : Value} (hd : decode cc pc = .ok (.pop, 1)) (hv : v.category = 1) (k : gw X rv ws' ws lv (pc + 1) st) : gw X rv ws' ws lv pc (v :: st) :=
  fun H locs ls hP hD hS hl => lv_pop hC.1 hC.2.1 hd hv (k H locs ls hP hD hS hl)
theorem gw_goto (hC : gC X cc own d L nL ret) {off : Int} (tgt : Nat) (hd : decode cc pc = .ok (.goto off, 3)) (ht : (pc : Int) + off = (tgt : Int)) (k : gw X rv ws' ws lv tgt st) : gw X rv ws' ws lv pc st :=
  fun H locs ls hP hD hS hl => lv_goto hC.1 hC.2.1 hd ht (k H locs ls hP hD hS hl)
theorem gw_icmp_eq (hC : gC X cc own d L nL ret) {x y : Int32} {off : Int} (tgt : Nat) (hd : decode cc pc = .ok (.if_icmp .eq off, 3)) (ht : (pc : Int) + off = (tgt : Int)) (kt : x = y → gw X rv ws' ws lv tgt st) (kf : ¬ x = y → gw X rv ws' ws lv (pc + 3) st) : gw X rv ws' ws lv pc (.int y :: .int x :: st) :=
  fun H locs ls hP hD hS hl => lv_icmp_eq hC.1 hC.2.1 hd ht (fun h => kt h H locs ls hP hD hS hl) (fun h => kf h H locs ls hP hD hS hl)
theorem gw_if_eq (hC : gC X cc own d L nL ret) {x : Int32} {off : Int} (tgt : Nat) (hd : decode cc pc = .ok (.ifCond .eq off, 3)) (ht : (pc : Int) + off = (tgt : Int)) (kt : x = 0 → gw X rv ws' ws lv tgt st) (kf : ¬ x = 0 → gw X rv ws' ws lv (pc + 3) st) : gw X rv ws' ws lv pc (.int x :: st) :=
  fun H locs ls hP hD hS hl => lv_if_eq hC.1 hC.2.1 hd ht (fun h => kt h H locs ls hP hD hS hl) (fun h => kf h H locs ls hP hD hS hl)
theorem gw_icmp_ne (hC : gC X cc own d L nL ret) {x y : Int32} {off : Int} (tgt : Nat) (hd : decode cc pc = .ok (.if_icmp .ne off, 3)) (ht : (pc : Int) + off = (tgt : Int)) (kt : ¬ x = y → gw X rv ws' ws lv tgt st) (kf : x = y → gw X rv ws' ws lv (pc + 3) st) : gw X rv ws' ws lv pc (.int y :: .int x :: st) :=
  fun H locs ls hP hD hS hl => lv_icmp_ne hC.1 hC.2.1 hd ht (fun h => kt h H locs ls hP hD hS hl) (fun h => kf h H locs ls hP hD hS hl)
theorem gw_if_ne (hC : gC X cc own d L nL ret) {x : Int32} {off : Int} (tgt : Nat) (hd : decode cc pc = .ok (.ifCond .ne off, 3)) (ht : (pc : Int) + off = (tgt : Int)) (kt : ¬ x = 0 → gw X rv ws' ws lv tgt st) (kf : x = 0 → gw X rv ws' ws lv (pc + 3) st) : gw X rv ws' ws lv pc (.int x :: st) :=
  fun H locs ls hP hD hS hl => lv_if_ne hC.1 hC.2.1 hd ht (fun h => kt h H locs ls hP hD hS hl) (fun h => kf h H locs ls hP hD hS hl)
theorem gw_icmp_lt (hC : gC X cc own d L nL ret) {x y : Int32} {off : Int} (tgt : Nat) (hd : decode cc pc = .ok (.if_icmp .lt off, 3)) (ht : (pc : Int) + off = (tgt : Int)) (kt : x < y → gw X rv ws' ws lv tgt st) (kf : ¬ x < y → gw X rv ws' ws lv (pc + 3) st) : gw X rv ws' ws lv pc (.int y :: .int x :: st) :=
  fun H locs ls hP hD hS hl => lv_icmp_lt hC.1 hC.2.1 hd ht (fun h => kt h H locs ls hP hD hS hl) (fun h => kf h H locs ls hP hD hS hl)
theorem gw_if_lt (hC : gC X cc own d L nL ret) {x : Int32} {off : Int} (tgt : Nat) (hd : decode cc pc = .ok (.ifCond .lt off, 3)) (ht : (pc : Int) + off = (tgt : Int)) (kt : x < 0 → gw X rv ws' ws lv tgt st) (kf : ¬ x < 0 → gw X rv ws' ws lv (pc + 3) st) : gw X rv ws' ws lv pc (.int x :: st) :=
  fun H locs ls hP hD hS hl => lv_if_lt hC.1 hC.2.1 hd ht (fun h => kt h H locs ls hP hD hS hl) (fun h => kf h H locs ls hP hD hS hl)
theorem gw_icmp_ge (hC : gC X cc own d L nL ret) {x y : Int32} {off : Int} (tgt : Nat) (hd : decode cc pc = .ok (.if_icmp .ge off, 3)) (ht : (pc : Int) + off = (tgt : Int)) (kt : y ≤ x → gw X rv ws' ws lv tgt st) (kf : ¬ y ≤ x → gw X rv ws' ws lv (pc + 3) st) : gw X rv ws' ws lv pc (.int y :: .int x :: st) :=
  fun H locs ls hP hD hS hl => lv_icmp_ge hC.1 hC.2.1 hd ht (fun h => kt h H locs ls hP hD hS hl) (fun h => kf h H locs ls hP hD hS hl)
theorem gw_if_ge (hC : gC X cc own d L nL ret) {x : Int32} {off : Int} (tgt : Nat) (hd : decode cc pc = .ok (.ifCond .ge off, 3)) (ht : (pc : Int) + off = (tgt : Int)) (kt : 0 ≤ x → gw X rv ws' ws lv tgt st) (kf : ¬ 0 ≤ x → gw X rv ws' ws lv (pc + 3) st) : gw X rv ws' ws lv pc (.int x :: st) :=
  fun H locs ls hP hD hS hl => lv_if_ge hC.1 hC.2.1 hd ht (fun h => kt h H locs ls hP hD hS hl) (fun h => kf h H locs ls hP hD hS hl)
theorem gw_icmp_gt (hC : gC X cc own d L nL ret) {x y : Int32} {off : Int} (tgt : Nat) (hd : decode cc pc = .ok (.if_icmp .gt off, 3)) (ht : (pc : Int) + off = (tgt : Int)) (kt : y < x → gw X rv ws' ws lv tgt st) (kf : ¬ y < x → gw X rv ws' ws lv (pc + 3) st) : gw X rv ws' ws lv pc (.int y :: .int x :: st) :=
  fun H locs ls hP hD hS hl => lv_icmp_gt hC.1 hC.2.1 hd ht (fun h => kt h H locs ls hP hD hS hl) (fun h => kf h H locs ls hP hD hS hl)
theorem gw_if_gt (hC : gC X cc own d L nL ret) {x : Int32} {off : Int} (tgt : Nat) (hd : decode cc pc = .ok (.ifCond .gt off, 3)) (ht : (pc : Int) + off = (tgt : Int)) (kt : 0 < x → gw X rv ws' ws lv tgt st) (kf : ¬ 0 < x → gw X rv ws' ws lv (pc + 3) st) : gw X rv ws' ws lv pc (.int x :: st) :=
  fun H locs ls hP hD hS hl => lv_if_gt hC.1 hC.2.1 hd ht (fun h => kt h H locs ls hP hD hS hl) (fun h => kf h H locs ls hP hD hS hl)
theorem gw_icmp_le (hC : gC X cc own d L nL ret) {x y : Int32} {off : Int} (tgt : Nat) (hd : decode cc pc = .ok (.if_icmp .le off, 3)) (ht : (pc : Int) + off = (tgt : Int)) (kt : x ≤ y → gw X rv ws' ws lv tgt st) (kf : ¬ x ≤ y → gw X rv ws' ws lv (pc + 3) st) : gw X rv ws' ws lv pc (.int y :: .int x :: st) :=
  fun H locs ls hP hD hS hl => lv_icmp_le hC.1 hC.2.1 hd ht (fun h => kt h H locs ls hP hD hS hl) (fun h => kf h H locs ls hP hD hS hl)
theorem gw_if_le (hC : gC X cc own d L nL ret) {x : Int32} {off : Int} (tgt : Nat) (hd : decode cc pc = .ok (.ifCond .le off, 3)) (ht : (pc : Int) + off = (tgt : Int)) (kt : x ≤ 0 → gw X rv ws' ws lv tgt st) (kf : ¬ x ≤ 0 → gw X rv ws' ws lv (pc + 3) st) : gw X rv ws' ws lv pc (.int x :: st) :=
  fun H locs ls hP hD hS hl => lv_if_le hC.1 hC.2.1 hd ht (fun h => kt h H locs ls hP hD hS hl) (fun h => kf h H locs ls hP hD hS hl)
theorem gw_tableIn (hC : gC X cc own d L nL ret) {dflt lo hi : Int} {offs : Array Int} {len : Nat} {x : Int32} (off : Int) (tgt : Nat) (hd : decode cc pc = .ok (.tableswitch dflt lo hi offs, len)) (h1 : ¬ x.toInt < lo) (h2 : ¬ hi < x.toInt) (ho : offs[(x.toInt - lo).toNat]? = some off) (ht : (pc : Int) + off = (tgt : Int)) (k : gw X rv ws' ws lv tgt st) : gw X rv ws' ws lv pc (.int x :: st) :=
  fun H locs ls hP hD hS hl => lv_tableIn hC.1 hC.2.1 hd h1 h2 ho ht (k H locs ls hP hD hS hl)
theorem gw_tableOut (hC : gC X cc own d L nL ret) {dflt lo hi : Int} {offs : Array Int} {len : Nat} {x : Int32} (tgt : Nat) (hd : decode cc pc = .ok (.tableswitch dflt lo hi offs, len)) (h : x.toInt < lo ∨ hi < x.toInt) (ht : (pc : Int) + dflt = (tgt : Int)) (k : gw X rv ws' ws lv tgt st) : gw X rv ws' ws lv pc (.int x :: st) :=
  fun H locs ls hP hD hS hl => lv_tableOut hC.1 hC.2.1 hd h ht (k H locs ls hP hD hS hl)
theorem gw_lookup (hC : gC X cc own d L nL ret) {dflt : Int} {ps : Array (Int × Int)} {len : Nat} {x : Int32} (off : Int) (tgt : Nat) (hd : decode cc pc = .ok (.lookupswitch dflt ps, len)) (hp : (ps.toList.zip (ps.toList.drop 1)).all (fun (a, next) => a.1 < next.1) = true) (ho : Op.lookupswitch.offset ps.toList dflt x.toInt = off) (ht : (pc : Int) + off = (tgt : Int)) (k : gw X rv ws' ws lv tgt st) : gw X rv ws' ws lv pc (.int x :: st) :=
  fun H locs ls hP hD hS hl => lv_lookup hC.1 hC.2.1 hd hp ho ht (k H locs ls hP hD hS hl)
theorem gw_iret (hC : gC X cc own d L nL (some .int)) {v : Int32} (hd : decode cc pc = .ok (.ireturn, 1)) : gw X (.inl (some (.int v))) ws ws lv pc [.int v] :=
  fun H locs ls hP hD hS hl => W.iret hC.1 hC.2.1 hC.2.2.2.2.2.2.2.1 (fun t ht hW => ⟨⟨rfl, by rw [ht]; exact hP, va_K.moved hW.alike hC.2.2.2.2.2.1, hD⟩, hS.F ht⟩) hS.2.2 hd hC.2.2.2.2.2.2.2.2.1
theorem gw_zret (hC : gC X cc own d L nL (some .boolean)) {v : Int32} (hv : gB v = true) (hd : decode cc pc = .ok (.ireturn, 1)) : gw X (.inl (some (.int v))) ws ws lv pc [.int v] :=
  fun H locs ls hP hD hS hl => W.zret hC.1 hC.2.1 hC.2.2.2.2.2.2.2.1 (gB_narrow hv) (fun t ht hW => ⟨⟨rfl, by rw [ht]; exact hP, va_K.moved hW.alike hC.2.2.2.2.2.1, hD⟩, hS.F ht⟩) hS.2.2 hd hC.2.2.2.2.2.2.2.2.1
theorem gw_vret (hC : gC X cc own d L nL none) (hd : decode cc pc = .ok (.return_, 1)) : gw X (.inl none) ws ws lv pc [] :=
  fun H locs ls hP hD hS hl => W.vret hC.1 hC.2.1 hC.2.2.2.2.2.2.2.1 (fun t ht hW => ⟨⟨rfl, by rw [ht]; exact hP, va_K.moved hW.alike hC.2.2.2.2.2.1, hD⟩, hS.F ht⟩) hS.2.2 hd hC.2.2.2.2.2.2.2.2.1
theorem gw_get (hC : gC X cc own d L nL ret) {ref C : String} {T : u_T} {N ci index : Nat} (hin : ∀ w ∈ u_ws C T N, w ∈ g_TB) {a : Nat} (q0 : Nat) {fs : List Value} (he : ws[q0]? = some (a, .inr (ci, fs))) (hc : vwCl[ci]? = some (C, T, N)) (k0 : Nat) (hk : k0 < N) (hlink : Cond.fieldLink own index ref (T k0).2.1 (T k0).2.2.1 ∈ g_TB) (hs : (T k0).1 = ref) {v : Value} (hv : fs[k0]? = some v) (hd : decode cc pc = .ok (.getfield index, 3)) (k : gw X rv ws' ws lv (pc + 3) (v :: st)) : gw X rv ws' ws lv pc (.ref a :: st) :=
  fun H locs ls hP hD hS hl => va_get hC.1 hC.2.1 hC.2.2.2.2.1 hin hC.2.2.2.1 hC.2.2.2.2.2.1 hP q0 he hc k0 hk (hC.2.2.2.2.1 _ hlink) (fun _ h => hs ▸ h) hv hd (k H locs ls hP hD hS hl)
theorem gw_put (hC : gC X cc own d L nL ret) {ref C : String} {T : u_T} {N ci index : Nat} (hin : ∀ w ∈ u_ws C T N, w ∈ g_TB) (ty0 : Nat → FieldType) (hty : ∀ k, k < N → parseFieldDescriptor (T k).2.2.1 = some (ty0 k)) (hnm : ∀ a, a < N → ∀ b, b < N → a ≠ b → (T a).2.1 ≠ (T b).2.1) {a : Nat} (q0 : Nat) {fs : List Value} (he : ws[q0]? = some (a, .inr (ci, fs))) (hc : vwCl[ci]? = some (C, T, N)) (k0 : Nat) (hk : k0 < N) (hlink : Cond.fieldLink own index ref (T k0).2.1 (T k0).2.2.1 ∈ g_TB) (hs : (T k0).1 = ref) (hf : (T k0).2.2.2 = false) {ty : FieldType} {v : Value} (ht : parseFieldDescriptor (T k0).2.2.1 = some ty) (hn : narrow ty v = v) (hfit : fits ty v = true) (hl0 : k0 < fs.length) (ws1 : va_W) (h1 : ws.set q0 (a, .inr (ci, fs.set k0 v)) = ws1) (hd : decode cc pc = .ok (.putfield index, 3)) (k : gw X rv ws' ws1 lv (pc + 3) st) : gw X rv ws' ws lv pc (v :: .ref a :: st) :=
  fun H locs ls hP hD hS hl => va_put hC.1 hC.2.1 hC.2.2.2.2.1 hin ty0 hty hnm hC.2.2.2.1 hC.2.2.2.2.2.1 hP hD hS q0 he hc k0 hk (hC.2.2.2.2.1 _ hlink) (fun _ h => hs ▸ h) hf ht hn hfit hl0 hd (fun H1 locs1 p1 d1 s1 => k H1 locs1 ls (h1 ▸ p1) (h1 ▸ d1) s1 hl)
theorem gw_iald (hC : gC X cc own d L nL ret) {a : Nat} (q0 : Nat) {n : Nat} {f : Nat → Int32} (he : ws[q0]? = some (a, .inl (X.2.2.1, n, .inl f))) {i : Int32} (hi : gIn i n = true) (hd : decode cc pc = .ok (.iaload, 1)) (k : gw X rv ws' ws lv (pc + 1) (.int (f i.toNatClampNeg) :: st)) : gw X rv ws' ws lv pc (.int i :: .ref a :: st) :=
  fun H locs ls hP hD hS hl => va_iald hC.1 hC.2.1 hC.2.2.2.2.2.1 hP q0 0 he rfl (gIn_vp hi) hd (k H locs ls hP hD hS hl)
theorem gw_iast (hC : gC X cc own d L nL ret) {a : Nat} (q0 : Nat) {n : Nat} {f : Nat → Int32} (he : ws[q0]? = some (a, .inl (X.2.2.1, n, .inl f))) {i x : Int32} (hi : gIn i n = true) (ws1 : va_W) (h1 : ws.set q0 (a, .inl (X.2.2.1, n, .inl (upd f i.toNatClampNeg x))) = ws1) (hd : decode cc pc = .ok (.iastore, 1)) (k : gw X rv ws' ws1 lv (pc + 1) st) : gw X rv ws' ws lv pc (.int x :: .int i :: .ref a :: st) :=
  fun H locs ls hP hD hS hl => va_iast hC.1 hC.2.1 hC.2.2.2.2.2.1 hP hD hS q0 0 he rfl (gIn_vp hi) hd (fun H1 locs1 p1 d1 s1 => k H1 locs1 ls (h1 ▸ p1) (h1 ▸ d1) s1 hl)
theorem gw_alen (hC : gC X cc own d L nL ret) {a : Nat} (q0 : Nat) {n : Nat} {f : Nat → Int32} (he : ws[q0]? = some (a, .inl (X.2.2.1, n, .inl f))) (hd : decode cc pc = .ok (.arraylength, 1)) (k : gw X rv ws' ws lv (pc + 1) (.int (Int32.ofNat n) :: st)) : gw X rv ws' ws lv pc (.ref a :: st) :=
  fun H locs ls hP hD hS hl => va_alen hC.1 hC.2.1 hC.2.2.2.2.2.1 hP q0 0 he (ty := .int) rfl rfl hd (k H locs ls hP hD hS hl)
/-- behind a call -/
theorem gw_ran {y : MethodName} {as : Array Value} {ws1 : va_W} {r1 : Option Value} {st0 rest : List Value} (hC : gC X cc own d L nL ret)
    (hr : ∀ (H : Heap) (locs : List Loc) (ls : Array Slot), va_P X.2.1 vwCl ws H → va_D X.2.2.2.1 ws → va_S X.2.2.2.1 X.1.2.2.2.2.1.heap H locs → lv_has ls X.2.2.2.2 lv →
      va_Run X.1.1 X.1.2.1 X.1.2.2.1 X.1.2.2.2.1 X.1.2.2.2.2.1 X.1.2.2.2.2.2.1 X.1.2.2.2.2.2.2.1 X.1.2.2.2.2.2.2.2.1 X.1.2.2.2.2.2.2.2.2.1 X.1.2.2.2.2.2.2.2.2.2 H locs 0 0 0 0 (F0 X.1.2.2.2.2.2.1 pc ls st0) rest (g_Q X.2.1 X.2.2.1 (va_A ws H.size) r1 ws1 as) (va_A ws H.size))
    (k : gw X rv ws' ws1 lv (pc + 3) (r1.toList ++ rest)) : gw X rv ws' ws lv pc st0 := by
  intro H locs ls hP hD hS hl T hT XX
  obtain ⟨v, st₀, t, T', L, h0, X', hL, e1, e2, ⟨⟨hv, hP1, hK1, hD1⟩, hz, hk⟩, stp⟩ := hr H locs ls hP hD hS hl T hT XX
  cases hv
  rw [h0] at hz hk
  have hfree : ∀ q, va_A ws H.size q → X.2.2.2.1 q := fun q h => by
    rcases h with ⟨i, ex, h⟩ | h
    · exact hD.2 i _ h
    · exact hC.2.2.2.2.2.2.1 q (Nat.le_trans hS.1 h)
  obtain ⟨t2, a1, b1⟩ := k T'.heap (locs ++ L) ls (by rw [e1]; exact hP1) (hD1.weaken (fun _ _ _ h => hfree _ h))
    ⟨Nat.le_trans hS.1 (by rw [e1]; exact hz), fun q h1 h2 => by rw [e1, hk q (Nat.lt_of_lt_of_le h1 hS.1) (fun z => h2 (hfree q z))]; exact hS.2.1 q h1 h2, fun q hq => by
      rcases List.mem_append.mp hq with h | h
      · exact hS.2.2 q h
      · exact hfree _ (hL q h)⟩ hl T' rfl X'
  exact ⟨t2, stp t2 a1, b1⟩
theorem g_blind {D : va_G} {cA : ClassId} {as : List Value} {sz : Nat} : FrameBlind (va_Pc as (fun U => U.heap.size = sz ∧ va_P D vwCl ws U.heap ∧ va_K D vwCl [(cA, .int)] U ∧ va_D (fun _ => True) ws)) :=
  fun a U g mk q => by
    obtain ⟨q0, q1, qP, qK, qD⟩ := q
    exact ⟨q0, q1, qP, va_K.moved (u := U) (U := U.calling g mk a) (Vm.Alike.refl U.vm) qK, qD⟩
theorem gw_callS (hC : gC X cc own d L nL ret) {y : MethodName} {cy : ByteArray} {my dy Ly index : Nat} {ry : Option FieldType} (as rest : List Value) {r1 : Option Value} {ws1 : va_W}
    (hM : Mt X.1.2.1 X.2.1 X.2.2.1 y cy my ry dy Ly as ws r1 ws1) (hw : g_okS own index y cy my ry as.length) (hR : dy + 1 ≤ d ∧ 8 + (my + 11) + Ly ≤ L) (h8 : (rest.map fun v => v.category).sum ≤ 8) (st0 st1 : List Value) (hs0 : as.reverse ++ rest = st0) (hs1 : r1.toList ++ rest = st1)
    (hd : decode cc pc = .ok (.invokestatic index, 3)) (k : gw X rv ws' ws1 lv (pc + 3) st1) : gw X rv ws' ws lv pc st0 := by
  subst hs0 hs1
  refine gw_ran (y := y) (as := as.toArray) (rest := rest) hC (fun H locs ls hP hD hS hl => ?_) k
  have hts := hC.2.2.2.2.1
  exact va_runS ⟨hC.1, hC.2.1, hC.2.2.1, hC.2.2.2.1, hts⟩ (hM H.size) ⟨callB_of as.length hts (g_good hw.1) rfl rfl rfl (hts _ hw.2.1) (hts _ hw.2.2.1) hw.2.2.2.2 ⟨Nat.le_trans hR.1 hC.2.2.2.2.2.2.2.2.2.2.1, Nat.le_trans hR.2 hC.2.2.2.2.2.2.2.2.2.2.2⟩, hts _ hw.2.2.2.1⟩
    ⟨g_blind, fun U hU hW => ⟨rfl, by rw [hU], by rw [hU]; exact hP, va_K.moved hW.alike hC.2.2.2.2.2.1, hD.weaken (fun _ _ _ _ => trivial)⟩⟩ rfl rfl (hl.1.trans hC.2.2.2.2.2.2.2.2.2.1) rfl (lv_room h8) hd ⟨Nat.zero_le _, Nat.zero_le _⟩
theorem gw_callV (hC : gC X cc own d L nL ret) {y : MethodName} {cy : ByteArray} {my dy Ly index : Nat} {ry : Option FieldType} (as rest : List Value) {b : Nat} {r1 : Option Value} {ws1 : va_W}
    (hM : Mt X.1.2.1 X.2.1 X.2.2.1 y cy my ry dy Ly (.ref b :: as) ws r1 ws1) (hw : g_okV own index y cy my ry as.length) (q0 : Nat) {ci : Nat} {fs : List Value} (he : ws[q0]? = some (b, .inr (ci, fs))) {q : vw_C} (hc : vwCl[ci]? = some q) (hq : q.1 = y.cls) (hR : dy + 1 ≤ d ∧ 8 + (my + 11) + Ly ≤ L) (h8 : (rest.map fun v => v.category).sum ≤ 8) (st0 st1 : List Value) (hs0 : as.reverse ++ .ref b :: rest = st0) (hs1 : r1.toList ++ rest = st1)
    (hd : decode cc pc = .ok (.invokevirtual index, 3)) (k : gw X rv ws' ws1 lv (pc + 3) st1) : gw X rv ws' ws lv pc st0 := by
  subst hs0 hs1
  refine gw_ran (y := y) (as := (Value.ref b :: as).toArray) (rest := rest) hC (fun H locs ls hP hD hS hl => ?_) k
  have hts := hC.2.2.2.2.1
  exact va_runV (C := y.cls) ⟨hC.1, hC.2.1, hC.2.2.1, hC.2.2.2.1, hts⟩ (hM H.size) ⟨callB_of as.length hts (g_good hw.1) rfl rfl rfl (hts _ hw.2.1) (hts _ hw.2.2.1) hw.2.2.2.2.2 ⟨Nat.le_trans hR.1 hC.2.2.2.2.2.2.2.2.2.2.1, Nat.le_trans hR.2 hC.2.2.2.2.2.2.2.2.2.2.2⟩, hts _ hw.2.2.2.1, hts _ hw.2.2.2.2.1⟩
    ⟨g_blind, hq ▸ va_recv hC.2.2.2.2.2.1 hP hc he, fun U hU hW => ⟨rfl, by rw [hU], by rw [hU]; exact hP, va_K.moved hW.alike hC.2.2.2.2.2.1, hD.weaken (fun _ _ _ _ => trivial)⟩⟩ rfl rfl (hl.1.trans hC.2.2.2.2.2.2.2.2.2.1) rfl (lv_room h8) hd ⟨Nat.zero_le _, Nat.zero_le _⟩
/-- a method's contract out of its walk -/
theorem g_met {l : Launch} {D : va_G} {cA : ClassId} {y : MethodName} {as : List Value} {rv : Option Value} (hy : plainName y.cls = true) (hn : (lg_sl as).length ≤ nL)
    (body : ∀ X : g_X, X.1.2.1 = l → X.2.1 = D → X.2.2.1 = cA → gC X cc y.cls d L nL ret → gw X (.inl rv) ws' ws (lv_args 0 as) 0 []) : Mt l D cA y cc nL ret d L as ws rv ws' := by
  intro sz
  refine Met.ofW (cc := cc) (maxL := nL) (ret := ret) hy rfl ?_
  intro p e s m args below meth c s₁ B hml hv
  obtain ⟨rfl, hsz, hP, hK, hD0⟩ := hv
  have hts := atoms_spec (ws := .code y cc nL ret :: g_TB) B.pre
  subst hsz
  have h := body ((p, l, e, g_rm d L, s, m, as.toArray, below, meth, c), D, cA, va_A ws s.heap.size, nL) rfl rfl rfl
    ⟨B.exec, B.bytes, hml, findClass_of_methodNamed B.named, fun w hw => hts w (List.mem_cons_of_mem _ hw), hK, fun q h => Or.inr h, B.returns, B.notSynchronized, rfl, Nat.le_refl _, Nat.le_refl _⟩
  rw [lg_entry_eq]
  exact h s.heap [] _ hP hD0.self va_S.rf (lv_entry as hn)
def g_okM (own : String) (index : Nat) (y : MethodName) (cy : ByteArray) : Prop := Cond.methodLink own index y ∈ g_TB ∧ Cond.static y ∈ g_TB ∧ Cond.initialized "java/lang/Math" ∈ g_TB ∧ Cond.code y cy 2 (some .int) ∈ g_TB
theorem gw_mmin (hC : gC X cc own d L nL ret) {index : Nat} {x y : Int32} (hw : g_okM own index Lib.Math.min.name Lib.Math.min.code) (hR : 1 ≤ d ∧ 21 ≤ L) (h8 : (st.map fun v => v.category).sum ≤ 8) (hd : decode cc pc = .ok (.invokestatic index, 3)) (k : gw X rv ws' ws lv (pc + 3) (.int (if y < x then y else x) :: st)) : gw X rv ws' ws lv pc (.int y :: .int x :: st) :=
  fun H locs ls hP hD hS hl => va_mmin hC.1 hC.2.1 (hC.2.2.1.trans (hl.1.trans hC.2.2.2.2.2.2.2.2.2.1).symm) hC.2.2.2.1 (hC.2.2.2.2.1 _ hw.1) (hC.2.2.2.2.1 _ hw.2.1) (hC.2.2.2.2.1 _ hw.2.2.1) (hC.2.2.2.2.1 _ hw.2.2.2) (Nat.le_trans hR.1 hC.2.2.2.2.2.2.2.2.2.2.1) (by have h9 := hC.2.2.2.2.2.2.2.2.2.2.2; omega) (Nat.zero_le _) (Nat.zero_le _) hd (k H locs ls hP hD hS hl)
theorem gw_mmax (hC : gC X cc own d L nL ret) {index : Nat} {x y : Int32} (hw : g_okM own index Lib.Math.max.name Lib.Math.max.code) (hR : 1 ≤ d ∧ 21 ≤ L) (h8 : (st.map fun v => v.category).sum ≤ 8) (hd : decode cc pc = .ok (.invokestatic index, 3)) (k : gw X rv ws' ws lv (pc + 3) (.int (if x < y then y else x) :: st)) : gw X rv ws' ws lv pc (.int y :: .int x :: st) :=
  fun H locs ls hP hD hS hl => va_mmax hC.1 hC.2.1 (hC.2.2.1.trans (hl.1.trans hC.2.2.2.2.2.2.2.2.2.1).symm) hC.2.2.2.1 (hC.2.2.2.2.1 _ hw.1) (hC.2.2.2.2.1 _ hw.2.1) (hC.2.2.2.2.1 _ hw.2.2.1) (hC.2.2.2.2.1 _ hw.2.2.2) (Nat.le_trans hR.1 hC.2.2.2.2.2.2.2.2.2.2.1) (by have h9 := hC.2.2.2.2.2.2.2.2.2.2.2; omega) (Nat.zero_le _) (Nat.zero_le _) hd (k H locs ls hP hD hS hl)
end GW
