/-! THE SAME JUDGEMENT FOR THE LAW AND ITS HELPERS: any end, cells may be made, a long array beside -/
abbrev g_L : Type := (Program × Launch × Env × Room × State × MethodId × Array Value × List Frame × Method × Code) × va_G × ClassId × ClassId × (Nat → Prop) × Nat × (State → Prop)
def gl (X : g_L) (cs : Nat × Nat) (ws : va_W) (lv : List (Nat × Value)) (pc : Nat) (st : List Value) : Prop :=
  ∀ (H : Heap) (locs : List Loc) (ls : Array Slot), va_P X.2.1 vwCl ws H → va_D X.2.2.2.2.1 ws → va_S X.2.2.2.2.1 X.1.2.2.2.2.1.heap H locs → lv_has ls X.2.2.2.2.2.1 lv →
    W X.1.1 X.1.2.1 X.1.2.2.1 X.1.2.2.2.1 X.1.2.2.2.2.1 X.1.2.2.2.2.2.1 X.1.2.2.2.2.2.2.1 X.1.2.2.2.2.2.2.2.1 X.1.2.2.2.2.2.2.2.2.1 X.1.2.2.2.2.2.2.2.2.2 H locs cs.1 cs.2 X.2.2.2.2.2.2 (F0 X.1.2.2.2.2.2.1 pc ls st)
def gCL (X : g_L) (cc : ByteArray) (own : String) (d L nL : Nat) (ret : Option FieldType) : Prop :=
  X.1.1.tables.exec = Jvm.exec ∧ X.1.2.2.2.2.2.2.2.2.2.code = cc ∧ X.1.2.2.2.2.2.2.2.2.2.maxLocals = nL ∧ X.1.2.2.2.2.1.vm.findClass own = some X.1.2.2.2.2.2.1.cls ∧
  (∀ w ∈ g_TB, w.before X.1.2.2.2.2.2.2.1 X.1.2.2.2.2.1 = true) ∧ va_K X.2.1 vwCl [(X.2.2.1, .int), (X.2.2.2.1, .long)] X.1.2.2.2.2.1 ∧ (∀ q, X.1.2.2.2.2.1.heap.size ≤ q → X.2.2.2.2.1 q) ∧
  X.1.2.2.2.2.2.2.2.2.1.sig.returnType = ret ∧ X.1.2.2.2.2.2.2.2.2.1.locks = false ∧ X.2.2.2.2.2.1 = nL ∧ d ≤ X.1.2.2.2.1.frames ∧ L ≤ X.1.2.2.2.1.locals
section GL
variable {X : g_L} {cs : Nat × Nat} {ws : va_W} {lv lv' : List (Nat × Value)} {pc : Nat} {st : List Value} {cc : ByteArray} {own : String} {d L nL : Nat} {ret : Option FieldType}
theorem gl_lv (ks : List Nat) (hp : lv_pick lv ks = lv') (k : gl X cs ws lv' pc st) : gl X cs ws lv pc st :=
  fun H locs ls hP hD hS hl => k H locs ls hP hD hS (lv_sub hl ks hp)
theorem gl_iconst (hC : gCL X cc own d L nL ret) {n : Int} (v : Int32) (hd : decode cc pc = .ok (.iconst n, 1)) (hv : Int32.ofInt n = v) (k : gl X cs ws lv (pc + 1) (.int v :: st)) : gl X cs ws lv pc st :=
  fun H locs ls hP hD hS hl => lv_iconst hC.1 hC.2.1 hd hv (k H locs ls hP hD hS hl)
theorem gl_bipush (hC : gCL X cc own d L nL ret) {n : Int} (v : Int32) (hd : decode cc pc = .ok (.bipush n, 2)) (hv : (Int8.ofInt n).toInt32 = v) (k : gl X cs ws lv (pc + 2) (.int v :: st)) : gl X cs ws lv pc st :=
  fun H locs ls hP hD hS hl => lv_bipush hC.1 hC.2.1 hd hv (k H locs ls hP hD hS hl)
theorem gl_sipush (hC : gCL X cc own d L nL ret) {n : Int} (v : Int32) (hd : decode cc pc = .ok (.sipush n, 3)) (hv : (Int16.ofInt n).toInt32 = v) (k : gl X cs ws lv (pc + 3) (.int v :: st)) : gl X cs ws lv pc st :=
  fun H locs ls hP hD hS hl => lv_sipush hC.1 hC.2.1 hd hv (k H locs ls hP hD hS hl)
theorem gl_ldc (hC : gCL X cc own d L nL ret) {index : Nat} (v : Int32) (hc : Jvm.Cond.constant own index v ∈ g_TB) (hd : decode cc pc = .ok (.ldc index, 2)) (k : gl X cs ws lv (pc + 2) (.int v :: st)) : gl X cs ws lv pc st :=
  fun H locs ls hP hD hS hl => W.ldc hC.1 hC.2.1 hC.2.2.2.1 (hC.2.2.2.2.1 _ hc) rfl hd (k H locs ls hP hD hS hl)
theorem gl_ldc2 (hC : gCL X cc own d L nL ret) {index : Nat} (v : Int64) (hc : Jvm.Cond.constantLong own index v ∈ g_TB) (hd : decode cc pc = .ok (.ldc2_w index, 3)) (k : gl X cs ws lv (pc + 3) (.long v :: st)) : gl X cs ws lv pc st :=
  fun H locs ls hP hD hS hl => W.ldc2 hC.1 hC.2.1 hC.2.2.2.1 (hC.2.2.2.2.1 _ hc) rfl hd (k H locs ls hP hD hS hl)
theorem gl_iload_n (hC : gCL X cc own d L nL ret) {j : Fin 4} {i : Nat} {x : Int32} (q : Nat) (hd : decode cc pc = .ok (.iload_n j, 1)) (hi : (j : Nat) = i) (hq : lv[q]? = some (i, .int x)) (k : gl X cs ws lv (pc + 1) (.int x :: st)) : gl X cs ws lv pc st :=
  fun H locs ls hP hD hS hl => lv_iload_n hC.1 hC.2.1 hd hi (lv_at hl q hq) (k H locs ls hP hD hS hl)
theorem gl_iload (hC : gCL X cc own d L nL ret) {i : Nat} {x : Int32} (q : Nat) (hd : decode cc pc = .ok (.iload i, 2)) (hq : lv[q]? = some (i, .int x)) (k : gl X cs ws lv (pc + 2) (.int x :: st)) : gl X cs ws lv pc st :=
  fun H locs ls hP hD hS hl => lv_iload hC.1 hC.2.1 hd (lv_at hl q hq) (k H locs ls hP hD hS hl)
theorem gl_aload_n (hC : gCL X cc own d L nL ret) {j : Fin 4} {i : Nat} {x : Nat} (q : Nat) (hd : decode cc pc = .ok (.aload_n j, 1)) (hi : (j : Nat) = i) (hq : lv[q]? = some (i, .ref x)) (k : gl X cs ws lv (pc + 1) (.ref x :: st)) : gl X cs ws lv pc st :=
  fun H locs ls hP hD hS hl => lv_aload_n hC.1 hC.2.1 hd hi (lv_at hl q hq) (k H locs ls hP hD hS hl)
theorem gl_aload (hC : gCL X cc own d L nL ret) {i : Nat} {x : Nat} (q : Nat) (hd : decode cc pc = .ok (.aload i, 2)) (hq : lv[q]? = some (i, .ref x)) (k : gl X cs ws lv (pc + 2) (.ref x :: st)) : gl X cs ws lv pc st :=
  fun H locs ls hP hD hS hl => lv_aload hC.1 hC.2.1 hd (lv_at hl q hq) (k H locs ls hP hD hS hl)
theorem gl_lload_n (hC : gCL X cc own d L nL ret) {j : Fin 4} {i : Nat} {x : Int64} (q : Nat) (hd : decode cc pc = .ok (.lload_n j, 1)) (hi : (j : Nat) = i) (hq : lv[q]? = some (i, .long x)) (k : gl X cs ws lv (pc + 1) (.long x :: st)) : gl X cs ws lv pc st :=
  fun H locs ls hP hD hS hl => lv_lload_n hC.1 hC.2.1 hd hi (lv_at hl q hq) (k H locs ls hP hD hS hl)
theorem gl_istore_n (hC : gCL X cc own d L nL ret) {j : Fin 4} {i : Nat} {x : Int32} (lv' : List (Nat × Value)) (hd : decode cc pc = .ok (.istore_n j, 1)) (hi : (j : Nat) = i) (hn : i < nL) (hl' : (i, Value.int x) :: lv.filter (fun q => !(q.1 == i) && !(q.1 + 1 == i && q.2.category == 2)) = lv') (k : gl X cs ws lv' (pc + 1) st) : gl X cs ws lv pc (.int x :: st) :=
  fun H locs ls hP hD hS hl => lv_istore_n hC.1 hC.2.1 hd hi hl (by rw [hC.2.2.2.2.2.2.2.2.2.1]; exact hn) hl' (fun ls2 h2 => k H locs ls2 hP hD hS h2)
theorem gl_istore (hC : gCL X cc own d L nL ret) {i : Nat} {x : Int32} (lv' : List (Nat × Value)) (hd : decode cc pc = .ok (.istore i, 2)) (hn : i < nL) (hl' : (i, Value.int x) :: lv.filter (fun q => !(q.1 == i) && !(q.1 + 1 == i && q.2.category == 2)) = lv') (k : gl X cs ws lv' (pc + 2) st) : gl X cs ws lv pc (.int x :: st) :=
  fun H locs ls hP hD hS hl => lv_istore hC.1 hC.2.1 hd hl (by rw [hC.2.2.2.2.2.2.2.2.2.1]; exact hn) hl' (fun ls2 h2 => k H locs ls2 hP hD hS h2)
theorem gl_iinc (hC : gCL X cc own d L nL ret) {i : Nat} {n : Int} {x : Int32} (v : Int32) (q : Nat) (lv' : List (Nat × Value)) (hd : decode cc pc = .ok (.iinc i n, 3)) (hq : lv[q]? = some (i, .int x)) (hv : x + Int32.ofInt n = v) (hn : i < nL) (hl' : (i, Value.int v) :: lv.filter (fun q => !(q.1 == i) && !(q.1 + 1 == i && q.2.category == 2)) = lv') (k : gl X cs ws lv' (pc + 3) st) : gl X cs ws lv pc st :=
  fun H locs ls hP hD hS hl => lv_iinc hC.1 hC.2.1 hd hl hq hv (by rw [hC.2.2.2.2.2.2.2.2.2.1]; exact hn) hl' (fun ls2 h2 => k H locs ls2 hP hD hS h2)
theorem gl_iadd (hC : gCL X cc own d L nL ret) {x y : Int32} (hd : decode cc pc = .ok (.iadd, 1)) (k : gl X cs ws lv (pc + 1) (.int (x + y) :: st)) : gl X cs ws lv pc (.int y :: .int x :: st) :=
  fun H locs ls hP hD hS hl => lv_iadd hC.1 hC.2.1 hd (k H locs ls hP hD hS hl)
theorem gl_isub (hC : gCL X cc own d L nL ret) {x y : Int32} (hd : decode cc pc = .ok (.isub, 1)) (k : gl X cs ws lv (pc + 1) (.int (x - y) :: st)) : gl X cs ws lv pc (.int y :: .int x :: st) :=
  fun H locs ls hP hD hS hl => lv_isub hC.1 hC.2.1 hd (k H locs ls hP hD hS hl)
theorem gl_imul (hC : gCL X cc own d L nL ret) {x y : Int32} (hd : decode cc pc = .ok (.imul, 1)) (k : gl X cs ws lv (pc + 1) (.int (x * y) :: st)) : gl X cs ws lv pc (.int y :: .int x :: st) :=
  fun H locs ls hP hD hS hl => lv_imul hC.1 hC.2.1 hd (k H locs ls hP hD hS hl)
theorem gl_iand (hC : gCL X cc own d L nL ret) {x y : Int32} (hd : decode cc pc = .ok (.iand, 1)) (k : gl X cs ws lv (pc + 1) (.int (x &&& y) :: st)) : gl X cs ws lv pc (.int y :: .int x :: st) :=
  fun H locs ls hP hD hS hl => lv_iand hC.1 hC.2.1 hd (k H locs ls hP hD hS hl)
theorem gl_ior (hC : gCL X cc own d L nL ret) {x y : Int32} (hd : decode cc pc = .ok (.ior, 1)) (k : gl X cs ws lv (pc + 1) (.int (x ||| y) :: st)) : gl X cs ws lv pc (.int y :: .int x :: st) :=
  fun H locs ls hP hD hS hl => lv_ior hC.1 hC.2.1 hd (k H locs ls hP hD hS hl)
theorem gl_ishl (hC : gCL X cc own d L nL ret) {x y : Int32} (hd : decode cc pc = .ok (.ishl, 1)) (k : gl X cs ws lv (pc + 1) (.int (x <<< (y &&& 31)) :: st)) : gl X cs ws lv pc (.int y :: .int x :: st) :=
  fun H locs ls hP hD hS hl => lv_ishl hC.1 hC.2.1 hd (k H locs ls hP hD hS hl)
theorem gl_irem (hC : gCL X cc own d L nL ret) {x y : Int32} (hd : decode cc pc = .ok (.irem, 1)) (hne : ¬ y = 0) (k : gl X cs ws lv (pc + 1) (.int (x - x / y * y) :: st)) : gl X cs ws lv pc (.int y :: .int x :: st) :=
  fun H locs ls hP hD hS hl => lv_irem hC.1 hC.2.1 hd hne (k H locs ls hP hD hS hl)
theorem gl_iushr (hC : gCL X cc own d L nL ret) {x y : Int32} (hd : decode cc pc = .ok (.iushr, 1)) (k : gl X cs ws lv (pc + 1) (.int ((x.toUInt32 >>> (y.toUInt32 &&& Int32.toUInt32 31)).toInt32) :: st)) : gl X cs ws lv pc (.int y :: .int x :: st) :=
  fun H locs ls hP hD hS hl => lv_iushr hC.1 hC.2.1 hd rfl (k H locs ls hP hD hS hl)
theorem gl_lushr (hC : gCL X cc own d L nL ret) {x : Int64} {y : Int32} (hd : decode cc pc = .ok (.lushr, 1)) (k : gl X cs ws lv (pc + 1) (.long ((x.toUInt64 >>> (y.toInt64.toUInt64 &&& Int64.toUInt64 63)).toInt64) :: st)) : gl X cs ws lv pc (.int y :: .long x :: st) :=
  fun H locs ls hP hD hS hl => lv_lushr hC.1 hC.2.1 hd rfl (k H locs ls hP hD hS hl)
theorem gl_lshr (hC : gCL X cc own d L nL ret) {x : Int64} {y : Int32} (hd : decode cc pc = .ok (.lshr, 1)) (k : gl X cs ws lv (pc + 1) (.long (x >>> (y.toInt64 &&& 63)) :: st)) : gl X cs ws lv pc (.int y :: .long x :: st) :=
  fun H locs ls hP hD hS hl => lv_lshr hC.1 hC.2.1 hd rfl (k H locs ls hP hD hS hl)
theorem gl_lshl (hC : gCL X cc own d L nL ret) {x : Int64} {y : Int32} (hd : decode cc pc = .ok (.lshl, 1)) (k : gl X cs ws lv (pc + 1) (.long (x <<< (y.toInt64 &&& 63)) :: st)) : gl X cs ws lv pc (.int y :: .long x :: st) :=
  fun H locs ls hP hD hS hl => lv_lshl hC.1 hC.2.1 hd rfl (k H locs ls hP hD hS hl)
theorem gl_land (hC : gCL X cc own d L nL ret) {x y : Int64} (hd : decode cc pc = .ok (.land, 1)) (k : gl X cs ws lv (pc + 1) (.long (x &&& y) :: st)) : gl X cs ws lv pc (.long y :: .long x :: st) :=
  fun H locs ls hP hD hS hl => lv_land hC.1 hC.2.1 hd (k H locs ls hP hD hS hl)
theorem gl_lor (hC : gCL X cc own d L nL ret) {x y : Int64} (hd : decode cc pc = .ok (.lor, 1)) (k : gl X cs ws lv (pc + 1) (.long (x ||| y) :: st)) : gl X cs ws lv pc (.long y :: .long x :: st) :=
  fun H locs ls hP hD hS hl => lv_lor hC.1 hC.2.1 hd (k H locs ls hP hD hS hl)
theorem gl_l2i (hC : gCL X cc own d L nL ret) {x : Int64} (hd : decode cc pc = .ok (.l2i, 1)) (k : gl X cs ws lv (pc + 1) (.int (x.toInt32) :: st)) : gl X cs ws lv pc (.long x :: st) :=
  fun H locs ls hP hD hS hl => lv_l2i hC.1 hC.2.1 hd rfl (k H locs ls hP hD hS hl)
theorem gl_i2l (hC : gCL X cc own d L nL ret) {x : Int32} (hd : decode cc pc = .ok (.i2l, 1)) (k : gl X cs ws lv (pc + 1) (.long (x.toInt64) :: st)) : gl X cs ws lv pc (.int x :: st) :=
  fun H locs ls hP hD hS hl => lv_i2l hC.1 hC.2.1 hd rfl (k H locs ls hP hD hS hl)
theorem gl_dup (hC : gCL X cc own d L nL ret) {v : Value} (hd : decode cc pc = .ok (.dup, 1)) (hv : v.category = 1) (k : gl X cs ws lv (pc + 1) (v :: v :: st)) : gl X cs ws lv pc (v :: st) :=
  fun H locs ls hP hD hS hl => lv_dup hC.1 hC.2.1 hd hv (k H locs ls hP hD hS hl)
theorem gl_pop (hC : gCL X cc own d L nL ret) {v : Value} (hd : decode cc pc = .ok (.pop, 1)) (hv : v.category = 1) (k : gl X cs ws lv (pc + 1) st) : gl X cs ws lv pc (v :: st) :=
  fun H locs ls hP hD hS hl => lv_pop hC.1 hC.2.1 hd hv (k H locs ls hP hD hS hl)
theorem gl_goto (hC : gCL X cc own d L nL ret) {off : Int} (tgt : Nat) (hd : decode cc pc = .ok (.goto off, 3)) (ht : (pc : Int) + off = (tgt : Int)) (k : gl X cs ws lv tgt st) : gl X cs ws lv pc st :=
  fun H locs ls hP hD hS hl => lv_goto hC.1 hC.2.1 hd ht (k H locs ls hP hD hS hl)
theorem gl_icmp_eq (hC : gCL X cc own d L nL ret) {x y : Int32} {off : Int} (tgt : Nat) (hd : decode cc pc = .ok (.if_icmp .eq off, 3)) (ht : (pc : Int) + off = (tgt : Int)) (kt : x = y → gl X cs ws lv tgt st) (kf : ¬ x = y → gl X cs ws lv (pc + 3) st) : gl X cs ws lv pc (.int y :: .int x :: st) :=
  fun H locs ls hP hD hS hl => lv_icmp_eq hC.1 hC.2.1 hd ht (fun h => kt h H locs ls hP hD hS hl) (fun h => kf h H locs ls hP hD hS hl)
theorem gl_if_eq (hC : gCL X cc own d L nL ret) {x : Int32} {off : Int} (tgt : Nat) (hd : decode cc pc = .ok (.ifCond .eq off, 3)) (ht : (pc : Int) + off = (tgt : Int)) (kt : x = 0 → gl X cs ws lv tgt st) (kf : ¬ x = 0 → gl X cs ws lv (pc + 3) st) : gl X cs ws lv pc (.int x :: st) :=
  fun H locs ls hP hD hS hl => lv_if_eq hC.1 hC.2.1 hd ht (fun h => kt h H locs ls hP hD hS hl) (fun h => kf h H locs ls hP hD hS hl)
theorem gl_icmp_ne (hC : gCL X cc own d L nL ret) {x y : Int32} {off : Int} (tgt : Nat) (hd : decode cc pc = .ok (.if_icmp .ne off, 3)) (ht : (pc : Int) + off = (tgt : Int)) (kt : ¬ x = y → gl X cs ws lv tgt st) (kf : x = y → gl X cs ws lv (pc + 3) st) : gl X cs ws lv pc (.int y :: .int x :: st) :=
  fun H locs ls hP hD hS hl => lv_icmp_ne hC.1 hC.2.1 hd ht (fun h => kt h H locs ls hP hD hS hl) (fun h => kf h H locs ls hP hD hS hl)
theorem gl_if_ne (hC : gCL X cc own d L nL ret) {x : Int32} {off : Int} (tgt : Nat) (hd : decode cc pc = .ok (.ifCond .ne off, 3)) (ht : (pc : Int) + off = (tgt : Int)) (kt : ¬ x = 0 → gl X cs ws lv tgt st) (kf : x = 0 → gl X cs ws lv (pc + 3) st) : gl X cs ws lv pc (.int x :: st) :=
  fun H locs ls hP hD hS hl => lv_if_ne hC.1 hC.2.1 hd ht (fun h => kt h H locs ls hP hD hS hl) (fun h => kf h H locs ls hP hD hS hl)
theorem gl_icmp_lt (hC : gCL X cc own d L nL ret) {x y : Int32} {off : Int} (tgt : Nat) (hd : decode cc pc = .ok (.if_icmp .lt off, 3)) (ht : (pc : Int) + off = (tgt : Int)) (kt : x < y → gl X cs ws lv tgt st) (kf : ¬ x < y → gl X cs ws lv (pc + 3) st) : gl X cs ws lv pc (.int y :: .int x :: st) :=
  fun H locs ls hP hD hS hl => lv_icmp_lt hC.1 hC.2.1 hd ht (fun h => kt h H locs ls hP hD hS hl) (fun h => kf h H locs ls hP hD hS hl)
theorem gl_if_lt (hC : gCL X cc own d L nL ret) {x : Int32} {off : Int} (tgt : Nat) (hd : decode cc pc = .ok (.ifCond .lt off, 3)) (ht : (pc : Int) + off = (tgt : Int)) (kt : x < 0 → gl X cs ws lv tgt st) (kf : ¬ x < 0 → gl X cs ws lv (pc + 3) st) : gl X cs ws lv pc (.int x :: st) :=
  fun H locs ls hP hD hS hl => lv_if_lt hC.1 hC.2.1 hd ht (fun h => kt h H locs ls hP hD hS hl) (fun h => kf h H locs ls hP hD hS hl)
theorem gl_icmp_ge (hC : gCL X cc own d L nL ret) {x y : Int32} {off : Int} (tgt : Nat) (hd : decode cc pc = .ok (.if_icmp .ge off, 3)) (ht : (pc : Int) + off = (tgt : Int)) (kt : y ≤ x → gl X cs ws lv tgt st) (kf : ¬ y ≤ x → gl X cs ws lv (pc + 3) st) : gl X cs ws lv pc (.int y :: .int x :: st) :=
  fun H locs ls hP hD hS hl => lv_icmp_ge hC.1 hC.2.1 hd ht (fun h => kt h H locs ls hP hD hS hl) (fun h => kf h H locs ls hP hD hS hl)
theorem gl_if_ge (hC : gCL X cc own d L nL ret) {x : Int32} {off : Int} (tgt : Nat) (hd : decode cc pc = .ok (.ifCond .ge off, 3)) (ht : (pc : Int) + off = (tgt : Int)) (kt : 0 ≤ x → gl X cs ws lv tgt st) (kf : ¬ 0 ≤ x → gl X cs ws lv (pc + 3) st) : gl X cs ws lv pc (.int x :: st) :=
  fun H locs ls hP hD hS hl => lv_if_ge hC.1 hC.2.1 hd ht (fun h => kt h H locs ls hP hD hS hl) (fun h => kf h H locs ls hP hD hS hl)
theorem gl_icmp_gt (hC : gCL X cc own d L nL ret) {x y : Int32} {off : Int} (tgt : Nat) (hd : decode cc pc = .ok (.if_icmp .gt off, 3)) (ht : (pc : Int) + off = (tgt : Int)) (kt : y < x → gl X cs ws lv tgt st) (kf : ¬ y < x → gl X cs ws lv (pc + 3) st) : gl X cs ws lv pc (.int y :: .int x :: st) :=
  fun H locs ls hP hD hS hl => lv_icmp_gt hC.1 hC.2.1 hd ht (fun h => kt h H locs ls hP hD hS hl) (fun h => kf h H locs ls hP hD hS hl)
theorem gl_if_gt (hC : gCL X cc own d L nL ret) {x : Int32} {off : Int} (tgt : Nat) (hd : decode cc pc = .ok (.ifCond .gt off, 3)) (ht : (pc : Int) + off = (tgt : Int)) (kt : 0 < x → gl X cs ws lv tgt st) (kf : ¬ 0 < x → gl X cs ws lv (pc + 3) st) : gl X cs ws lv pc (.int x :: st) :=
  fun H locs ls hP hD hS hl => lv_if_gt hC.1 hC.2.1 hd ht (fun h => kt h H locs ls hP hD hS hl) (fun h => kf h H locs ls hP hD hS hl)
theorem gl_icmp_le (hC : gCL X cc own d L nL ret) {x y : Int32} {off : Int} (tgt : Nat) (hd : decode cc pc = .ok (.if_icmp .le off, 3)) (ht : (pc : Int) + off = (tgt : Int)) (kt : x ≤ y → gl X cs ws lv tgt st) (kf : ¬ x ≤ y → gl X cs ws lv (pc + 3) st) : gl X cs ws lv pc (.int y :: .int x :: st) :=
  fun H locs ls hP hD hS hl => lv_icmp_le hC.1 hC.2.1 hd ht (fun h => kt h H locs ls hP hD hS hl) (fun h => kf h H locs ls hP hD hS hl)
theorem gl_if_le (hC : gCL X cc own d L nL ret) {x : Int32} {off : Int} (tgt : Nat) (hd : decode cc pc = .ok (.ifCond .le off, 3)) (ht : (pc : Int) + off = (tgt : Int)) (kt : x ≤ 0 → gl X cs ws lv tgt st) (kf : ¬ x ≤ 0 → gl X cs ws lv (pc + 3) st) : gl X cs ws lv pc (.int x :: st) :=
  fun H locs ls hP hD hS hl => lv_if_le hC.1 hC.2.1 hd ht (fun h => kt h H locs ls hP hD hS hl) (fun h => kf h H locs ls hP hD hS hl)
theorem gl_tableIn (hC : gCL X cc own d L nL ret) {dflt lo hi : Int} {offs : Array Int} {len : Nat} {x : Int32} (off : Int) (tgt : Nat) (hd : decode cc pc = .ok (.tableswitch dflt lo hi offs, len)) (h1 : ¬ x.toInt < lo) (h2 : ¬ hi < x.toInt) (ho : offs[(x.toInt - lo).toNat]? = some off) (ht : (pc : Int) + off = (tgt : Int)) (k : gl X cs ws lv tgt st) : gl X cs ws lv pc (.int x :: st) :=
  fun H locs ls hP hD hS hl => lv_tableIn hC.1 hC.2.1 hd h1 h2 ho ht (k H locs ls hP hD hS hl)
theorem gl_tableOut (hC : gCL X cc own d L nL ret) {dflt lo hi : Int} {offs : Array Int} {len : Nat} {x : Int32} (tgt : Nat) (hd : decode cc pc = .ok (.tableswitch dflt lo hi offs, len)) (h : x.toInt < lo ∨ hi < x.toInt) (ht : (pc : Int) + dflt = (tgt : Int)) (k : gl X cs ws lv tgt st) : gl X cs ws lv pc (.int x :: st) :=
  fun H locs ls hP hD hS hl => lv_tableOut hC.1 hC.2.1 hd h ht (k H locs ls hP hD hS hl)
theorem gl_lookup (hC : gCL X cc own d L nL ret) {dflt : Int} {ps : Array (Int × Int)} {len : Nat} {x : Int32} (off : Int) (tgt : Nat) (hd : decode cc pc = .ok (.lookupswitch dflt ps, len)) (hp : (ps.toList.zip (ps.toList.drop 1)).all (fun (a, next) => a.1 < next.1) = true) (ho : Op.lookupswitch.offset ps.toList dflt x.toInt = off) (ht : (pc : Int) + off = (tgt : Int)) (k : gl X cs ws lv tgt st) : gl X cs ws lv pc (.int x :: st) :=
  fun H locs ls hP hD hS hl => lv_lookup hC.1 hC.2.1 hd hp ho ht (k H locs ls hP hD hS hl)
theorem gl_astore_n (hC : gCL X cc own d L nL ret) {j : Fin 4} {i x : Nat} (lv' : List (Nat × Value)) (hd : decode cc pc = .ok (.astore_n j, 1)) (hi : (j : Nat) = i) (hn : i < nL) (hl' : (i, Value.ref x) :: lv.filter (fun q => !(q.1 == i) && !(q.1 + 1 == i && q.2.category == 2)) = lv') (k : gl X cs ws lv' (pc + 1) st) : gl X cs ws lv pc (.ref x :: st) :=
  fun H locs ls hP hD hS hl => lv_astore_n hC.1 hC.2.1 hd hi hl (by rw [hC.2.2.2.2.2.2.2.2.2.1]; exact hn) hl' (fun ls2 h2 => k H locs ls2 hP hD hS h2)
theorem gl_astore (hC : gCL X cc own d L nL ret) {i x : Nat} (lv' : List (Nat × Value)) (hd : decode cc pc = .ok (.astore i, 2)) (hn : i < nL) (hl' : (i, Value.ref x) :: lv.filter (fun q => !(q.1 == i) && !(q.1 + 1 == i && q.2.category == 2)) = lv') (k : gl X cs ws lv' (pc + 2) st) : gl X cs ws lv pc (.ref x :: st) :=
  fun H locs ls hP hD hS hl => lv_astore hC.1 hC.2.1 hd hl (by rw [hC.2.2.2.2.2.2.2.2.2.1]; exact hn) hl' (fun ls2 h2 => k H locs ls2 hP hD hS h2)
theorem gl_lcmp (hC : gCL X cc own d L nL ret) {x y : Int64} (hd : decode cc pc = .ok (.lcmp, 1)) (k : gl X cs ws lv (pc + 1) (.int (lg_cmp x y) :: st)) : gl X cs ws lv pc (.long y :: .long x :: st) :=
  fun H locs ls hP hD hS hl => W.lcmp hC.1 hC.2.1 hd (k H locs ls hP hD hS hl)
theorem gl_lald (hC : gCL X cc own d L nL ret) {a : Nat} (q0 : Nat) {n : Nat} {f : Nat → Int64} (he : ws[q0]? = some (a, .inl (X.2.2.2.1, n, .inr (.inl f)))) {i : Int32} (hi : vp_in i n) (hd : decode cc pc = .ok (.laload, 1)) (k : gl X cs ws lv (pc + 1) (.long (f i.toNatClampNeg) :: st)) : gl X cs ws lv pc (.int i :: .ref a :: st) :=
  fun H locs ls hP hD hS hl => va_lald hC.1 hC.2.1 hC.2.2.2.2.2.1 hP q0 1 he rfl hi hd (k H locs ls hP hD hS hl)
theorem gl_last (hC : gCL X cc own d L nL ret) {a : Nat} (q0 : Nat) {n : Nat} {f : Nat → Int64} (he : ws[q0]? = some (a, .inl (X.2.2.2.1, n, .inr (.inl f)))) {i : Int32} {x : Int64} (hi : vp_in i n) (ws1 : va_W) (h1 : ws.set q0 (a, .inl (X.2.2.2.1, n, .inr (.inl (vp_updL f i.toNatClampNeg x)))) = ws1) (hd : decode cc pc = .ok (.lastore, 1)) (k : gl X cs ws1 lv (pc + 1) st) : gl X cs ws lv pc (.long x :: .int i :: .ref a :: st) :=
  fun H locs ls hP hD hS hl => va_last hC.1 hC.2.1 hC.2.2.2.2.2.1 hP hD hS q0 1 he rfl hi hd (fun H1 locs1 p1 d1 s1 => k H1 locs1 ls (h1 ▸ p1) (h1 ▸ d1) s1 hl)
theorem gl_sld (hC : gCL X cc own d L nL ret) {b N : Nat} {xs : Nat → Int32} (hX : va_X b N xs X.1.2.2.2.2.1 X.1.2.2.2.2.1.heap) (hbl : b < X.1.2.2.2.2.1.heap.size) (hbA : ¬ X.2.2.2.2.1 b) {i : Int32} (hi : vp_in i N) (hd : decode cc pc = .ok (.iaload, 1)) (k : gl X cs ws lv (pc + 1) (.int (xs i.toNatClampNeg) :: st)) : gl X cs ws lv pc (.int i :: .ref b :: st) :=
  fun H locs ls hP hD hS hl => va_sld hC.1 hC.2.1 hX hbl hbA hS hi hd (k H locs ls hP hD hS hl)
theorem gl_slen (hC : gCL X cc own d L nL ret) {b N : Nat} {xs : Nat → Int32} (hX : va_X b N xs X.1.2.2.2.2.1 X.1.2.2.2.2.1.heap) (hbl : b < X.1.2.2.2.2.1.heap.size) (hbA : ¬ X.2.2.2.2.1 b) (hd : decode cc pc = .ok (.arraylength, 1)) (k : gl X cs ws lv (pc + 1) (.int (Int32.ofNat N) :: st)) : gl X cs ws lv pc (.ref b :: st) :=
  fun H locs ls hP hD hS hl => va_slen hC.1 hC.2.1 hX hbl hbA hS hd (k H locs ls hP hD hS hl)
theorem gl_swap {a b : va_W} (k : gl X cs (b ++ a) lv pc st) : gl X cs (a ++ b) lv pc st := fun H locs ls hP hD hS hl => k H locs ls (g_swapP hP) (g_swapD hD) hS hl
theorem gl_ws {ws1 : va_W} (h : ws = ws1) (k : gl X cs ws1 lv pc st) : gl X cs ws lv pc st := h ▸ k
/-- behind a call: no cell is made -/
theorem gl_ran {as : Array Value} {ws1 : va_W} {r1 : Option Value} {st0 rest : List Value} (hC : gCL X cc own d L nL ret)
    (hr : ∀ (H : Heap) (locs : List Loc) (ls : Array Slot), va_P X.2.1 vwCl ws H → va_D X.2.2.2.2.1 ws → va_S X.2.2.2.2.1 X.1.2.2.2.2.1.heap H locs → lv_has ls X.2.2.2.2.2.1 lv →
      va_Run X.1.1 X.1.2.1 X.1.2.2.1 X.1.2.2.2.1 X.1.2.2.2.2.1 X.1.2.2.2.2.2.1 X.1.2.2.2.2.2.2.1 X.1.2.2.2.2.2.2.2.1 X.1.2.2.2.2.2.2.2.2.1 X.1.2.2.2.2.2.2.2.2.2 H locs cs.1 cs.2 0 0 (F0 X.1.2.2.2.2.2.1 pc ls st0) rest (g_Q X.2.1 X.2.2.1 (va_A ws H.size) r1 ws1 as) (va_A ws H.size))
    (k : gl X cs ws1 lv (pc + 3) (r1.toList ++ rest)) : gl X cs ws lv pc st0 := by
  intro H locs ls hP hD hS hl T hT XX
  obtain ⟨v, st₀, t, T', L, h0, X', hL, e1, e2, ⟨⟨hv, hP1, hK1, hD1⟩, hz, hk⟩, stp⟩ := hr H locs ls hP hD hS hl T hT XX
  cases hv
  rw [h0] at hz hk
  have hfree : ∀ q, va_A ws H.size q → X.2.2.2.2.1 q := fun q h => by
    rcases h with ⟨i, ex, h⟩ | h
    · exact hD.2 i _ h
    · exact hC.2.2.2.2.2.2.1 q (Nat.le_trans hS.1 h)
  obtain ⟨t2, a1, b1⟩ := k T'.heap (locs ++ L) ls (by rw [e1]; exact hP1) (hD1.weaken (fun _ _ _ h => hfree _ h))
    ⟨Nat.le_trans hS.1 (by rw [e1]; exact hz), fun q h1 h2 => by rw [e1, hk q (Nat.lt_of_lt_of_le h1 hS.1) (fun z => h2 (hfree q z))]; exact hS.2.1 q h1 h2, fun q hq => by
      rcases List.mem_append.mp hq with h | h
      · exact hS.2.2 q h
      · exact hfree _ (hL q h)⟩ hl T' rfl X'
  exact ⟨t2, stp t2 a1, b1⟩
theorem g_K1 {D : va_G} {cA cL : ClassId} {U : State} (h : va_K D vwCl [(cA, .int), (cL, .long)] U) : va_K D vwCl [(cA, .int)] U := h.sub [0] rfl
theorem gl_callV (hC : gCL X cc own d L nL ret) {y : MethodName} {cy : ByteArray} {my dy Ly index : Nat} {ry : Option FieldType} (as rest : List Value) {b : Nat} {r1 : Option Value} {ws1 : va_W}
    (hM : Mt X.1.2.1 X.2.1 X.2.2.1 y cy my ry dy Ly (.ref b :: as) ws r1 ws1) (hw : g_okV own index y cy my ry as.length) (q0 : Nat) {ci : Nat} {fs : List Value} (he : ws[q0]? = some (b, .inr (ci, fs))) {q : vw_C} (hc : vwCl[ci]? = some q) (hq : q.1 = y.cls) (hR : dy + 1 ≤ d ∧ 8 + (my + 11) + Ly ≤ L) (hf : cs.1 ≤ X.1.2.2.2.1.cells ∧ cs.2 ≤ X.1.2.2.2.1.slots) (h8 : (rest.map fun v => v.category).sum ≤ 8) (st0 st1 : List Value) (hs0 : as.reverse ++ .ref b :: rest = st0) (hs1 : r1.toList ++ rest = st1)
    (hd : decode cc pc = .ok (.invokevirtual index, 3)) (k : gl X cs ws1 lv (pc + 3) st1) : gl X cs ws lv pc st0 := by
  subst hs0 hs1
  refine gl_ran (as := (Value.ref b :: as).toArray) (rest := rest) hC (fun H locs ls hP hD hS hl => ?_) k
  have hts := hC.2.2.2.2.1
  have hLL := hC.2.2.2.2.2.2.2.2.2.2
  exact va_runV (C := y.cls) ⟨hC.1, hC.2.1, hC.2.2.1, hC.2.2.2.1, hts⟩ (hM H.size) ⟨callB_of as.length hts (g_good hw.1) rfl rfl rfl (hts _ hw.2.1) (hts _ hw.2.2.1) hw.2.2.2.2.2 ⟨Nat.le_trans hR.1 hLL.1, Nat.le_trans hR.2 hLL.2⟩, hts _ hw.2.2.2.1, hts _ hw.2.2.2.2.1⟩
    ⟨g_blind, hq ▸ va_recv hC.2.2.2.2.2.1 hP hc he, fun U hU hW => ⟨rfl, by rw [hU], by rw [hU]; exact hP, va_K.moved hW.alike (g_K1 hC.2.2.2.2.2.1), hD.weaken (fun _ _ _ _ => trivial)⟩⟩ rfl rfl (hl.1.trans hC.2.2.2.2.2.2.2.2.2.1) rfl (lv_room h8) hd ⟨by simpa using hf.1, by simpa using hf.2⟩
end GL
