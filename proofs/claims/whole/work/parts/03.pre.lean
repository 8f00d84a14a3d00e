/-! words of the decompiled functions -/
/-- a state: its int fields (booleans too) by number, its int arrays by number -/
abbrev g_S : Type := (Nat → Int32) × (Nat → Nat → Int32)
def gF (σ : g_S) (k : Nat) (v : Int32) : g_S := (fun j => if j = k then v else σ.1 j, σ.2)
def gA (σ : g_S) (a : Nat) (i : Nat) (v : Int32) : g_S := (σ.1, fun b => if b = a then upd (σ.2 a) i v else σ.2 b)
def gIn (i : Int32) (n : Nat) : Bool := !(decide (i < 0) || decide (n ≤ i.toNatClampNeg))
def gB (v : Int32) : Bool := v == 0 || v == 1
theorem gIn_vp {i : Int32} {n : Nat} (h : gIn i n = true) : vp_in i n := by
  simp only [gIn, Bool.not_eq_true', Bool.or_eq_false_iff, decide_eq_false_iff_not] at h
  exact fun z => z.elim h.1 h.2
theorem gB_narrow {v : Int32} (h : gB v = true) : narrow .boolean (.int v) = .int v := by
  simp only [gB, Bool.or_eq_true, beq_iff_eq] at h
  rcases h with rfl | rfl <;> rfl
theorem g_guard {α : Type} {b : Bool} {x : Option α} {r : α} (h : (if b = true then x else none) = some r) : b = true ∧ x = some r := by
  cases b with
  | true => exact ⟨rfl, by simpa using h⟩
  | false => simp at h
theorem g_bind {α β : Type} {x : Option α} {f : α → Option β} {r : β} (h : x.bind f = some r) : ∃ q, x = some q ∧ f q = some r := by
  cases x with
  | none => simp at h
  | some q => exact ⟨q, rfl, by simpa using h⟩
/-- the words of a call: all methods share one table -/
def g_TB : List Cond := lw_tbl.filter goodWord
theorem g_mem {w : Cond} (h : w ∈ lw_tbl) (hg : goodWord w = true) : w ∈ g_TB := List.mem_filter.mpr ⟨h, hg⟩
theorem g_good {w : Cond} (h : w ∈ g_TB) : GoodIn g_TB (w :: g_TB) := fun v hv => by
  rcases List.mem_cons.mp hv with rfl | hv
  · exact ⟨h, good_of_word (List.mem_filter.mp h).2⟩
  · exact ⟨hv, good_of_word (List.mem_filter.mp hv).2⟩
def g_okS (own : String) (index : Nat) (y : MethodName) (cy : ByteArray) (my : Nat) (ry : Option FieldType) (n : Nat) : Prop :=
  Cond.code y cy my ry ∈ g_TB ∧ Cond.initialized y.cls ∈ g_TB ∧ Cond.methodLink own index y ∈ g_TB ∧ Cond.static y ∈ g_TB ∧ y.cls ≠ "java/lang/invoke/MethodHandle" ∧ y.cls ≠ "java/lang/invoke/VarHandle" ∧ (parseMethodDescriptor y.desc).map (fun d => d.parameters.length) = some n
def g_okV (own : String) (index : Nat) (y : MethodName) (cy : ByteArray) (my : Nat) (ry : Option FieldType) (n : Nat) : Prop :=
  Cond.code y cy my ry ∈ g_TB ∧ Cond.initialized y.cls ∈ g_TB ∧ Cond.methodLink own index y ∈ g_TB ∧ Cond.instanceMethod y ∈ g_TB ∧ Cond.selects y.cls y y ∈ g_TB ∧ y.cls ≠ "java/lang/invoke/MethodHandle" ∧ y.cls ≠ "java/lang/invoke/VarHandle" ∧ (parseMethodDescriptor y.desc).map (fun d => d.parameters.length) = some n
/-- a layout: objects, then int arrays -/
def g_lay (O : (Nat → Int32) → va_W) (nA : Nat) (len aa : Nat → Nat) (cA : ClassId) (σ : g_S) : va_W := O σ.1 ++ (List.range nA).map (fun j => (aa j, .inl (cA, len j, .inl (σ.2 j))))
theorem g_lay_obj {O : (Nat → Int32) → va_W} {nA : Nat} {len aa : Nat → Nat} {cA : ClassId} {σ : g_S} {q : Nat} {x : Nat × va_E} (h : (O σ.1)[q]? = some x) : (g_lay O nA len aa cA σ)[q]? = some x := by
  have hq : q < (O σ.1).length := (List.getElem?_eq_some_iff.mp h).1
  simp only [g_lay]
  rw [List.getElem?_append_left hq]
  exact h
theorem g_lay_arr {O : (Nat → Int32) → va_W} {nA : Nat} {len aa : Nat → Nat} {cA : ClassId} {σ : g_S} {n j : Nat} (hn : (O σ.1).length = n) (hj : j < nA) : (g_lay O nA len aa cA σ)[n + j]? = some (aa j, .inl (cA, len j, .inl (σ.2 j))) := by
  simp only [g_lay]
  rw [List.getElem?_append_right (by omega), hn, Nat.add_sub_cancel_left, List.getElem?_map, List.getElem?_range hj]
  rfl
theorem g_lay_setO {O : (Nat → Int32) → va_W} {nA : Nat} {len aa : Nat → Nat} {cA : ClassId} {σ : g_S} {q k : Nat} {v : Int32} {x : Nat × va_E} (hq : q < (O σ.1).length) (h : (O σ.1).set q x = O (gF σ k v).1) : (g_lay O nA len aa cA σ).set q x = g_lay O nA len aa cA (gF σ k v) := by
  simp only [g_lay]
  rw [List.set_append_left _ _ hq, h]
  rfl
theorem g_lay_setA {O : (Nat → Int32) → va_W} {nA : Nat} {len aa : Nat → Nat} {cA : ClassId} {σ : g_S} {n j i : Nat} {v : Int32} (hn : (O σ.1).length = n) (hj : j < nA) : (g_lay O nA len aa cA σ).set (n + j) (aa j, .inl (cA, len j, .inl (upd (σ.2 j) i v))) = g_lay O nA len aa cA (gA σ j i v) := by
  simp only [g_lay]
  rw [List.set_append_right _ _ (by omega), hn, Nat.add_sub_cancel_left]
  congr 1
  apply List.ext_getElem?
  intro a
  rw [List.getElem?_set]
  by_cases h : j = a
  · subst h
    simp [hj, gA]
  · simp only [h, if_false, List.getElem?_map]
    by_cases ha : a < nA
    · rw [List.getElem?_range ha]
      have hne : ¬ a = j := fun z => h z.symm
      simp [gA, hne]
    · rw [List.getElem?_eq_none (by simpa using ha)]
      rfl
theorem g_lk {x k : Int32} {a o dflt off : Int} {r : List (Int × Int)} (h : ¬ x = k) (ha : k.toInt = a) (hr : Op.lookupswitch.offset r dflt x.toInt = off) : Op.lookupswitch.offset ((a, o) :: r) dflt x.toInt = off := by
  rw [Op.lookupswitch.offset_cons, if_neg (fun z => h (Int32.toInt_inj.mp (z.symm.trans ha.symm)))]
  exact hr
theorem g_i {x k : Int32} {a : Int} (h : x.toInt = a) (hk : k.toInt = a := by decide) : x = k := Int32.toInt_inj.mp (h.trans hk.symm)
theorem g_tb {x : Int32} {lo hi : Int} (h : ∀ k : Int, lo ≤ k → k ≤ hi → x.toInt = k → False) : x.toInt < lo ∨ hi < x.toInt := by
  by_cases h1 : x.toInt < lo
  · exact Or.inl h1
  · by_cases h2 : hi < x.toInt
    · exact Or.inr h2
    · exact (h x.toInt (by omega) (by omega) rfl).elim
theorem in_Desk : ∀ w ∈ u_ws R_Desk T_Desk 8, w ∈ g_TB := fun w hw => g_mem ((by decide +kernel : ∀ w ∈ u_ws R_Desk T_Desk 8, w ∈ lw_tbl) w hw) ((by decide +kernel : ∀ w ∈ u_ws R_Desk T_Desk 8, goodWord w = true) w hw)
theorem in_Program : ∀ w ∈ u_ws R_Program T_Program 19, w ∈ g_TB := fun w hw => g_mem ((by decide +kernel : ∀ w ∈ u_ws R_Program T_Program 19, w ∈ lw_tbl) w hw) ((by decide +kernel : ∀ w ∈ u_ws R_Program T_Program 19, goodWord w = true) w hw)
theorem in_Reader : ∀ w ∈ u_ws R_Reader T_Reader 17, w ∈ g_TB := fun w hw => g_mem ((by decide +kernel : ∀ w ∈ u_ws R_Reader T_Reader 17, w ∈ lw_tbl) w hw) ((by decide +kernel : ∀ w ∈ u_ws R_Reader T_Reader 17, goodWord w = true) w hw)
theorem in_Machine : ∀ w ∈ u_ws R_Machine T_Machine 15, w ∈ g_TB := fun w hw => g_mem ((by decide +kernel : ∀ w ∈ u_ws R_Machine T_Machine 15, w ∈ lw_tbl) w hw) ((by decide +kernel : ∀ w ∈ u_ws R_Machine T_Machine 15, goodWord w = true) w hw)
theorem in_Mod : ∀ w ∈ u_ws R_Mod T_Mod 48, w ∈ g_TB := fun w hw => g_mem ((by decide +kernel : ∀ w ∈ u_ws R_Mod T_Mod 48, w ∈ lw_tbl) w hw) ((by decide +kernel : ∀ w ∈ u_ws R_Mod T_Mod 48, goodWord w = true) w hw)
